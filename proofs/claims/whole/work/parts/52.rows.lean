section
theorem l240_0 : (ax_dt (ax_T 240)).lookup 0 = some (.new 8, 3, 8, 0, 0) := by decide +kernel
theorem l240_3 : (ax_dt (ax_T 240)).lookup 3 = some (.dup, 1, 0, 0, 0) := by decide +kernel
theorem l240_4 : (ax_dt (ax_T 240)).lookup 4 = some (.invokespecial 85, 3, 91, 0, 0) := by decide +kernel
theorem l240_7 : (ax_dt (ax_T 240)).lookup 7 = some (.astore_n 1, 1, 0, 0, 0) := by decide +kernel
theorem l240_8 : (ax_dt (ax_T 240)).lookup 8 = some (.new 86, 3, 9, 0, 0) := by decide +kernel
theorem l240_11 : (ax_dt (ax_T 240)).lookup 11 = some (.dup, 1, 0, 0, 0) := by decide +kernel
theorem l240_12 : (ax_dt (ax_T 240)).lookup 12 = some (.invokespecial 88, 3, 131, 0, 0) := by decide +kernel
theorem l240_15 : (ax_dt (ax_T 240)).lookup 15 = some (.astore_n 2, 1, 0, 0, 0) := by decide +kernel
theorem l240_16 : (ax_dt (ax_T 240)).lookup 16 = some (.iconst 1, 1, 0, 0, 0) := by decide +kernel
theorem l240_17 : (ax_dt (ax_T 240)).lookup 17 = some (.newarray .long, 2, 0, 0, 0) := by decide +kernel
theorem l240_19 : (ax_dt (ax_T 240)).lookup 19 = some (.astore_n 3, 1, 0, 0, 0) := by decide +kernel
theorem l240_20 : (ax_dt (ax_T 240)).lookup 20 = some (.iconst 0, 1, 0, 0, 0) := by decide +kernel
theorem l240_21 : (ax_dt (ax_T 240)).lookup 21 = some (.istore 4, 2, 0, 0, 0) := by decide +kernel
theorem l240_23 : (ax_dt (ax_T 240)).lookup 23 = some (.iload 4, 2, 0, 0, 0) := by decide +kernel
theorem l240_25 : (ax_dt (ax_T 240)).lookup 25 = some (.aload_n 0, 1, 0, 0, 0) := by decide +kernel
theorem l240_26 : (ax_dt (ax_T 240)).lookup 26 = some (.arraylength, 1, 0, 0, 0) := by decide +kernel
theorem l240_27 : (ax_dt (ax_T 240)).lookup 27 = some (.bipush 6, 2, 0, 0, 0) := by decide +kernel
theorem l240_29 : (ax_dt (ax_T 240)).lookup 29 = some (.isub, 1, 0, 0, 0) := by decide +kernel
theorem l240_30 : (ax_dt (ax_T 240)).lookup 30 = some (.if_icmp .gt 1631, 3, 0, 0, 0) := by decide +kernel
theorem l240_33 : (ax_dt (ax_T 240)).lookup 33 = some (.aload_n 0, 1, 0, 0, 0) := by decide +kernel
theorem l240_34 : (ax_dt (ax_T 240)).lookup 34 = some (.iload 4, 2, 0, 0, 0) := by decide +kernel
theorem l240_36 : (ax_dt (ax_T 240)).lookup 36 = some (.iaload, 1, 0, 0, 0) := by decide +kernel
theorem l240_37 : (ax_dt (ax_T 240)).lookup 37 = some (.bipush 31, 2, 0, 0, 0) := by decide +kernel
theorem l240_39 : (ax_dt (ax_T 240)).lookup 39 = some (.iand, 1, 0, 0, 0) := by decide +kernel
theorem l240_40 : (ax_dt (ax_T 240)).lookup 40 = some (.tableswitch 1615 0 23 #[112, 216, 252, 308, 376, 500, 580, 672, 685, 698, 754, 822, 878, 958, 971, 1027, 1083, 1151, 1219, 1275, 1355, 1422, 1502, 1558], 112, 0, 0, 0) := by decide +kernel
theorem l240_152 : (ax_dt (ax_T 240)).lookup 152 = some (.aload_n 1, 1, 0, 0, 0) := by decide +kernel
theorem l240_153 : (ax_dt (ax_T 240)).lookup 153 = some (.aload_n 0, 1, 0, 0, 0) := by decide +kernel
theorem l240_154 : (ax_dt (ax_T 240)).lookup 154 = some (.iload 4, 2, 0, 0, 0) := by decide +kernel
theorem l240_156 : (ax_dt (ax_T 240)).lookup 156 = some (.iconst 1, 1, 0, 0, 0) := by decide +kernel
theorem l240_157 : (ax_dt (ax_T 240)).lookup 157 = some (.iadd, 1, 0, 0, 0) := by decide +kernel
theorem l240_158 : (ax_dt (ax_T 240)).lookup 158 = some (.iaload, 1, 0, 0, 0) := by decide +kernel
theorem l240_159 : (ax_dt (ax_T 240)).lookup 159 = some (.aload_n 0, 1, 0, 0, 0) := by decide +kernel
theorem l240_160 : (ax_dt (ax_T 240)).lookup 160 = some (.iload 4, 2, 0, 0, 0) := by decide +kernel
theorem l240_162 : (ax_dt (ax_T 240)).lookup 162 = some (.iconst 2, 1, 0, 0, 0) := by decide +kernel
theorem l240_163 : (ax_dt (ax_T 240)).lookup 163 = some (.iadd, 1, 0, 0, 0) := by decide +kernel
theorem l240_164 : (ax_dt (ax_T 240)).lookup 164 = some (.iaload, 1, 0, 0, 0) := by decide +kernel
theorem l240_165 : (ax_dt (ax_T 240)).lookup 165 = some (.aload_n 0, 1, 0, 0, 0) := by decide +kernel
theorem l240_166 : (ax_dt (ax_T 240)).lookup 166 = some (.iload 4, 2, 0, 0, 0) := by decide +kernel
theorem l240_168 : (ax_dt (ax_T 240)).lookup 168 = some (.iconst 3, 1, 0, 0, 0) := by decide +kernel
theorem l240_169 : (ax_dt (ax_T 240)).lookup 169 = some (.iadd, 1, 0, 0, 0) := by decide +kernel
theorem l240_170 : (ax_dt (ax_T 240)).lookup 170 = some (.iaload, 1, 0, 0, 0) := by decide +kernel
theorem l240_171 : (ax_dt (ax_T 240)).lookup 171 = some (.aload_n 0, 1, 0, 0, 0) := by decide +kernel
theorem l240_172 : (ax_dt (ax_T 240)).lookup 172 = some (.iload 4, 2, 0, 0, 0) := by decide +kernel
theorem l240_174 : (ax_dt (ax_T 240)).lookup 174 = some (.iconst 4, 1, 0, 0, 0) := by decide +kernel
theorem l240_175 : (ax_dt (ax_T 240)).lookup 175 = some (.iadd, 1, 0, 0, 0) := by decide +kernel
theorem l240_176 : (ax_dt (ax_T 240)).lookup 176 = some (.iaload, 1, 0, 0, 0) := by decide +kernel
theorem l240_177 : (ax_dt (ax_T 240)).lookup 177 = some (.aload_n 0, 1, 0, 0, 0) := by decide +kernel
theorem l240_178 : (ax_dt (ax_T 240)).lookup 178 = some (.iload 4, 2, 0, 0, 0) := by decide +kernel
theorem l240_180 : (ax_dt (ax_T 240)).lookup 180 = some (.iconst 5, 1, 0, 0, 0) := by decide +kernel
theorem l240_181 : (ax_dt (ax_T 240)).lookup 181 = some (.iadd, 1, 0, 0, 0) := by decide +kernel
theorem l240_182 : (ax_dt (ax_T 240)).lookup 182 = some (.iaload, 1, 0, 0, 0) := by decide +kernel
theorem l240_183 : (ax_dt (ax_T 240)).lookup 183 = some (.aload_n 3, 1, 0, 0, 0) := by decide +kernel
theorem l240_184 : (ax_dt (ax_T 240)).lookup 184 = some (.invokestatic 89, 3, 220, 7, 0) := by decide +kernel
theorem l240_187 : (ax_dt (ax_T 240)).lookup 187 = some (.istore 5, 2, 0, 0, 0) := by decide +kernel
theorem l240_189 : (ax_dt (ax_T 240)).lookup 189 = some (.aload_n 2, 1, 0, 0, 0) := by decide +kernel
theorem l240_190 : (ax_dt (ax_T 240)).lookup 190 = some (.aload_n 0, 1, 0, 0, 0) := by decide +kernel
theorem l240_191 : (ax_dt (ax_T 240)).lookup 191 = some (.iload 4, 2, 0, 0, 0) := by decide +kernel
theorem l240_193 : (ax_dt (ax_T 240)).lookup 193 = some (.iconst 1, 1, 0, 0, 0) := by decide +kernel
theorem l240_194 : (ax_dt (ax_T 240)).lookup 194 = some (.iadd, 1, 0, 0, 0) := by decide +kernel
theorem l240_195 : (ax_dt (ax_T 240)).lookup 195 = some (.iaload, 1, 0, 0, 0) := by decide +kernel
theorem l240_196 : (ax_dt (ax_T 240)).lookup 196 = some (.aload_n 0, 1, 0, 0, 0) := by decide +kernel
theorem l240_197 : (ax_dt (ax_T 240)).lookup 197 = some (.iload 4, 2, 0, 0, 0) := by decide +kernel
theorem l240_199 : (ax_dt (ax_T 240)).lookup 199 = some (.iconst 2, 1, 0, 0, 0) := by decide +kernel
theorem l240_200 : (ax_dt (ax_T 240)).lookup 200 = some (.iadd, 1, 0, 0, 0) := by decide +kernel
theorem l240_201 : (ax_dt (ax_T 240)).lookup 201 = some (.iaload, 1, 0, 0, 0) := by decide +kernel
theorem l240_202 : (ax_dt (ax_T 240)).lookup 202 = some (.aload_n 0, 1, 0, 0, 0) := by decide +kernel
theorem l240_203 : (ax_dt (ax_T 240)).lookup 203 = some (.iload 4, 2, 0, 0, 0) := by decide +kernel
theorem l240_205 : (ax_dt (ax_T 240)).lookup 205 = some (.iconst 3, 1, 0, 0, 0) := by decide +kernel
theorem l240_206 : (ax_dt (ax_T 240)).lookup 206 = some (.iadd, 1, 0, 0, 0) := by decide +kernel
theorem l240_207 : (ax_dt (ax_T 240)).lookup 207 = some (.iaload, 1, 0, 0, 0) := by decide +kernel
theorem l240_208 : (ax_dt (ax_T 240)).lookup 208 = some (.aload_n 0, 1, 0, 0, 0) := by decide +kernel
theorem l240_209 : (ax_dt (ax_T 240)).lookup 209 = some (.iload 4, 2, 0, 0, 0) := by decide +kernel
theorem l240_211 : (ax_dt (ax_T 240)).lookup 211 = some (.iconst 4, 1, 0, 0, 0) := by decide +kernel
theorem l240_212 : (ax_dt (ax_T 240)).lookup 212 = some (.iadd, 1, 0, 0, 0) := by decide +kernel
theorem l240_213 : (ax_dt (ax_T 240)).lookup 213 = some (.iaload, 1, 0, 0, 0) := by decide +kernel
theorem l240_214 : (ax_dt (ax_T 240)).lookup 214 = some (.aload_n 0, 1, 0, 0, 0) := by decide +kernel
theorem l240_215 : (ax_dt (ax_T 240)).lookup 215 = some (.iload 4, 2, 0, 0, 0) := by decide +kernel
theorem l240_217 : (ax_dt (ax_T 240)).lookup 217 = some (.iconst 5, 1, 0, 0, 0) := by decide +kernel
theorem l240_218 : (ax_dt (ax_T 240)).lookup 218 = some (.iadd, 1, 0, 0, 0) := by decide +kernel
theorem l240_219 : (ax_dt (ax_T 240)).lookup 219 = some (.iaload, 1, 0, 0, 0) := by decide +kernel
theorem l240_220 : (ax_dt (ax_T 240)).lookup 220 = some (.invokevirtual 94, 3, 137, 5, 0) := by decide +kernel
theorem l240_223 : (ax_dt (ax_T 240)).lookup 223 = some (.istore 6, 2, 0, 0, 0) := by decide +kernel
theorem l240_225 : (ax_dt (ax_T 240)).lookup 225 = some (.aload_n 2, 1, 0, 0, 0) := by decide +kernel
theorem l240_226 : (ax_dt (ax_T 240)).lookup 226 = some (.invokevirtual 95, 3, 132, 0, 0) := by decide +kernel
theorem l240_229 : (ax_dt (ax_T 240)).lookup 229 = some (.iload 5, 2, 0, 0, 0) := by decide +kernel
theorem l240_231 : (ax_dt (ax_T 240)).lookup 231 = some (.if_icmp .eq 5, 3, 0, 0, 0) := by decide +kernel
theorem l240_234 : (ax_dt (ax_T 240)).lookup 234 = some (.iconst 0, 1, 0, 0, 0) := by decide +kernel
theorem l240_235 : (ax_dt (ax_T 240)).lookup 235 = some (.ireturn, 1, 0, 0, 0) := by decide +kernel
theorem l240_236 : (ax_dt (ax_T 240)).lookup 236 = some (.iload 5, 2, 0, 0, 0) := by decide +kernel
theorem l240_238 : (ax_dt (ax_T 240)).lookup 238 = some (.ifCond .ne 15, 3, 0, 0, 0) := by decide +kernel
theorem l240_241 : (ax_dt (ax_T 240)).lookup 241 = some (.aload_n 3, 1, 0, 0, 0) := by decide +kernel
theorem l240_242 : (ax_dt (ax_T 240)).lookup 242 = some (.iconst 0, 1, 0, 0, 0) := by decide +kernel
theorem l240_243 : (ax_dt (ax_T 240)).lookup 243 = some (.laload, 1, 0, 0, 0) := by decide +kernel
theorem l240_244 : (ax_dt (ax_T 240)).lookup 244 = some (.iload 6, 2, 0, 0, 0) := by decide +kernel
theorem l240_246 : (ax_dt (ax_T 240)).lookup 246 = some (.i2l, 1, 0, 0, 0) := by decide +kernel
theorem l240_247 : (ax_dt (ax_T 240)).lookup 247 = some (.lcmp, 1, 0, 0, 0) := by decide +kernel
theorem l240_248 : (ax_dt (ax_T 240)).lookup 248 = some (.ifCond .eq 5, 3, 0, 0, 0) := by decide +kernel
theorem l240_251 : (ax_dt (ax_T 240)).lookup 251 = some (.iconst 0, 1, 0, 0, 0) := by decide +kernel
theorem l240_252 : (ax_dt (ax_T 240)).lookup 252 = some (.ireturn, 1, 0, 0, 0) := by decide +kernel
theorem l240_253 : (ax_dt (ax_T 240)).lookup 253 = some (.goto 1402, 3, 0, 0, 0) := by decide +kernel
theorem l240_256 : (ax_dt (ax_T 240)).lookup 256 = some (.aload_n 1, 1, 0, 0, 0) := by decide +kernel
theorem l240_257 : (ax_dt (ax_T 240)).lookup 257 = some (.aload_n 0, 1, 0, 0, 0) := by decide +kernel
theorem l240_258 : (ax_dt (ax_T 240)).lookup 258 = some (.iload 4, 2, 0, 0, 0) := by decide +kernel
theorem l240_260 : (ax_dt (ax_T 240)).lookup 260 = some (.iconst 1, 1, 0, 0, 0) := by decide +kernel
theorem l240_261 : (ax_dt (ax_T 240)).lookup 261 = some (.iadd, 1, 0, 0, 0) := by decide +kernel
theorem l240_262 : (ax_dt (ax_T 240)).lookup 262 = some (.iaload, 1, 0, 0, 0) := by decide +kernel
theorem l240_263 : (ax_dt (ax_T 240)).lookup 263 = some (.invokestatic 99, 3, 221, 2, 0) := by decide +kernel
theorem l240_266 : (ax_dt (ax_T 240)).lookup 266 = some (.istore 5, 2, 0, 0, 0) := by decide +kernel
theorem l240_268 : (ax_dt (ax_T 240)).lookup 268 = some (.aload_n 2, 1, 0, 0, 0) := by decide +kernel
theorem l240_269 : (ax_dt (ax_T 240)).lookup 269 = some (.aload_n 0, 1, 0, 0, 0) := by decide +kernel
theorem l240_270 : (ax_dt (ax_T 240)).lookup 270 = some (.iload 4, 2, 0, 0, 0) := by decide +kernel
theorem l240_272 : (ax_dt (ax_T 240)).lookup 272 = some (.iconst 1, 1, 0, 0, 0) := by decide +kernel
theorem l240_273 : (ax_dt (ax_T 240)).lookup 273 = some (.iadd, 1, 0, 0, 0) := by decide +kernel
theorem l240_274 : (ax_dt (ax_T 240)).lookup 274 = some (.iaload, 1, 0, 0, 0) := by decide +kernel
theorem l240_275 : (ax_dt (ax_T 240)).lookup 275 = some (.invokevirtual 102, 3, 138, 1, 0) := by decide +kernel
theorem l240_278 : (ax_dt (ax_T 240)).lookup 278 = some (.aload_n 2, 1, 0, 0, 0) := by decide +kernel
theorem l240_279 : (ax_dt (ax_T 240)).lookup 279 = some (.invokevirtual 95, 3, 132, 0, 0) := by decide +kernel
theorem l240_282 : (ax_dt (ax_T 240)).lookup 282 = some (.iload 5, 2, 0, 0, 0) := by decide +kernel
theorem l240_284 : (ax_dt (ax_T 240)).lookup 284 = some (.if_icmp .eq 5, 3, 0, 0, 0) := by decide +kernel
theorem l240_287 : (ax_dt (ax_T 240)).lookup 287 = some (.iconst 0, 1, 0, 0, 0) := by decide +kernel
theorem l240_288 : (ax_dt (ax_T 240)).lookup 288 = some (.ireturn, 1, 0, 0, 0) := by decide +kernel
theorem l240_289 : (ax_dt (ax_T 240)).lookup 289 = some (.goto 1366, 3, 0, 0, 0) := by decide +kernel
theorem l240_292 : (ax_dt (ax_T 240)).lookup 292 = some (.aload_n 1, 1, 0, 0, 0) := by decide +kernel
theorem l240_293 : (ax_dt (ax_T 240)).lookup 293 = some (.aload_n 0, 1, 0, 0, 0) := by decide +kernel
theorem l240_294 : (ax_dt (ax_T 240)).lookup 294 = some (.iload 4, 2, 0, 0, 0) := by decide +kernel
theorem l240_296 : (ax_dt (ax_T 240)).lookup 296 = some (.iconst 1, 1, 0, 0, 0) := by decide +kernel
theorem l240_297 : (ax_dt (ax_T 240)).lookup 297 = some (.iadd, 1, 0, 0, 0) := by decide +kernel
theorem l240_298 : (ax_dt (ax_T 240)).lookup 298 = some (.iaload, 1, 0, 0, 0) := by decide +kernel
theorem l240_299 : (ax_dt (ax_T 240)).lookup 299 = some (.aload_n 3, 1, 0, 0, 0) := by decide +kernel
theorem l240_300 : (ax_dt (ax_T 240)).lookup 300 = some (.invokestatic 103, 3, 222, 3, 0) := by decide +kernel
theorem l240_303 : (ax_dt (ax_T 240)).lookup 303 = some (.istore 5, 2, 0, 0, 0) := by decide +kernel
theorem l240_305 : (ax_dt (ax_T 240)).lookup 305 = some (.aload_n 2, 1, 0, 0, 0) := by decide +kernel
theorem l240_306 : (ax_dt (ax_T 240)).lookup 306 = some (.aload_n 0, 1, 0, 0, 0) := by decide +kernel
theorem l240_307 : (ax_dt (ax_T 240)).lookup 307 = some (.iload 4, 2, 0, 0, 0) := by decide +kernel
theorem l240_309 : (ax_dt (ax_T 240)).lookup 309 = some (.iconst 1, 1, 0, 0, 0) := by decide +kernel
theorem l240_310 : (ax_dt (ax_T 240)).lookup 310 = some (.iadd, 1, 0, 0, 0) := by decide +kernel
theorem l240_311 : (ax_dt (ax_T 240)).lookup 311 = some (.iaload, 1, 0, 0, 0) := by decide +kernel
theorem l240_312 : (ax_dt (ax_T 240)).lookup 312 = some (.invokevirtual 106, 3, 143, 1, 0) := by decide +kernel
theorem l240_315 : (ax_dt (ax_T 240)).lookup 315 = some (.istore 6, 2, 0, 0, 0) := by decide +kernel
theorem l240_317 : (ax_dt (ax_T 240)).lookup 317 = some (.aload_n 2, 1, 0, 0, 0) := by decide +kernel
theorem l240_318 : (ax_dt (ax_T 240)).lookup 318 = some (.invokevirtual 95, 3, 132, 0, 0) := by decide +kernel
theorem l240_321 : (ax_dt (ax_T 240)).lookup 321 = some (.iload 5, 2, 0, 0, 0) := by decide +kernel
theorem l240_323 : (ax_dt (ax_T 240)).lookup 323 = some (.if_icmp .eq 5, 3, 0, 0, 0) := by decide +kernel
theorem l240_326 : (ax_dt (ax_T 240)).lookup 326 = some (.iconst 0, 1, 0, 0, 0) := by decide +kernel
theorem l240_327 : (ax_dt (ax_T 240)).lookup 327 = some (.ireturn, 1, 0, 0, 0) := by decide +kernel
theorem l240_328 : (ax_dt (ax_T 240)).lookup 328 = some (.iload 5, 2, 0, 0, 0) := by decide +kernel
theorem l240_330 : (ax_dt (ax_T 240)).lookup 330 = some (.ifCond .ne 15, 3, 0, 0, 0) := by decide +kernel
theorem l240_333 : (ax_dt (ax_T 240)).lookup 333 = some (.aload_n 3, 1, 0, 0, 0) := by decide +kernel
theorem l240_334 : (ax_dt (ax_T 240)).lookup 334 = some (.iconst 0, 1, 0, 0, 0) := by decide +kernel
theorem l240_335 : (ax_dt (ax_T 240)).lookup 335 = some (.laload, 1, 0, 0, 0) := by decide +kernel
theorem l240_336 : (ax_dt (ax_T 240)).lookup 336 = some (.iload 6, 2, 0, 0, 0) := by decide +kernel
theorem l240_338 : (ax_dt (ax_T 240)).lookup 338 = some (.i2l, 1, 0, 0, 0) := by decide +kernel
theorem l240_339 : (ax_dt (ax_T 240)).lookup 339 = some (.lcmp, 1, 0, 0, 0) := by decide +kernel
theorem l240_340 : (ax_dt (ax_T 240)).lookup 340 = some (.ifCond .eq 5, 3, 0, 0, 0) := by decide +kernel
theorem l240_343 : (ax_dt (ax_T 240)).lookup 343 = some (.iconst 0, 1, 0, 0, 0) := by decide +kernel
theorem l240_344 : (ax_dt (ax_T 240)).lookup 344 = some (.ireturn, 1, 0, 0, 0) := by decide +kernel
theorem l240_345 : (ax_dt (ax_T 240)).lookup 345 = some (.goto 1310, 3, 0, 0, 0) := by decide +kernel
theorem l240_348 : (ax_dt (ax_T 240)).lookup 348 = some (.aload_n 1, 1, 0, 0, 0) := by decide +kernel
theorem l240_349 : (ax_dt (ax_T 240)).lookup 349 = some (.aload_n 0, 1, 0, 0, 0) := by decide +kernel
theorem l240_350 : (ax_dt (ax_T 240)).lookup 350 = some (.iload 4, 2, 0, 0, 0) := by decide +kernel
theorem l240_352 : (ax_dt (ax_T 240)).lookup 352 = some (.iconst 1, 1, 0, 0, 0) := by decide +kernel
theorem l240_353 : (ax_dt (ax_T 240)).lookup 353 = some (.iadd, 1, 0, 0, 0) := by decide +kernel
theorem l240_354 : (ax_dt (ax_T 240)).lookup 354 = some (.iaload, 1, 0, 0, 0) := by decide +kernel
theorem l240_355 : (ax_dt (ax_T 240)).lookup 355 = some (.aload_n 0, 1, 0, 0, 0) := by decide +kernel
theorem l240_356 : (ax_dt (ax_T 240)).lookup 356 = some (.iload 4, 2, 0, 0, 0) := by decide +kernel
theorem l240_358 : (ax_dt (ax_T 240)).lookup 358 = some (.iconst 2, 1, 0, 0, 0) := by decide +kernel
theorem l240_359 : (ax_dt (ax_T 240)).lookup 359 = some (.iadd, 1, 0, 0, 0) := by decide +kernel
theorem l240_360 : (ax_dt (ax_T 240)).lookup 360 = some (.iaload, 1, 0, 0, 0) := by decide +kernel
theorem l240_361 : (ax_dt (ax_T 240)).lookup 361 = some (.aload_n 3, 1, 0, 0, 0) := by decide +kernel
theorem l240_362 : (ax_dt (ax_T 240)).lookup 362 = some (.invokestatic 107, 3, 223, 4, 0) := by decide +kernel
theorem l240_365 : (ax_dt (ax_T 240)).lookup 365 = some (.istore 5, 2, 0, 0, 0) := by decide +kernel
theorem l240_367 : (ax_dt (ax_T 240)).lookup 367 = some (.aload_n 2, 1, 0, 0, 0) := by decide +kernel
theorem l240_368 : (ax_dt (ax_T 240)).lookup 368 = some (.aload_n 0, 1, 0, 0, 0) := by decide +kernel
theorem l240_369 : (ax_dt (ax_T 240)).lookup 369 = some (.iload 4, 2, 0, 0, 0) := by decide +kernel
theorem l240_371 : (ax_dt (ax_T 240)).lookup 371 = some (.iconst 1, 1, 0, 0, 0) := by decide +kernel
theorem l240_372 : (ax_dt (ax_T 240)).lookup 372 = some (.iadd, 1, 0, 0, 0) := by decide +kernel
theorem l240_373 : (ax_dt (ax_T 240)).lookup 373 = some (.iaload, 1, 0, 0, 0) := by decide +kernel
theorem l240_374 : (ax_dt (ax_T 240)).lookup 374 = some (.aload_n 0, 1, 0, 0, 0) := by decide +kernel
theorem l240_375 : (ax_dt (ax_T 240)).lookup 375 = some (.iload 4, 2, 0, 0, 0) := by decide +kernel
theorem l240_377 : (ax_dt (ax_T 240)).lookup 377 = some (.iconst 2, 1, 0, 0, 0) := by decide +kernel
theorem l240_378 : (ax_dt (ax_T 240)).lookup 378 = some (.iadd, 1, 0, 0, 0) := by decide +kernel
theorem l240_379 : (ax_dt (ax_T 240)).lookup 379 = some (.iaload, 1, 0, 0, 0) := by decide +kernel
theorem l240_380 : (ax_dt (ax_T 240)).lookup 380 = some (.invokevirtual 110, 3, 145, 2, 0) := by decide +kernel
theorem l240_383 : (ax_dt (ax_T 240)).lookup 383 = some (.istore 6, 2, 0, 0, 0) := by decide +kernel
theorem l240_385 : (ax_dt (ax_T 240)).lookup 385 = some (.aload_n 2, 1, 0, 0, 0) := by decide +kernel
theorem l240_386 : (ax_dt (ax_T 240)).lookup 386 = some (.invokevirtual 95, 3, 132, 0, 0) := by decide +kernel
theorem l240_389 : (ax_dt (ax_T 240)).lookup 389 = some (.iload 5, 2, 0, 0, 0) := by decide +kernel
theorem l240_391 : (ax_dt (ax_T 240)).lookup 391 = some (.if_icmp .eq 5, 3, 0, 0, 0) := by decide +kernel
theorem l240_394 : (ax_dt (ax_T 240)).lookup 394 = some (.iconst 0, 1, 0, 0, 0) := by decide +kernel
theorem l240_395 : (ax_dt (ax_T 240)).lookup 395 = some (.ireturn, 1, 0, 0, 0) := by decide +kernel
theorem l240_396 : (ax_dt (ax_T 240)).lookup 396 = some (.iload 5, 2, 0, 0, 0) := by decide +kernel
theorem l240_398 : (ax_dt (ax_T 240)).lookup 398 = some (.ifCond .ne 15, 3, 0, 0, 0) := by decide +kernel
theorem l240_401 : (ax_dt (ax_T 240)).lookup 401 = some (.aload_n 3, 1, 0, 0, 0) := by decide +kernel
theorem l240_402 : (ax_dt (ax_T 240)).lookup 402 = some (.iconst 0, 1, 0, 0, 0) := by decide +kernel
theorem l240_403 : (ax_dt (ax_T 240)).lookup 403 = some (.laload, 1, 0, 0, 0) := by decide +kernel
theorem l240_404 : (ax_dt (ax_T 240)).lookup 404 = some (.iload 6, 2, 0, 0, 0) := by decide +kernel
theorem l240_406 : (ax_dt (ax_T 240)).lookup 406 = some (.i2l, 1, 0, 0, 0) := by decide +kernel
theorem l240_407 : (ax_dt (ax_T 240)).lookup 407 = some (.lcmp, 1, 0, 0, 0) := by decide +kernel
theorem l240_408 : (ax_dt (ax_T 240)).lookup 408 = some (.ifCond .eq 5, 3, 0, 0, 0) := by decide +kernel
theorem l240_411 : (ax_dt (ax_T 240)).lookup 411 = some (.iconst 0, 1, 0, 0, 0) := by decide +kernel
theorem l240_412 : (ax_dt (ax_T 240)).lookup 412 = some (.ireturn, 1, 0, 0, 0) := by decide +kernel
theorem l240_413 : (ax_dt (ax_T 240)).lookup 413 = some (.goto 1242, 3, 0, 0, 0) := by decide +kernel
theorem l240_416 : (ax_dt (ax_T 240)).lookup 416 = some (.aload_n 1, 1, 0, 0, 0) := by decide +kernel
theorem l240_417 : (ax_dt (ax_T 240)).lookup 417 = some (.aload_n 0, 1, 0, 0, 0) := by decide +kernel
theorem l240_418 : (ax_dt (ax_T 240)).lookup 418 = some (.iload 4, 2, 0, 0, 0) := by decide +kernel
theorem l240_420 : (ax_dt (ax_T 240)).lookup 420 = some (.iconst 1, 1, 0, 0, 0) := by decide +kernel
theorem l240_421 : (ax_dt (ax_T 240)).lookup 421 = some (.iadd, 1, 0, 0, 0) := by decide +kernel
theorem l240_422 : (ax_dt (ax_T 240)).lookup 422 = some (.iaload, 1, 0, 0, 0) := by decide +kernel
theorem l240_423 : (ax_dt (ax_T 240)).lookup 423 = some (.aload_n 0, 1, 0, 0, 0) := by decide +kernel
theorem l240_424 : (ax_dt (ax_T 240)).lookup 424 = some (.iload 4, 2, 0, 0, 0) := by decide +kernel
theorem l240_426 : (ax_dt (ax_T 240)).lookup 426 = some (.iconst 2, 1, 0, 0, 0) := by decide +kernel
theorem l240_427 : (ax_dt (ax_T 240)).lookup 427 = some (.iadd, 1, 0, 0, 0) := by decide +kernel
theorem l240_428 : (ax_dt (ax_T 240)).lookup 428 = some (.iaload, 1, 0, 0, 0) := by decide +kernel
theorem l240_429 : (ax_dt (ax_T 240)).lookup 429 = some (.aload_n 0, 1, 0, 0, 0) := by decide +kernel
theorem l240_430 : (ax_dt (ax_T 240)).lookup 430 = some (.iload 4, 2, 0, 0, 0) := by decide +kernel
theorem l240_432 : (ax_dt (ax_T 240)).lookup 432 = some (.iconst 3, 1, 0, 0, 0) := by decide +kernel
theorem l240_433 : (ax_dt (ax_T 240)).lookup 433 = some (.iadd, 1, 0, 0, 0) := by decide +kernel
theorem l240_434 : (ax_dt (ax_T 240)).lookup 434 = some (.iaload, 1, 0, 0, 0) := by decide +kernel
theorem l240_435 : (ax_dt (ax_T 240)).lookup 435 = some (.aload_n 0, 1, 0, 0, 0) := by decide +kernel
theorem l240_436 : (ax_dt (ax_T 240)).lookup 436 = some (.iload 4, 2, 0, 0, 0) := by decide +kernel
theorem l240_438 : (ax_dt (ax_T 240)).lookup 438 = some (.iconst 4, 1, 0, 0, 0) := by decide +kernel
theorem l240_439 : (ax_dt (ax_T 240)).lookup 439 = some (.iadd, 1, 0, 0, 0) := by decide +kernel
theorem l240_440 : (ax_dt (ax_T 240)).lookup 440 = some (.iaload, 1, 0, 0, 0) := by decide +kernel
theorem l240_441 : (ax_dt (ax_T 240)).lookup 441 = some (.i2l, 1, 0, 0, 0) := by decide +kernel
theorem l240_442 : (ax_dt (ax_T 240)).lookup 442 = some (.bipush 32, 2, 0, 0, 0) := by decide +kernel
theorem l240_444 : (ax_dt (ax_T 240)).lookup 444 = some (.lshl, 1, 0, 0, 0) := by decide +kernel
theorem l240_445 : (ax_dt (ax_T 240)).lookup 445 = some (.aload_n 0, 1, 0, 0, 0) := by decide +kernel
theorem l240_446 : (ax_dt (ax_T 240)).lookup 446 = some (.iload 4, 2, 0, 0, 0) := by decide +kernel
theorem l240_448 : (ax_dt (ax_T 240)).lookup 448 = some (.iconst 5, 1, 0, 0, 0) := by decide +kernel
theorem l240_449 : (ax_dt (ax_T 240)).lookup 449 = some (.iadd, 1, 0, 0, 0) := by decide +kernel
theorem l240_450 : (ax_dt (ax_T 240)).lookup 450 = some (.iaload, 1, 0, 0, 0) := by decide +kernel
theorem l240_451 : (ax_dt (ax_T 240)).lookup 451 = some (.i2l, 1, 0, 0, 0) := by decide +kernel
theorem l240_452 : (ax_dt (ax_T 240)).lookup 452 = some (.ldc2_w 111, 3, 0, 0, 4294967295) := by decide +kernel
theorem l240_455 : (ax_dt (ax_T 240)).lookup 455 = some (.land, 1, 0, 0, 0) := by decide +kernel
theorem l240_456 : (ax_dt (ax_T 240)).lookup 456 = some (.lor, 1, 0, 0, 0) := by decide +kernel
theorem l240_457 : (ax_dt (ax_T 240)).lookup 457 = some (.aload_n 3, 1, 0, 0, 0) := by decide +kernel
theorem l240_458 : (ax_dt (ax_T 240)).lookup 458 = some (.invokestatic 113, 3, 224, 6, 0) := by decide +kernel
theorem l240_461 : (ax_dt (ax_T 240)).lookup 461 = some (.istore 5, 2, 0, 0, 0) := by decide +kernel
theorem l240_463 : (ax_dt (ax_T 240)).lookup 463 = some (.aload_n 2, 1, 0, 0, 0) := by decide +kernel
theorem l240_464 : (ax_dt (ax_T 240)).lookup 464 = some (.aload_n 0, 1, 0, 0, 0) := by decide +kernel
theorem l240_465 : (ax_dt (ax_T 240)).lookup 465 = some (.iload 4, 2, 0, 0, 0) := by decide +kernel
theorem l240_467 : (ax_dt (ax_T 240)).lookup 467 = some (.iconst 1, 1, 0, 0, 0) := by decide +kernel
theorem l240_468 : (ax_dt (ax_T 240)).lookup 468 = some (.iadd, 1, 0, 0, 0) := by decide +kernel
theorem l240_469 : (ax_dt (ax_T 240)).lookup 469 = some (.iaload, 1, 0, 0, 0) := by decide +kernel
theorem l240_470 : (ax_dt (ax_T 240)).lookup 470 = some (.aload_n 0, 1, 0, 0, 0) := by decide +kernel
theorem l240_471 : (ax_dt (ax_T 240)).lookup 471 = some (.iload 4, 2, 0, 0, 0) := by decide +kernel
theorem l240_473 : (ax_dt (ax_T 240)).lookup 473 = some (.iconst 2, 1, 0, 0, 0) := by decide +kernel
theorem l240_474 : (ax_dt (ax_T 240)).lookup 474 = some (.iadd, 1, 0, 0, 0) := by decide +kernel
theorem l240_475 : (ax_dt (ax_T 240)).lookup 475 = some (.iaload, 1, 0, 0, 0) := by decide +kernel
theorem l240_476 : (ax_dt (ax_T 240)).lookup 476 = some (.aload_n 0, 1, 0, 0, 0) := by decide +kernel
theorem l240_477 : (ax_dt (ax_T 240)).lookup 477 = some (.iload 4, 2, 0, 0, 0) := by decide +kernel
theorem l240_479 : (ax_dt (ax_T 240)).lookup 479 = some (.iconst 3, 1, 0, 0, 0) := by decide +kernel
theorem l240_480 : (ax_dt (ax_T 240)).lookup 480 = some (.iadd, 1, 0, 0, 0) := by decide +kernel
theorem l240_481 : (ax_dt (ax_T 240)).lookup 481 = some (.iaload, 1, 0, 0, 0) := by decide +kernel
theorem l240_482 : (ax_dt (ax_T 240)).lookup 482 = some (.aload_n 0, 1, 0, 0, 0) := by decide +kernel
theorem l240_483 : (ax_dt (ax_T 240)).lookup 483 = some (.iload 4, 2, 0, 0, 0) := by decide +kernel
theorem l240_485 : (ax_dt (ax_T 240)).lookup 485 = some (.iconst 4, 1, 0, 0, 0) := by decide +kernel
theorem l240_486 : (ax_dt (ax_T 240)).lookup 486 = some (.iadd, 1, 0, 0, 0) := by decide +kernel
theorem l240_487 : (ax_dt (ax_T 240)).lookup 487 = some (.iaload, 1, 0, 0, 0) := by decide +kernel
theorem l240_488 : (ax_dt (ax_T 240)).lookup 488 = some (.i2l, 1, 0, 0, 0) := by decide +kernel
theorem l240_489 : (ax_dt (ax_T 240)).lookup 489 = some (.bipush 32, 2, 0, 0, 0) := by decide +kernel
theorem l240_491 : (ax_dt (ax_T 240)).lookup 491 = some (.lshl, 1, 0, 0, 0) := by decide +kernel
theorem l240_492 : (ax_dt (ax_T 240)).lookup 492 = some (.aload_n 0, 1, 0, 0, 0) := by decide +kernel
theorem l240_493 : (ax_dt (ax_T 240)).lookup 493 = some (.iload 4, 2, 0, 0, 0) := by decide +kernel
theorem l240_495 : (ax_dt (ax_T 240)).lookup 495 = some (.iconst 5, 1, 0, 0, 0) := by decide +kernel
theorem l240_496 : (ax_dt (ax_T 240)).lookup 496 = some (.iadd, 1, 0, 0, 0) := by decide +kernel
theorem l240_497 : (ax_dt (ax_T 240)).lookup 497 = some (.iaload, 1, 0, 0, 0) := by decide +kernel
theorem l240_498 : (ax_dt (ax_T 240)).lookup 498 = some (.i2l, 1, 0, 0, 0) := by decide +kernel
theorem l240_499 : (ax_dt (ax_T 240)).lookup 499 = some (.ldc2_w 111, 3, 0, 0, 4294967295) := by decide +kernel
theorem l240_502 : (ax_dt (ax_T 240)).lookup 502 = some (.land, 1, 0, 0, 0) := by decide +kernel
theorem l240_503 : (ax_dt (ax_T 240)).lookup 503 = some (.lor, 1, 0, 0, 0) := by decide +kernel
theorem l240_504 : (ax_dt (ax_T 240)).lookup 504 = some (.invokevirtual 116, 3, 154, 4, 0) := by decide +kernel
theorem l240_507 : (ax_dt (ax_T 240)).lookup 507 = some (.istore 6, 2, 0, 0, 0) := by decide +kernel
theorem l240_509 : (ax_dt (ax_T 240)).lookup 509 = some (.aload_n 2, 1, 0, 0, 0) := by decide +kernel
theorem l240_510 : (ax_dt (ax_T 240)).lookup 510 = some (.invokevirtual 95, 3, 132, 0, 0) := by decide +kernel
theorem l240_513 : (ax_dt (ax_T 240)).lookup 513 = some (.iload 5, 2, 0, 0, 0) := by decide +kernel
theorem l240_515 : (ax_dt (ax_T 240)).lookup 515 = some (.if_icmp .eq 5, 3, 0, 0, 0) := by decide +kernel
theorem l240_518 : (ax_dt (ax_T 240)).lookup 518 = some (.iconst 0, 1, 0, 0, 0) := by decide +kernel
theorem l240_519 : (ax_dt (ax_T 240)).lookup 519 = some (.ireturn, 1, 0, 0, 0) := by decide +kernel
theorem l240_520 : (ax_dt (ax_T 240)).lookup 520 = some (.iload 5, 2, 0, 0, 0) := by decide +kernel
theorem l240_522 : (ax_dt (ax_T 240)).lookup 522 = some (.ifCond .ne 15, 3, 0, 0, 0) := by decide +kernel
theorem l240_525 : (ax_dt (ax_T 240)).lookup 525 = some (.aload_n 3, 1, 0, 0, 0) := by decide +kernel
theorem l240_526 : (ax_dt (ax_T 240)).lookup 526 = some (.iconst 0, 1, 0, 0, 0) := by decide +kernel
theorem l240_527 : (ax_dt (ax_T 240)).lookup 527 = some (.laload, 1, 0, 0, 0) := by decide +kernel
theorem l240_528 : (ax_dt (ax_T 240)).lookup 528 = some (.iload 6, 2, 0, 0, 0) := by decide +kernel
theorem l240_530 : (ax_dt (ax_T 240)).lookup 530 = some (.i2l, 1, 0, 0, 0) := by decide +kernel
theorem l240_531 : (ax_dt (ax_T 240)).lookup 531 = some (.lcmp, 1, 0, 0, 0) := by decide +kernel
theorem l240_532 : (ax_dt (ax_T 240)).lookup 532 = some (.ifCond .eq 5, 3, 0, 0, 0) := by decide +kernel
theorem l240_535 : (ax_dt (ax_T 240)).lookup 535 = some (.iconst 0, 1, 0, 0, 0) := by decide +kernel
theorem l240_536 : (ax_dt (ax_T 240)).lookup 536 = some (.ireturn, 1, 0, 0, 0) := by decide +kernel
theorem l240_537 : (ax_dt (ax_T 240)).lookup 537 = some (.goto 1118, 3, 0, 0, 0) := by decide +kernel
theorem l240_540 : (ax_dt (ax_T 240)).lookup 540 = some (.aload_n 1, 1, 0, 0, 0) := by decide +kernel
theorem l240_541 : (ax_dt (ax_T 240)).lookup 541 = some (.aload_n 0, 1, 0, 0, 0) := by decide +kernel
theorem l240_542 : (ax_dt (ax_T 240)).lookup 542 = some (.iload 4, 2, 0, 0, 0) := by decide +kernel
theorem l240_544 : (ax_dt (ax_T 240)).lookup 544 = some (.iconst 1, 1, 0, 0, 0) := by decide +kernel
theorem l240_545 : (ax_dt (ax_T 240)).lookup 545 = some (.iadd, 1, 0, 0, 0) := by decide +kernel
theorem l240_546 : (ax_dt (ax_T 240)).lookup 546 = some (.iaload, 1, 0, 0, 0) := by decide +kernel
theorem l240_547 : (ax_dt (ax_T 240)).lookup 547 = some (.aload_n 0, 1, 0, 0, 0) := by decide +kernel
theorem l240_548 : (ax_dt (ax_T 240)).lookup 548 = some (.iload 4, 2, 0, 0, 0) := by decide +kernel
theorem l240_550 : (ax_dt (ax_T 240)).lookup 550 = some (.iconst 2, 1, 0, 0, 0) := by decide +kernel
theorem l240_551 : (ax_dt (ax_T 240)).lookup 551 = some (.iadd, 1, 0, 0, 0) := by decide +kernel
theorem l240_552 : (ax_dt (ax_T 240)).lookup 552 = some (.iaload, 1, 0, 0, 0) := by decide +kernel
theorem l240_553 : (ax_dt (ax_T 240)).lookup 553 = some (.aload_n 0, 1, 0, 0, 0) := by decide +kernel
theorem l240_554 : (ax_dt (ax_T 240)).lookup 554 = some (.iload 4, 2, 0, 0, 0) := by decide +kernel
theorem l240_556 : (ax_dt (ax_T 240)).lookup 556 = some (.iconst 3, 1, 0, 0, 0) := by decide +kernel
theorem l240_557 : (ax_dt (ax_T 240)).lookup 557 = some (.iadd, 1, 0, 0, 0) := by decide +kernel
theorem l240_558 : (ax_dt (ax_T 240)).lookup 558 = some (.iaload, 1, 0, 0, 0) := by decide +kernel
theorem l240_559 : (ax_dt (ax_T 240)).lookup 559 = some (.aload_n 3, 1, 0, 0, 0) := by decide +kernel
theorem l240_560 : (ax_dt (ax_T 240)).lookup 560 = some (.invokestatic 117, 3, 225, 5, 0) := by decide +kernel
theorem l240_563 : (ax_dt (ax_T 240)).lookup 563 = some (.istore 5, 2, 0, 0, 0) := by decide +kernel
theorem l240_565 : (ax_dt (ax_T 240)).lookup 565 = some (.aload_n 2, 1, 0, 0, 0) := by decide +kernel
theorem l240_566 : (ax_dt (ax_T 240)).lookup 566 = some (.aload_n 0, 1, 0, 0, 0) := by decide +kernel
theorem l240_567 : (ax_dt (ax_T 240)).lookup 567 = some (.iload 4, 2, 0, 0, 0) := by decide +kernel
theorem l240_569 : (ax_dt (ax_T 240)).lookup 569 = some (.iconst 1, 1, 0, 0, 0) := by decide +kernel
theorem l240_570 : (ax_dt (ax_T 240)).lookup 570 = some (.iadd, 1, 0, 0, 0) := by decide +kernel
theorem l240_571 : (ax_dt (ax_T 240)).lookup 571 = some (.iaload, 1, 0, 0, 0) := by decide +kernel
theorem l240_572 : (ax_dt (ax_T 240)).lookup 572 = some (.aload_n 0, 1, 0, 0, 0) := by decide +kernel
theorem l240_573 : (ax_dt (ax_T 240)).lookup 573 = some (.iload 4, 2, 0, 0, 0) := by decide +kernel
theorem l240_575 : (ax_dt (ax_T 240)).lookup 575 = some (.iconst 2, 1, 0, 0, 0) := by decide +kernel
theorem l240_576 : (ax_dt (ax_T 240)).lookup 576 = some (.iadd, 1, 0, 0, 0) := by decide +kernel
theorem l240_577 : (ax_dt (ax_T 240)).lookup 577 = some (.iaload, 1, 0, 0, 0) := by decide +kernel
theorem l240_578 : (ax_dt (ax_T 240)).lookup 578 = some (.aload_n 0, 1, 0, 0, 0) := by decide +kernel
theorem l240_579 : (ax_dt (ax_T 240)).lookup 579 = some (.iload 4, 2, 0, 0, 0) := by decide +kernel
theorem l240_581 : (ax_dt (ax_T 240)).lookup 581 = some (.iconst 3, 1, 0, 0, 0) := by decide +kernel
theorem l240_582 : (ax_dt (ax_T 240)).lookup 582 = some (.iadd, 1, 0, 0, 0) := by decide +kernel
theorem l240_583 : (ax_dt (ax_T 240)).lookup 583 = some (.iaload, 1, 0, 0, 0) := by decide +kernel
theorem l240_584 : (ax_dt (ax_T 240)).lookup 584 = some (.invokevirtual 120, 3, 156, 3, 0) := by decide +kernel
theorem l240_587 : (ax_dt (ax_T 240)).lookup 587 = some (.istore 6, 2, 0, 0, 0) := by decide +kernel
theorem l240_589 : (ax_dt (ax_T 240)).lookup 589 = some (.aload_n 2, 1, 0, 0, 0) := by decide +kernel
theorem l240_590 : (ax_dt (ax_T 240)).lookup 590 = some (.invokevirtual 95, 3, 132, 0, 0) := by decide +kernel
theorem l240_593 : (ax_dt (ax_T 240)).lookup 593 = some (.iload 5, 2, 0, 0, 0) := by decide +kernel
theorem l240_595 : (ax_dt (ax_T 240)).lookup 595 = some (.if_icmp .eq 5, 3, 0, 0, 0) := by decide +kernel
theorem l240_598 : (ax_dt (ax_T 240)).lookup 598 = some (.iconst 0, 1, 0, 0, 0) := by decide +kernel
theorem l240_599 : (ax_dt (ax_T 240)).lookup 599 = some (.ireturn, 1, 0, 0, 0) := by decide +kernel
theorem l240_600 : (ax_dt (ax_T 240)).lookup 600 = some (.iload 5, 2, 0, 0, 0) := by decide +kernel
theorem l240_602 : (ax_dt (ax_T 240)).lookup 602 = some (.ifCond .ne 15, 3, 0, 0, 0) := by decide +kernel
theorem l240_605 : (ax_dt (ax_T 240)).lookup 605 = some (.aload_n 3, 1, 0, 0, 0) := by decide +kernel
theorem l240_606 : (ax_dt (ax_T 240)).lookup 606 = some (.iconst 0, 1, 0, 0, 0) := by decide +kernel
theorem l240_607 : (ax_dt (ax_T 240)).lookup 607 = some (.laload, 1, 0, 0, 0) := by decide +kernel
theorem l240_608 : (ax_dt (ax_T 240)).lookup 608 = some (.iload 6, 2, 0, 0, 0) := by decide +kernel
theorem l240_610 : (ax_dt (ax_T 240)).lookup 610 = some (.i2l, 1, 0, 0, 0) := by decide +kernel
theorem l240_611 : (ax_dt (ax_T 240)).lookup 611 = some (.lcmp, 1, 0, 0, 0) := by decide +kernel
theorem l240_612 : (ax_dt (ax_T 240)).lookup 612 = some (.ifCond .eq 5, 3, 0, 0, 0) := by decide +kernel
theorem l240_615 : (ax_dt (ax_T 240)).lookup 615 = some (.iconst 0, 1, 0, 0, 0) := by decide +kernel
theorem l240_616 : (ax_dt (ax_T 240)).lookup 616 = some (.ireturn, 1, 0, 0, 0) := by decide +kernel
theorem l240_617 : (ax_dt (ax_T 240)).lookup 617 = some (.goto 1038, 3, 0, 0, 0) := by decide +kernel
theorem l240_620 : (ax_dt (ax_T 240)).lookup 620 = some (.aload_n 1, 1, 0, 0, 0) := by decide +kernel
theorem l240_621 : (ax_dt (ax_T 240)).lookup 621 = some (.aload_n 0, 1, 0, 0, 0) := by decide +kernel
theorem l240_622 : (ax_dt (ax_T 240)).lookup 622 = some (.iload 4, 2, 0, 0, 0) := by decide +kernel
theorem l240_624 : (ax_dt (ax_T 240)).lookup 624 = some (.iconst 1, 1, 0, 0, 0) := by decide +kernel
theorem l240_625 : (ax_dt (ax_T 240)).lookup 625 = some (.iadd, 1, 0, 0, 0) := by decide +kernel
theorem l240_626 : (ax_dt (ax_T 240)).lookup 626 = some (.iaload, 1, 0, 0, 0) := by decide +kernel
theorem l240_627 : (ax_dt (ax_T 240)).lookup 627 = some (.aload_n 0, 1, 0, 0, 0) := by decide +kernel
theorem l240_628 : (ax_dt (ax_T 240)).lookup 628 = some (.iload 4, 2, 0, 0, 0) := by decide +kernel
theorem l240_630 : (ax_dt (ax_T 240)).lookup 630 = some (.iconst 2, 1, 0, 0, 0) := by decide +kernel
theorem l240_631 : (ax_dt (ax_T 240)).lookup 631 = some (.iadd, 1, 0, 0, 0) := by decide +kernel
theorem l240_632 : (ax_dt (ax_T 240)).lookup 632 = some (.iaload, 1, 0, 0, 0) := by decide +kernel
theorem l240_633 : (ax_dt (ax_T 240)).lookup 633 = some (.aload_n 0, 1, 0, 0, 0) := by decide +kernel
theorem l240_634 : (ax_dt (ax_T 240)).lookup 634 = some (.iload 4, 2, 0, 0, 0) := by decide +kernel
theorem l240_636 : (ax_dt (ax_T 240)).lookup 636 = some (.iconst 3, 1, 0, 0, 0) := by decide +kernel
theorem l240_637 : (ax_dt (ax_T 240)).lookup 637 = some (.iadd, 1, 0, 0, 0) := by decide +kernel
theorem l240_638 : (ax_dt (ax_T 240)).lookup 638 = some (.iaload, 1, 0, 0, 0) := by decide +kernel
theorem l240_639 : (ax_dt (ax_T 240)).lookup 639 = some (.aload_n 0, 1, 0, 0, 0) := by decide +kernel
theorem l240_640 : (ax_dt (ax_T 240)).lookup 640 = some (.iload 4, 2, 0, 0, 0) := by decide +kernel
theorem l240_642 : (ax_dt (ax_T 240)).lookup 642 = some (.iconst 4, 1, 0, 0, 0) := by decide +kernel
theorem l240_643 : (ax_dt (ax_T 240)).lookup 643 = some (.iadd, 1, 0, 0, 0) := by decide +kernel
theorem l240_644 : (ax_dt (ax_T 240)).lookup 644 = some (.iaload, 1, 0, 0, 0) := by decide +kernel
theorem l240_645 : (ax_dt (ax_T 240)).lookup 645 = some (.aload_n 3, 1, 0, 0, 0) := by decide +kernel
theorem l240_646 : (ax_dt (ax_T 240)).lookup 646 = some (.invokestatic 121, 3, 226, 6, 0) := by decide +kernel
theorem l240_649 : (ax_dt (ax_T 240)).lookup 649 = some (.istore 5, 2, 0, 0, 0) := by decide +kernel
theorem l240_651 : (ax_dt (ax_T 240)).lookup 651 = some (.aload_n 2, 1, 0, 0, 0) := by decide +kernel
theorem l240_652 : (ax_dt (ax_T 240)).lookup 652 = some (.aload_n 0, 1, 0, 0, 0) := by decide +kernel
theorem l240_653 : (ax_dt (ax_T 240)).lookup 653 = some (.iload 4, 2, 0, 0, 0) := by decide +kernel
theorem l240_655 : (ax_dt (ax_T 240)).lookup 655 = some (.iconst 1, 1, 0, 0, 0) := by decide +kernel
theorem l240_656 : (ax_dt (ax_T 240)).lookup 656 = some (.iadd, 1, 0, 0, 0) := by decide +kernel
theorem l240_657 : (ax_dt (ax_T 240)).lookup 657 = some (.iaload, 1, 0, 0, 0) := by decide +kernel
theorem l240_658 : (ax_dt (ax_T 240)).lookup 658 = some (.aload_n 0, 1, 0, 0, 0) := by decide +kernel
theorem l240_659 : (ax_dt (ax_T 240)).lookup 659 = some (.iload 4, 2, 0, 0, 0) := by decide +kernel
theorem l240_661 : (ax_dt (ax_T 240)).lookup 661 = some (.iconst 2, 1, 0, 0, 0) := by decide +kernel
theorem l240_662 : (ax_dt (ax_T 240)).lookup 662 = some (.iadd, 1, 0, 0, 0) := by decide +kernel
theorem l240_663 : (ax_dt (ax_T 240)).lookup 663 = some (.iaload, 1, 0, 0, 0) := by decide +kernel
theorem l240_664 : (ax_dt (ax_T 240)).lookup 664 = some (.aload_n 0, 1, 0, 0, 0) := by decide +kernel
theorem l240_665 : (ax_dt (ax_T 240)).lookup 665 = some (.iload 4, 2, 0, 0, 0) := by decide +kernel
theorem l240_667 : (ax_dt (ax_T 240)).lookup 667 = some (.iconst 3, 1, 0, 0, 0) := by decide +kernel
theorem l240_668 : (ax_dt (ax_T 240)).lookup 668 = some (.iadd, 1, 0, 0, 0) := by decide +kernel
theorem l240_669 : (ax_dt (ax_T 240)).lookup 669 = some (.iaload, 1, 0, 0, 0) := by decide +kernel
theorem l240_670 : (ax_dt (ax_T 240)).lookup 670 = some (.aload_n 0, 1, 0, 0, 0) := by decide +kernel
theorem l240_671 : (ax_dt (ax_T 240)).lookup 671 = some (.iload 4, 2, 0, 0, 0) := by decide +kernel
theorem l240_673 : (ax_dt (ax_T 240)).lookup 673 = some (.iconst 4, 1, 0, 0, 0) := by decide +kernel
theorem l240_674 : (ax_dt (ax_T 240)).lookup 674 = some (.iadd, 1, 0, 0, 0) := by decide +kernel
theorem l240_675 : (ax_dt (ax_T 240)).lookup 675 = some (.iaload, 1, 0, 0, 0) := by decide +kernel
theorem l240_676 : (ax_dt (ax_T 240)).lookup 676 = some (.invokevirtual 124, 3, 157, 4, 0) := by decide +kernel
theorem l240_679 : (ax_dt (ax_T 240)).lookup 679 = some (.istore 6, 2, 0, 0, 0) := by decide +kernel
theorem l240_681 : (ax_dt (ax_T 240)).lookup 681 = some (.aload_n 2, 1, 0, 0, 0) := by decide +kernel
theorem l240_682 : (ax_dt (ax_T 240)).lookup 682 = some (.invokevirtual 95, 3, 132, 0, 0) := by decide +kernel
theorem l240_685 : (ax_dt (ax_T 240)).lookup 685 = some (.iload 5, 2, 0, 0, 0) := by decide +kernel
theorem l240_687 : (ax_dt (ax_T 240)).lookup 687 = some (.if_icmp .eq 5, 3, 0, 0, 0) := by decide +kernel
theorem l240_690 : (ax_dt (ax_T 240)).lookup 690 = some (.iconst 0, 1, 0, 0, 0) := by decide +kernel
theorem l240_691 : (ax_dt (ax_T 240)).lookup 691 = some (.ireturn, 1, 0, 0, 0) := by decide +kernel
theorem l240_692 : (ax_dt (ax_T 240)).lookup 692 = some (.iload 5, 2, 0, 0, 0) := by decide +kernel
theorem l240_694 : (ax_dt (ax_T 240)).lookup 694 = some (.ifCond .ne 15, 3, 0, 0, 0) := by decide +kernel
theorem l240_697 : (ax_dt (ax_T 240)).lookup 697 = some (.aload_n 3, 1, 0, 0, 0) := by decide +kernel
theorem l240_698 : (ax_dt (ax_T 240)).lookup 698 = some (.iconst 0, 1, 0, 0, 0) := by decide +kernel
theorem l240_699 : (ax_dt (ax_T 240)).lookup 699 = some (.laload, 1, 0, 0, 0) := by decide +kernel
theorem l240_700 : (ax_dt (ax_T 240)).lookup 700 = some (.iload 6, 2, 0, 0, 0) := by decide +kernel
theorem l240_702 : (ax_dt (ax_T 240)).lookup 702 = some (.i2l, 1, 0, 0, 0) := by decide +kernel
theorem l240_703 : (ax_dt (ax_T 240)).lookup 703 = some (.lcmp, 1, 0, 0, 0) := by decide +kernel
theorem l240_704 : (ax_dt (ax_T 240)).lookup 704 = some (.ifCond .eq 5, 3, 0, 0, 0) := by decide +kernel
theorem l240_707 : (ax_dt (ax_T 240)).lookup 707 = some (.iconst 0, 1, 0, 0, 0) := by decide +kernel
theorem l240_708 : (ax_dt (ax_T 240)).lookup 708 = some (.ireturn, 1, 0, 0, 0) := by decide +kernel
theorem l240_709 : (ax_dt (ax_T 240)).lookup 709 = some (.goto 946, 3, 0, 0, 0) := by decide +kernel
theorem l240_712 : (ax_dt (ax_T 240)).lookup 712 = some (.aload_n 1, 1, 0, 0, 0) := by decide +kernel
theorem l240_713 : (ax_dt (ax_T 240)).lookup 713 = some (.invokevirtual 125, 3, 99, 0, 0) := by decide +kernel
theorem l240_716 : (ax_dt (ax_T 240)).lookup 716 = some (.aload_n 2, 1, 0, 0, 0) := by decide +kernel
theorem l240_717 : (ax_dt (ax_T 240)).lookup 717 = some (.invokevirtual 128, 3, 158, 0, 0) := by decide +kernel
theorem l240_720 : (ax_dt (ax_T 240)).lookup 720 = some (.if_icmp .eq 935, 3, 0, 0, 0) := by decide +kernel
theorem l240_723 : (ax_dt (ax_T 240)).lookup 723 = some (.iconst 0, 1, 0, 0, 0) := by decide +kernel
theorem l240_724 : (ax_dt (ax_T 240)).lookup 724 = some (.ireturn, 1, 0, 0, 0) := by decide +kernel
theorem l240_725 : (ax_dt (ax_T 240)).lookup 725 = some (.aload_n 1, 1, 0, 0, 0) := by decide +kernel
theorem l240_726 : (ax_dt (ax_T 240)).lookup 726 = some (.invokevirtual 129, 3, 100, 0, 0) := by decide +kernel
theorem l240_729 : (ax_dt (ax_T 240)).lookup 729 = some (.aload_n 2, 1, 0, 0, 0) := by decide +kernel
theorem l240_730 : (ax_dt (ax_T 240)).lookup 730 = some (.invokevirtual 132, 3, 179, 0, 0) := by decide +kernel
theorem l240_733 : (ax_dt (ax_T 240)).lookup 733 = some (.if_icmp .eq 922, 3, 0, 0, 0) := by decide +kernel
theorem l240_736 : (ax_dt (ax_T 240)).lookup 736 = some (.iconst 0, 1, 0, 0, 0) := by decide +kernel
theorem l240_737 : (ax_dt (ax_T 240)).lookup 737 = some (.ireturn, 1, 0, 0, 0) := by decide +kernel
theorem l240_738 : (ax_dt (ax_T 240)).lookup 738 = some (.aload_n 1, 1, 0, 0, 0) := by decide +kernel
theorem l240_739 : (ax_dt (ax_T 240)).lookup 739 = some (.aload_n 0, 1, 0, 0, 0) := by decide +kernel
theorem l240_740 : (ax_dt (ax_T 240)).lookup 740 = some (.iload 4, 2, 0, 0, 0) := by decide +kernel
theorem l240_742 : (ax_dt (ax_T 240)).lookup 742 = some (.iconst 1, 1, 0, 0, 0) := by decide +kernel
theorem l240_743 : (ax_dt (ax_T 240)).lookup 743 = some (.iadd, 1, 0, 0, 0) := by decide +kernel
theorem l240_744 : (ax_dt (ax_T 240)).lookup 744 = some (.iaload, 1, 0, 0, 0) := by decide +kernel
theorem l240_745 : (ax_dt (ax_T 240)).lookup 745 = some (.aload_n 3, 1, 0, 0, 0) := by decide +kernel
theorem l240_746 : (ax_dt (ax_T 240)).lookup 746 = some (.invokestatic 133, 3, 227, 3, 0) := by decide +kernel
theorem l240_749 : (ax_dt (ax_T 240)).lookup 749 = some (.istore 5, 2, 0, 0, 0) := by decide +kernel
theorem l240_751 : (ax_dt (ax_T 240)).lookup 751 = some (.aload_n 2, 1, 0, 0, 0) := by decide +kernel
theorem l240_752 : (ax_dt (ax_T 240)).lookup 752 = some (.aload_n 0, 1, 0, 0, 0) := by decide +kernel
theorem l240_753 : (ax_dt (ax_T 240)).lookup 753 = some (.iload 4, 2, 0, 0, 0) := by decide +kernel
theorem l240_755 : (ax_dt (ax_T 240)).lookup 755 = some (.iconst 1, 1, 0, 0, 0) := by decide +kernel
theorem l240_756 : (ax_dt (ax_T 240)).lookup 756 = some (.iadd, 1, 0, 0, 0) := by decide +kernel
theorem l240_757 : (ax_dt (ax_T 240)).lookup 757 = some (.iaload, 1, 0, 0, 0) := by decide +kernel
theorem l240_758 : (ax_dt (ax_T 240)).lookup 758 = some (.invokevirtual 135, 3, 181, 1, 0) := by decide +kernel
theorem l240_761 : (ax_dt (ax_T 240)).lookup 761 = some (.istore 6, 2, 0, 0, 0) := by decide +kernel
theorem l240_763 : (ax_dt (ax_T 240)).lookup 763 = some (.aload_n 2, 1, 0, 0, 0) := by decide +kernel
theorem l240_764 : (ax_dt (ax_T 240)).lookup 764 = some (.invokevirtual 95, 3, 132, 0, 0) := by decide +kernel
theorem l240_767 : (ax_dt (ax_T 240)).lookup 767 = some (.iload 5, 2, 0, 0, 0) := by decide +kernel
theorem l240_769 : (ax_dt (ax_T 240)).lookup 769 = some (.if_icmp .eq 5, 3, 0, 0, 0) := by decide +kernel
theorem l240_772 : (ax_dt (ax_T 240)).lookup 772 = some (.iconst 0, 1, 0, 0, 0) := by decide +kernel
theorem l240_773 : (ax_dt (ax_T 240)).lookup 773 = some (.ireturn, 1, 0, 0, 0) := by decide +kernel
theorem l240_774 : (ax_dt (ax_T 240)).lookup 774 = some (.iload 5, 2, 0, 0, 0) := by decide +kernel
theorem l240_776 : (ax_dt (ax_T 240)).lookup 776 = some (.ifCond .ne 15, 3, 0, 0, 0) := by decide +kernel
theorem l240_779 : (ax_dt (ax_T 240)).lookup 779 = some (.aload_n 3, 1, 0, 0, 0) := by decide +kernel
theorem l240_780 : (ax_dt (ax_T 240)).lookup 780 = some (.iconst 0, 1, 0, 0, 0) := by decide +kernel
theorem l240_781 : (ax_dt (ax_T 240)).lookup 781 = some (.laload, 1, 0, 0, 0) := by decide +kernel
theorem l240_782 : (ax_dt (ax_T 240)).lookup 782 = some (.iload 6, 2, 0, 0, 0) := by decide +kernel
theorem l240_784 : (ax_dt (ax_T 240)).lookup 784 = some (.i2l, 1, 0, 0, 0) := by decide +kernel
theorem l240_785 : (ax_dt (ax_T 240)).lookup 785 = some (.lcmp, 1, 0, 0, 0) := by decide +kernel
theorem l240_786 : (ax_dt (ax_T 240)).lookup 786 = some (.ifCond .eq 5, 3, 0, 0, 0) := by decide +kernel
theorem l240_789 : (ax_dt (ax_T 240)).lookup 789 = some (.iconst 0, 1, 0, 0, 0) := by decide +kernel
theorem l240_790 : (ax_dt (ax_T 240)).lookup 790 = some (.ireturn, 1, 0, 0, 0) := by decide +kernel
theorem l240_791 : (ax_dt (ax_T 240)).lookup 791 = some (.goto 864, 3, 0, 0, 0) := by decide +kernel
theorem l240_794 : (ax_dt (ax_T 240)).lookup 794 = some (.aload_n 1, 1, 0, 0, 0) := by decide +kernel
theorem l240_795 : (ax_dt (ax_T 240)).lookup 795 = some (.aload_n 0, 1, 0, 0, 0) := by decide +kernel
theorem l240_796 : (ax_dt (ax_T 240)).lookup 796 = some (.iload 4, 2, 0, 0, 0) := by decide +kernel
theorem l240_798 : (ax_dt (ax_T 240)).lookup 798 = some (.iconst 1, 1, 0, 0, 0) := by decide +kernel
theorem l240_799 : (ax_dt (ax_T 240)).lookup 799 = some (.iadd, 1, 0, 0, 0) := by decide +kernel
theorem l240_800 : (ax_dt (ax_T 240)).lookup 800 = some (.iaload, 1, 0, 0, 0) := by decide +kernel
theorem l240_801 : (ax_dt (ax_T 240)).lookup 801 = some (.aload_n 0, 1, 0, 0, 0) := by decide +kernel
theorem l240_802 : (ax_dt (ax_T 240)).lookup 802 = some (.iload 4, 2, 0, 0, 0) := by decide +kernel
theorem l240_804 : (ax_dt (ax_T 240)).lookup 804 = some (.iconst 2, 1, 0, 0, 0) := by decide +kernel
theorem l240_805 : (ax_dt (ax_T 240)).lookup 805 = some (.iadd, 1, 0, 0, 0) := by decide +kernel
theorem l240_806 : (ax_dt (ax_T 240)).lookup 806 = some (.iaload, 1, 0, 0, 0) := by decide +kernel
theorem l240_807 : (ax_dt (ax_T 240)).lookup 807 = some (.aload_n 3, 1, 0, 0, 0) := by decide +kernel
theorem l240_808 : (ax_dt (ax_T 240)).lookup 808 = some (.invokestatic 136, 3, 228, 4, 0) := by decide +kernel
theorem l240_811 : (ax_dt (ax_T 240)).lookup 811 = some (.istore 5, 2, 0, 0, 0) := by decide +kernel
theorem l240_813 : (ax_dt (ax_T 240)).lookup 813 = some (.aload_n 2, 1, 0, 0, 0) := by decide +kernel
theorem l240_814 : (ax_dt (ax_T 240)).lookup 814 = some (.aload_n 0, 1, 0, 0, 0) := by decide +kernel
theorem l240_815 : (ax_dt (ax_T 240)).lookup 815 = some (.iload 4, 2, 0, 0, 0) := by decide +kernel
theorem l240_817 : (ax_dt (ax_T 240)).lookup 817 = some (.iconst 1, 1, 0, 0, 0) := by decide +kernel
theorem l240_818 : (ax_dt (ax_T 240)).lookup 818 = some (.iadd, 1, 0, 0, 0) := by decide +kernel
theorem l240_819 : (ax_dt (ax_T 240)).lookup 819 = some (.iaload, 1, 0, 0, 0) := by decide +kernel
theorem l240_820 : (ax_dt (ax_T 240)).lookup 820 = some (.aload_n 0, 1, 0, 0, 0) := by decide +kernel
theorem l240_821 : (ax_dt (ax_T 240)).lookup 821 = some (.iload 4, 2, 0, 0, 0) := by decide +kernel
theorem l240_823 : (ax_dt (ax_T 240)).lookup 823 = some (.iconst 2, 1, 0, 0, 0) := by decide +kernel
theorem l240_824 : (ax_dt (ax_T 240)).lookup 824 = some (.iadd, 1, 0, 0, 0) := by decide +kernel
theorem l240_825 : (ax_dt (ax_T 240)).lookup 825 = some (.iaload, 1, 0, 0, 0) := by decide +kernel
theorem l240_826 : (ax_dt (ax_T 240)).lookup 826 = some (.invokevirtual 138, 3, 183, 2, 0) := by decide +kernel
theorem l240_829 : (ax_dt (ax_T 240)).lookup 829 = some (.istore 6, 2, 0, 0, 0) := by decide +kernel
theorem l240_831 : (ax_dt (ax_T 240)).lookup 831 = some (.aload_n 2, 1, 0, 0, 0) := by decide +kernel
theorem l240_832 : (ax_dt (ax_T 240)).lookup 832 = some (.invokevirtual 95, 3, 132, 0, 0) := by decide +kernel
theorem l240_835 : (ax_dt (ax_T 240)).lookup 835 = some (.iload 5, 2, 0, 0, 0) := by decide +kernel
theorem l240_837 : (ax_dt (ax_T 240)).lookup 837 = some (.if_icmp .eq 5, 3, 0, 0, 0) := by decide +kernel
theorem l240_840 : (ax_dt (ax_T 240)).lookup 840 = some (.iconst 0, 1, 0, 0, 0) := by decide +kernel
theorem l240_841 : (ax_dt (ax_T 240)).lookup 841 = some (.ireturn, 1, 0, 0, 0) := by decide +kernel
theorem l240_842 : (ax_dt (ax_T 240)).lookup 842 = some (.iload 5, 2, 0, 0, 0) := by decide +kernel
theorem l240_844 : (ax_dt (ax_T 240)).lookup 844 = some (.ifCond .ne 15, 3, 0, 0, 0) := by decide +kernel
theorem l240_847 : (ax_dt (ax_T 240)).lookup 847 = some (.aload_n 3, 1, 0, 0, 0) := by decide +kernel
theorem l240_848 : (ax_dt (ax_T 240)).lookup 848 = some (.iconst 0, 1, 0, 0, 0) := by decide +kernel
theorem l240_849 : (ax_dt (ax_T 240)).lookup 849 = some (.laload, 1, 0, 0, 0) := by decide +kernel
theorem l240_850 : (ax_dt (ax_T 240)).lookup 850 = some (.iload 6, 2, 0, 0, 0) := by decide +kernel
theorem l240_852 : (ax_dt (ax_T 240)).lookup 852 = some (.i2l, 1, 0, 0, 0) := by decide +kernel
theorem l240_853 : (ax_dt (ax_T 240)).lookup 853 = some (.lcmp, 1, 0, 0, 0) := by decide +kernel
theorem l240_854 : (ax_dt (ax_T 240)).lookup 854 = some (.ifCond .eq 5, 3, 0, 0, 0) := by decide +kernel
theorem l240_857 : (ax_dt (ax_T 240)).lookup 857 = some (.iconst 0, 1, 0, 0, 0) := by decide +kernel
theorem l240_858 : (ax_dt (ax_T 240)).lookup 858 = some (.ireturn, 1, 0, 0, 0) := by decide +kernel
theorem l240_859 : (ax_dt (ax_T 240)).lookup 859 = some (.goto 796, 3, 0, 0, 0) := by decide +kernel
theorem l240_862 : (ax_dt (ax_T 240)).lookup 862 = some (.aload_n 1, 1, 0, 0, 0) := by decide +kernel
theorem l240_863 : (ax_dt (ax_T 240)).lookup 863 = some (.aload_n 0, 1, 0, 0, 0) := by decide +kernel
theorem l240_864 : (ax_dt (ax_T 240)).lookup 864 = some (.iload 4, 2, 0, 0, 0) := by decide +kernel
theorem l240_866 : (ax_dt (ax_T 240)).lookup 866 = some (.iconst 1, 1, 0, 0, 0) := by decide +kernel
theorem l240_867 : (ax_dt (ax_T 240)).lookup 867 = some (.iadd, 1, 0, 0, 0) := by decide +kernel
theorem l240_868 : (ax_dt (ax_T 240)).lookup 868 = some (.iaload, 1, 0, 0, 0) := by decide +kernel
theorem l240_869 : (ax_dt (ax_T 240)).lookup 869 = some (.aload_n 3, 1, 0, 0, 0) := by decide +kernel
theorem l240_870 : (ax_dt (ax_T 240)).lookup 870 = some (.invokestatic 139, 3, 229, 3, 0) := by decide +kernel
theorem l240_873 : (ax_dt (ax_T 240)).lookup 873 = some (.istore 5, 2, 0, 0, 0) := by decide +kernel
theorem l240_875 : (ax_dt (ax_T 240)).lookup 875 = some (.aload_n 2, 1, 0, 0, 0) := by decide +kernel
theorem l240_876 : (ax_dt (ax_T 240)).lookup 876 = some (.aload_n 0, 1, 0, 0, 0) := by decide +kernel
theorem l240_877 : (ax_dt (ax_T 240)).lookup 877 = some (.iload 4, 2, 0, 0, 0) := by decide +kernel
theorem l240_879 : (ax_dt (ax_T 240)).lookup 879 = some (.iconst 1, 1, 0, 0, 0) := by decide +kernel
theorem l240_880 : (ax_dt (ax_T 240)).lookup 880 = some (.iadd, 1, 0, 0, 0) := by decide +kernel
theorem l240_881 : (ax_dt (ax_T 240)).lookup 881 = some (.iaload, 1, 0, 0, 0) := by decide +kernel
theorem l240_882 : (ax_dt (ax_T 240)).lookup 882 = some (.invokevirtual 141, 3, 184, 1, 0) := by decide +kernel
theorem l240_885 : (ax_dt (ax_T 240)).lookup 885 = some (.istore 6, 2, 0, 0, 0) := by decide +kernel
theorem l240_887 : (ax_dt (ax_T 240)).lookup 887 = some (.aload_n 2, 1, 0, 0, 0) := by decide +kernel
theorem l240_888 : (ax_dt (ax_T 240)).lookup 888 = some (.invokevirtual 95, 3, 132, 0, 0) := by decide +kernel
theorem l240_891 : (ax_dt (ax_T 240)).lookup 891 = some (.iload 5, 2, 0, 0, 0) := by decide +kernel
theorem l240_893 : (ax_dt (ax_T 240)).lookup 893 = some (.if_icmp .eq 5, 3, 0, 0, 0) := by decide +kernel
theorem l240_896 : (ax_dt (ax_T 240)).lookup 896 = some (.iconst 0, 1, 0, 0, 0) := by decide +kernel
theorem l240_897 : (ax_dt (ax_T 240)).lookup 897 = some (.ireturn, 1, 0, 0, 0) := by decide +kernel
theorem l240_898 : (ax_dt (ax_T 240)).lookup 898 = some (.iload 5, 2, 0, 0, 0) := by decide +kernel
theorem l240_900 : (ax_dt (ax_T 240)).lookup 900 = some (.ifCond .ne 15, 3, 0, 0, 0) := by decide +kernel
theorem l240_903 : (ax_dt (ax_T 240)).lookup 903 = some (.aload_n 3, 1, 0, 0, 0) := by decide +kernel
theorem l240_904 : (ax_dt (ax_T 240)).lookup 904 = some (.iconst 0, 1, 0, 0, 0) := by decide +kernel
theorem l240_905 : (ax_dt (ax_T 240)).lookup 905 = some (.laload, 1, 0, 0, 0) := by decide +kernel
theorem l240_906 : (ax_dt (ax_T 240)).lookup 906 = some (.iload 6, 2, 0, 0, 0) := by decide +kernel
theorem l240_908 : (ax_dt (ax_T 240)).lookup 908 = some (.i2l, 1, 0, 0, 0) := by decide +kernel
theorem l240_909 : (ax_dt (ax_T 240)).lookup 909 = some (.lcmp, 1, 0, 0, 0) := by decide +kernel
theorem l240_910 : (ax_dt (ax_T 240)).lookup 910 = some (.ifCond .eq 5, 3, 0, 0, 0) := by decide +kernel
theorem l240_913 : (ax_dt (ax_T 240)).lookup 913 = some (.iconst 0, 1, 0, 0, 0) := by decide +kernel
theorem l240_914 : (ax_dt (ax_T 240)).lookup 914 = some (.ireturn, 1, 0, 0, 0) := by decide +kernel
theorem l240_915 : (ax_dt (ax_T 240)).lookup 915 = some (.goto 740, 3, 0, 0, 0) := by decide +kernel
theorem l240_918 : (ax_dt (ax_T 240)).lookup 918 = some (.aload_n 1, 1, 0, 0, 0) := by decide +kernel
theorem l240_919 : (ax_dt (ax_T 240)).lookup 919 = some (.aload_n 0, 1, 0, 0, 0) := by decide +kernel
theorem l240_920 : (ax_dt (ax_T 240)).lookup 920 = some (.iload 4, 2, 0, 0, 0) := by decide +kernel
theorem l240_922 : (ax_dt (ax_T 240)).lookup 922 = some (.iconst 1, 1, 0, 0, 0) := by decide +kernel
theorem l240_923 : (ax_dt (ax_T 240)).lookup 923 = some (.iadd, 1, 0, 0, 0) := by decide +kernel
theorem l240_924 : (ax_dt (ax_T 240)).lookup 924 = some (.iaload, 1, 0, 0, 0) := by decide +kernel
theorem l240_925 : (ax_dt (ax_T 240)).lookup 925 = some (.aload_n 0, 1, 0, 0, 0) := by decide +kernel
theorem l240_926 : (ax_dt (ax_T 240)).lookup 926 = some (.iload 4, 2, 0, 0, 0) := by decide +kernel
theorem l240_928 : (ax_dt (ax_T 240)).lookup 928 = some (.iconst 2, 1, 0, 0, 0) := by decide +kernel
theorem l240_929 : (ax_dt (ax_T 240)).lookup 929 = some (.iadd, 1, 0, 0, 0) := by decide +kernel
theorem l240_930 : (ax_dt (ax_T 240)).lookup 930 = some (.iaload, 1, 0, 0, 0) := by decide +kernel
theorem l240_931 : (ax_dt (ax_T 240)).lookup 931 = some (.aload_n 0, 1, 0, 0, 0) := by decide +kernel
theorem l240_932 : (ax_dt (ax_T 240)).lookup 932 = some (.iload 4, 2, 0, 0, 0) := by decide +kernel
theorem l240_934 : (ax_dt (ax_T 240)).lookup 934 = some (.iconst 3, 1, 0, 0, 0) := by decide +kernel
theorem l240_935 : (ax_dt (ax_T 240)).lookup 935 = some (.iadd, 1, 0, 0, 0) := by decide +kernel
theorem l240_936 : (ax_dt (ax_T 240)).lookup 936 = some (.iaload, 1, 0, 0, 0) := by decide +kernel
theorem l240_937 : (ax_dt (ax_T 240)).lookup 937 = some (.aload_n 3, 1, 0, 0, 0) := by decide +kernel
theorem l240_938 : (ax_dt (ax_T 240)).lookup 938 = some (.invokestatic 142, 3, 230, 5, 0) := by decide +kernel
theorem l240_941 : (ax_dt (ax_T 240)).lookup 941 = some (.istore 5, 2, 0, 0, 0) := by decide +kernel
theorem l240_943 : (ax_dt (ax_T 240)).lookup 943 = some (.aload_n 2, 1, 0, 0, 0) := by decide +kernel
theorem l240_944 : (ax_dt (ax_T 240)).lookup 944 = some (.aload_n 0, 1, 0, 0, 0) := by decide +kernel
theorem l240_945 : (ax_dt (ax_T 240)).lookup 945 = some (.iload 4, 2, 0, 0, 0) := by decide +kernel
theorem l240_947 : (ax_dt (ax_T 240)).lookup 947 = some (.iconst 1, 1, 0, 0, 0) := by decide +kernel
theorem l240_948 : (ax_dt (ax_T 240)).lookup 948 = some (.iadd, 1, 0, 0, 0) := by decide +kernel
theorem l240_949 : (ax_dt (ax_T 240)).lookup 949 = some (.iaload, 1, 0, 0, 0) := by decide +kernel
theorem l240_950 : (ax_dt (ax_T 240)).lookup 950 = some (.aload_n 0, 1, 0, 0, 0) := by decide +kernel
theorem l240_951 : (ax_dt (ax_T 240)).lookup 951 = some (.iload 4, 2, 0, 0, 0) := by decide +kernel
theorem l240_953 : (ax_dt (ax_T 240)).lookup 953 = some (.iconst 2, 1, 0, 0, 0) := by decide +kernel
theorem l240_954 : (ax_dt (ax_T 240)).lookup 954 = some (.iadd, 1, 0, 0, 0) := by decide +kernel
theorem l240_955 : (ax_dt (ax_T 240)).lookup 955 = some (.iaload, 1, 0, 0, 0) := by decide +kernel
theorem l240_956 : (ax_dt (ax_T 240)).lookup 956 = some (.aload_n 0, 1, 0, 0, 0) := by decide +kernel
theorem l240_957 : (ax_dt (ax_T 240)).lookup 957 = some (.iload 4, 2, 0, 0, 0) := by decide +kernel
theorem l240_959 : (ax_dt (ax_T 240)).lookup 959 = some (.iconst 3, 1, 0, 0, 0) := by decide +kernel
theorem l240_960 : (ax_dt (ax_T 240)).lookup 960 = some (.iadd, 1, 0, 0, 0) := by decide +kernel
theorem l240_961 : (ax_dt (ax_T 240)).lookup 961 = some (.iaload, 1, 0, 0, 0) := by decide +kernel
theorem l240_962 : (ax_dt (ax_T 240)).lookup 962 = some (.invokevirtual 144, 3, 185, 3, 0) := by decide +kernel
theorem l240_965 : (ax_dt (ax_T 240)).lookup 965 = some (.istore 6, 2, 0, 0, 0) := by decide +kernel
theorem l240_967 : (ax_dt (ax_T 240)).lookup 967 = some (.aload_n 2, 1, 0, 0, 0) := by decide +kernel
theorem l240_968 : (ax_dt (ax_T 240)).lookup 968 = some (.invokevirtual 95, 3, 132, 0, 0) := by decide +kernel
theorem l240_971 : (ax_dt (ax_T 240)).lookup 971 = some (.iload 5, 2, 0, 0, 0) := by decide +kernel
theorem l240_973 : (ax_dt (ax_T 240)).lookup 973 = some (.if_icmp .eq 5, 3, 0, 0, 0) := by decide +kernel
theorem l240_976 : (ax_dt (ax_T 240)).lookup 976 = some (.iconst 0, 1, 0, 0, 0) := by decide +kernel
theorem l240_977 : (ax_dt (ax_T 240)).lookup 977 = some (.ireturn, 1, 0, 0, 0) := by decide +kernel
theorem l240_978 : (ax_dt (ax_T 240)).lookup 978 = some (.iload 5, 2, 0, 0, 0) := by decide +kernel
theorem l240_980 : (ax_dt (ax_T 240)).lookup 980 = some (.ifCond .ne 15, 3, 0, 0, 0) := by decide +kernel
theorem l240_983 : (ax_dt (ax_T 240)).lookup 983 = some (.aload_n 3, 1, 0, 0, 0) := by decide +kernel
theorem l240_984 : (ax_dt (ax_T 240)).lookup 984 = some (.iconst 0, 1, 0, 0, 0) := by decide +kernel
theorem l240_985 : (ax_dt (ax_T 240)).lookup 985 = some (.laload, 1, 0, 0, 0) := by decide +kernel
theorem l240_986 : (ax_dt (ax_T 240)).lookup 986 = some (.iload 6, 2, 0, 0, 0) := by decide +kernel
theorem l240_988 : (ax_dt (ax_T 240)).lookup 988 = some (.i2l, 1, 0, 0, 0) := by decide +kernel
theorem l240_989 : (ax_dt (ax_T 240)).lookup 989 = some (.lcmp, 1, 0, 0, 0) := by decide +kernel
theorem l240_990 : (ax_dt (ax_T 240)).lookup 990 = some (.ifCond .eq 5, 3, 0, 0, 0) := by decide +kernel
theorem l240_993 : (ax_dt (ax_T 240)).lookup 993 = some (.iconst 0, 1, 0, 0, 0) := by decide +kernel
theorem l240_994 : (ax_dt (ax_T 240)).lookup 994 = some (.ireturn, 1, 0, 0, 0) := by decide +kernel
theorem l240_995 : (ax_dt (ax_T 240)).lookup 995 = some (.goto 660, 3, 0, 0, 0) := by decide +kernel
theorem l240_998 : (ax_dt (ax_T 240)).lookup 998 = some (.aload_n 1, 1, 0, 0, 0) := by decide +kernel
theorem l240_999 : (ax_dt (ax_T 240)).lookup 999 = some (.invokevirtual 145, 3, 105, 0, 0) := by decide +kernel
theorem l240_1002 : (ax_dt (ax_T 240)).lookup 1002 = some (.aload_n 2, 1, 0, 0, 0) := by decide +kernel
theorem l240_1003 : (ax_dt (ax_T 240)).lookup 1003 = some (.invokevirtual 148, 3, 204, 0, 0) := by decide +kernel
theorem l240_1006 : (ax_dt (ax_T 240)).lookup 1006 = some (.if_icmp .eq 649, 3, 0, 0, 0) := by decide +kernel
theorem l240_1009 : (ax_dt (ax_T 240)).lookup 1009 = some (.iconst 0, 1, 0, 0, 0) := by decide +kernel
theorem l240_1010 : (ax_dt (ax_T 240)).lookup 1010 = some (.ireturn, 1, 0, 0, 0) := by decide +kernel
theorem l240_1011 : (ax_dt (ax_T 240)).lookup 1011 = some (.aload_n 1, 1, 0, 0, 0) := by decide +kernel
theorem l240_1012 : (ax_dt (ax_T 240)).lookup 1012 = some (.aload_n 0, 1, 0, 0, 0) := by decide +kernel
theorem l240_1013 : (ax_dt (ax_T 240)).lookup 1013 = some (.iload 4, 2, 0, 0, 0) := by decide +kernel
theorem l240_1015 : (ax_dt (ax_T 240)).lookup 1015 = some (.iconst 1, 1, 0, 0, 0) := by decide +kernel
theorem l240_1016 : (ax_dt (ax_T 240)).lookup 1016 = some (.iadd, 1, 0, 0, 0) := by decide +kernel
theorem l240_1017 : (ax_dt (ax_T 240)).lookup 1017 = some (.iaload, 1, 0, 0, 0) := by decide +kernel
theorem l240_1018 : (ax_dt (ax_T 240)).lookup 1018 = some (.aload_n 3, 1, 0, 0, 0) := by decide +kernel
theorem l240_1019 : (ax_dt (ax_T 240)).lookup 1019 = some (.invokestatic 149, 3, 231, 3, 0) := by decide +kernel
theorem l240_1022 : (ax_dt (ax_T 240)).lookup 1022 = some (.istore 5, 2, 0, 0, 0) := by decide +kernel
theorem l240_1024 : (ax_dt (ax_T 240)).lookup 1024 = some (.aload_n 2, 1, 0, 0, 0) := by decide +kernel
theorem l240_1025 : (ax_dt (ax_T 240)).lookup 1025 = some (.aload_n 0, 1, 0, 0, 0) := by decide +kernel
theorem l240_1026 : (ax_dt (ax_T 240)).lookup 1026 = some (.iload 4, 2, 0, 0, 0) := by decide +kernel
theorem l240_1028 : (ax_dt (ax_T 240)).lookup 1028 = some (.iconst 1, 1, 0, 0, 0) := by decide +kernel
theorem l240_1029 : (ax_dt (ax_T 240)).lookup 1029 = some (.iadd, 1, 0, 0, 0) := by decide +kernel
theorem l240_1030 : (ax_dt (ax_T 240)).lookup 1030 = some (.iaload, 1, 0, 0, 0) := by decide +kernel
theorem l240_1031 : (ax_dt (ax_T 240)).lookup 1031 = some (.invokevirtual 151, 3, 205, 1, 0) := by decide +kernel
theorem l240_1034 : (ax_dt (ax_T 240)).lookup 1034 = some (.istore 6, 2, 0, 0, 0) := by decide +kernel
theorem l240_1036 : (ax_dt (ax_T 240)).lookup 1036 = some (.aload_n 2, 1, 0, 0, 0) := by decide +kernel
theorem l240_1037 : (ax_dt (ax_T 240)).lookup 1037 = some (.invokevirtual 95, 3, 132, 0, 0) := by decide +kernel
theorem l240_1040 : (ax_dt (ax_T 240)).lookup 1040 = some (.iload 5, 2, 0, 0, 0) := by decide +kernel
theorem l240_1042 : (ax_dt (ax_T 240)).lookup 1042 = some (.if_icmp .eq 5, 3, 0, 0, 0) := by decide +kernel
theorem l240_1045 : (ax_dt (ax_T 240)).lookup 1045 = some (.iconst 0, 1, 0, 0, 0) := by decide +kernel
theorem l240_1046 : (ax_dt (ax_T 240)).lookup 1046 = some (.ireturn, 1, 0, 0, 0) := by decide +kernel
theorem l240_1047 : (ax_dt (ax_T 240)).lookup 1047 = some (.iload 5, 2, 0, 0, 0) := by decide +kernel
theorem l240_1049 : (ax_dt (ax_T 240)).lookup 1049 = some (.ifCond .ne 15, 3, 0, 0, 0) := by decide +kernel
theorem l240_1052 : (ax_dt (ax_T 240)).lookup 1052 = some (.aload_n 3, 1, 0, 0, 0) := by decide +kernel
theorem l240_1053 : (ax_dt (ax_T 240)).lookup 1053 = some (.iconst 0, 1, 0, 0, 0) := by decide +kernel
theorem l240_1054 : (ax_dt (ax_T 240)).lookup 1054 = some (.laload, 1, 0, 0, 0) := by decide +kernel
theorem l240_1055 : (ax_dt (ax_T 240)).lookup 1055 = some (.iload 6, 2, 0, 0, 0) := by decide +kernel
theorem l240_1057 : (ax_dt (ax_T 240)).lookup 1057 = some (.i2l, 1, 0, 0, 0) := by decide +kernel
theorem l240_1058 : (ax_dt (ax_T 240)).lookup 1058 = some (.lcmp, 1, 0, 0, 0) := by decide +kernel
theorem l240_1059 : (ax_dt (ax_T 240)).lookup 1059 = some (.ifCond .eq 5, 3, 0, 0, 0) := by decide +kernel
theorem l240_1062 : (ax_dt (ax_T 240)).lookup 1062 = some (.iconst 0, 1, 0, 0, 0) := by decide +kernel
theorem l240_1063 : (ax_dt (ax_T 240)).lookup 1063 = some (.ireturn, 1, 0, 0, 0) := by decide +kernel
theorem l240_1064 : (ax_dt (ax_T 240)).lookup 1064 = some (.goto 591, 3, 0, 0, 0) := by decide +kernel
theorem l240_1067 : (ax_dt (ax_T 240)).lookup 1067 = some (.aload_n 1, 1, 0, 0, 0) := by decide +kernel
theorem l240_1068 : (ax_dt (ax_T 240)).lookup 1068 = some (.aload_n 0, 1, 0, 0, 0) := by decide +kernel
theorem l240_1069 : (ax_dt (ax_T 240)).lookup 1069 = some (.iload 4, 2, 0, 0, 0) := by decide +kernel
theorem l240_1071 : (ax_dt (ax_T 240)).lookup 1071 = some (.iconst 1, 1, 0, 0, 0) := by decide +kernel
theorem l240_1072 : (ax_dt (ax_T 240)).lookup 1072 = some (.iadd, 1, 0, 0, 0) := by decide +kernel
theorem l240_1073 : (ax_dt (ax_T 240)).lookup 1073 = some (.iaload, 1, 0, 0, 0) := by decide +kernel
theorem l240_1074 : (ax_dt (ax_T 240)).lookup 1074 = some (.aload_n 3, 1, 0, 0, 0) := by decide +kernel
theorem l240_1075 : (ax_dt (ax_T 240)).lookup 1075 = some (.invokestatic 152, 3, 232, 3, 0) := by decide +kernel
theorem l240_1078 : (ax_dt (ax_T 240)).lookup 1078 = some (.istore 5, 2, 0, 0, 0) := by decide +kernel
theorem l240_1080 : (ax_dt (ax_T 240)).lookup 1080 = some (.aload_n 2, 1, 0, 0, 0) := by decide +kernel
theorem l240_1081 : (ax_dt (ax_T 240)).lookup 1081 = some (.aload_n 0, 1, 0, 0, 0) := by decide +kernel
theorem l240_1082 : (ax_dt (ax_T 240)).lookup 1082 = some (.iload 4, 2, 0, 0, 0) := by decide +kernel
theorem l240_1084 : (ax_dt (ax_T 240)).lookup 1084 = some (.iconst 1, 1, 0, 0, 0) := by decide +kernel
theorem l240_1085 : (ax_dt (ax_T 240)).lookup 1085 = some (.iadd, 1, 0, 0, 0) := by decide +kernel
theorem l240_1086 : (ax_dt (ax_T 240)).lookup 1086 = some (.iaload, 1, 0, 0, 0) := by decide +kernel
theorem l240_1087 : (ax_dt (ax_T 240)).lookup 1087 = some (.invokevirtual 154, 3, 206, 1, 0) := by decide +kernel
theorem l240_1090 : (ax_dt (ax_T 240)).lookup 1090 = some (.istore 6, 2, 0, 0, 0) := by decide +kernel
theorem l240_1092 : (ax_dt (ax_T 240)).lookup 1092 = some (.aload_n 2, 1, 0, 0, 0) := by decide +kernel
theorem l240_1093 : (ax_dt (ax_T 240)).lookup 1093 = some (.invokevirtual 95, 3, 132, 0, 0) := by decide +kernel
theorem l240_1096 : (ax_dt (ax_T 240)).lookup 1096 = some (.iload 5, 2, 0, 0, 0) := by decide +kernel
theorem l240_1098 : (ax_dt (ax_T 240)).lookup 1098 = some (.if_icmp .eq 5, 3, 0, 0, 0) := by decide +kernel
theorem l240_1101 : (ax_dt (ax_T 240)).lookup 1101 = some (.iconst 0, 1, 0, 0, 0) := by decide +kernel
theorem l240_1102 : (ax_dt (ax_T 240)).lookup 1102 = some (.ireturn, 1, 0, 0, 0) := by decide +kernel
theorem l240_1103 : (ax_dt (ax_T 240)).lookup 1103 = some (.iload 5, 2, 0, 0, 0) := by decide +kernel
theorem l240_1105 : (ax_dt (ax_T 240)).lookup 1105 = some (.ifCond .ne 15, 3, 0, 0, 0) := by decide +kernel
theorem l240_1108 : (ax_dt (ax_T 240)).lookup 1108 = some (.aload_n 3, 1, 0, 0, 0) := by decide +kernel
theorem l240_1109 : (ax_dt (ax_T 240)).lookup 1109 = some (.iconst 0, 1, 0, 0, 0) := by decide +kernel
theorem l240_1110 : (ax_dt (ax_T 240)).lookup 1110 = some (.laload, 1, 0, 0, 0) := by decide +kernel
theorem l240_1111 : (ax_dt (ax_T 240)).lookup 1111 = some (.iload 6, 2, 0, 0, 0) := by decide +kernel
theorem l240_1113 : (ax_dt (ax_T 240)).lookup 1113 = some (.i2l, 1, 0, 0, 0) := by decide +kernel
theorem l240_1114 : (ax_dt (ax_T 240)).lookup 1114 = some (.lcmp, 1, 0, 0, 0) := by decide +kernel
theorem l240_1115 : (ax_dt (ax_T 240)).lookup 1115 = some (.ifCond .eq 5, 3, 0, 0, 0) := by decide +kernel
theorem l240_1118 : (ax_dt (ax_T 240)).lookup 1118 = some (.iconst 0, 1, 0, 0, 0) := by decide +kernel
theorem l240_1119 : (ax_dt (ax_T 240)).lookup 1119 = some (.ireturn, 1, 0, 0, 0) := by decide +kernel
theorem l240_1120 : (ax_dt (ax_T 240)).lookup 1120 = some (.goto 535, 3, 0, 0, 0) := by decide +kernel
theorem l240_1123 : (ax_dt (ax_T 240)).lookup 1123 = some (.aload_n 1, 1, 0, 0, 0) := by decide +kernel
theorem l240_1124 : (ax_dt (ax_T 240)).lookup 1124 = some (.aload_n 0, 1, 0, 0, 0) := by decide +kernel
theorem l240_1125 : (ax_dt (ax_T 240)).lookup 1125 = some (.iload 4, 2, 0, 0, 0) := by decide +kernel
theorem l240_1127 : (ax_dt (ax_T 240)).lookup 1127 = some (.iconst 1, 1, 0, 0, 0) := by decide +kernel
theorem l240_1128 : (ax_dt (ax_T 240)).lookup 1128 = some (.iadd, 1, 0, 0, 0) := by decide +kernel
theorem l240_1129 : (ax_dt (ax_T 240)).lookup 1129 = some (.iaload, 1, 0, 0, 0) := by decide +kernel
theorem l240_1130 : (ax_dt (ax_T 240)).lookup 1130 = some (.aload_n 0, 1, 0, 0, 0) := by decide +kernel
theorem l240_1131 : (ax_dt (ax_T 240)).lookup 1131 = some (.iload 4, 2, 0, 0, 0) := by decide +kernel
theorem l240_1133 : (ax_dt (ax_T 240)).lookup 1133 = some (.iconst 2, 1, 0, 0, 0) := by decide +kernel
theorem l240_1134 : (ax_dt (ax_T 240)).lookup 1134 = some (.iadd, 1, 0, 0, 0) := by decide +kernel
theorem l240_1135 : (ax_dt (ax_T 240)).lookup 1135 = some (.iaload, 1, 0, 0, 0) := by decide +kernel
theorem l240_1136 : (ax_dt (ax_T 240)).lookup 1136 = some (.aload_n 3, 1, 0, 0, 0) := by decide +kernel
theorem l240_1137 : (ax_dt (ax_T 240)).lookup 1137 = some (.invokestatic 155, 3, 233, 4, 0) := by decide +kernel
theorem l240_1140 : (ax_dt (ax_T 240)).lookup 1140 = some (.istore 5, 2, 0, 0, 0) := by decide +kernel
theorem l240_1142 : (ax_dt (ax_T 240)).lookup 1142 = some (.aload_n 2, 1, 0, 0, 0) := by decide +kernel
theorem l240_1143 : (ax_dt (ax_T 240)).lookup 1143 = some (.aload_n 0, 1, 0, 0, 0) := by decide +kernel
theorem l240_1144 : (ax_dt (ax_T 240)).lookup 1144 = some (.iload 4, 2, 0, 0, 0) := by decide +kernel
theorem l240_1146 : (ax_dt (ax_T 240)).lookup 1146 = some (.iconst 1, 1, 0, 0, 0) := by decide +kernel
theorem l240_1147 : (ax_dt (ax_T 240)).lookup 1147 = some (.iadd, 1, 0, 0, 0) := by decide +kernel
theorem l240_1148 : (ax_dt (ax_T 240)).lookup 1148 = some (.iaload, 1, 0, 0, 0) := by decide +kernel
theorem l240_1149 : (ax_dt (ax_T 240)).lookup 1149 = some (.aload_n 0, 1, 0, 0, 0) := by decide +kernel
theorem l240_1150 : (ax_dt (ax_T 240)).lookup 1150 = some (.iload 4, 2, 0, 0, 0) := by decide +kernel
theorem l240_1152 : (ax_dt (ax_T 240)).lookup 1152 = some (.iconst 2, 1, 0, 0, 0) := by decide +kernel
theorem l240_1153 : (ax_dt (ax_T 240)).lookup 1153 = some (.iadd, 1, 0, 0, 0) := by decide +kernel
theorem l240_1154 : (ax_dt (ax_T 240)).lookup 1154 = some (.iaload, 1, 0, 0, 0) := by decide +kernel
theorem l240_1155 : (ax_dt (ax_T 240)).lookup 1155 = some (.invokevirtual 157, 3, 207, 2, 0) := by decide +kernel
theorem l240_1158 : (ax_dt (ax_T 240)).lookup 1158 = some (.istore 6, 2, 0, 0, 0) := by decide +kernel
theorem l240_1160 : (ax_dt (ax_T 240)).lookup 1160 = some (.aload_n 2, 1, 0, 0, 0) := by decide +kernel
theorem l240_1161 : (ax_dt (ax_T 240)).lookup 1161 = some (.invokevirtual 95, 3, 132, 0, 0) := by decide +kernel
theorem l240_1164 : (ax_dt (ax_T 240)).lookup 1164 = some (.iload 5, 2, 0, 0, 0) := by decide +kernel
theorem l240_1166 : (ax_dt (ax_T 240)).lookup 1166 = some (.if_icmp .eq 5, 3, 0, 0, 0) := by decide +kernel
theorem l240_1169 : (ax_dt (ax_T 240)).lookup 1169 = some (.iconst 0, 1, 0, 0, 0) := by decide +kernel
theorem l240_1170 : (ax_dt (ax_T 240)).lookup 1170 = some (.ireturn, 1, 0, 0, 0) := by decide +kernel
theorem l240_1171 : (ax_dt (ax_T 240)).lookup 1171 = some (.iload 5, 2, 0, 0, 0) := by decide +kernel
theorem l240_1173 : (ax_dt (ax_T 240)).lookup 1173 = some (.ifCond .ne 15, 3, 0, 0, 0) := by decide +kernel
theorem l240_1176 : (ax_dt (ax_T 240)).lookup 1176 = some (.aload_n 3, 1, 0, 0, 0) := by decide +kernel
theorem l240_1177 : (ax_dt (ax_T 240)).lookup 1177 = some (.iconst 0, 1, 0, 0, 0) := by decide +kernel
theorem l240_1178 : (ax_dt (ax_T 240)).lookup 1178 = some (.laload, 1, 0, 0, 0) := by decide +kernel
theorem l240_1179 : (ax_dt (ax_T 240)).lookup 1179 = some (.iload 6, 2, 0, 0, 0) := by decide +kernel
theorem l240_1181 : (ax_dt (ax_T 240)).lookup 1181 = some (.i2l, 1, 0, 0, 0) := by decide +kernel
theorem l240_1182 : (ax_dt (ax_T 240)).lookup 1182 = some (.lcmp, 1, 0, 0, 0) := by decide +kernel
theorem l240_1183 : (ax_dt (ax_T 240)).lookup 1183 = some (.ifCond .eq 5, 3, 0, 0, 0) := by decide +kernel
theorem l240_1186 : (ax_dt (ax_T 240)).lookup 1186 = some (.iconst 0, 1, 0, 0, 0) := by decide +kernel
theorem l240_1187 : (ax_dt (ax_T 240)).lookup 1187 = some (.ireturn, 1, 0, 0, 0) := by decide +kernel
theorem l240_1188 : (ax_dt (ax_T 240)).lookup 1188 = some (.goto 467, 3, 0, 0, 0) := by decide +kernel
theorem l240_1191 : (ax_dt (ax_T 240)).lookup 1191 = some (.aload_n 1, 1, 0, 0, 0) := by decide +kernel
theorem l240_1192 : (ax_dt (ax_T 240)).lookup 1192 = some (.aload_n 0, 1, 0, 0, 0) := by decide +kernel
theorem l240_1193 : (ax_dt (ax_T 240)).lookup 1193 = some (.iload 4, 2, 0, 0, 0) := by decide +kernel
theorem l240_1195 : (ax_dt (ax_T 240)).lookup 1195 = some (.iconst 1, 1, 0, 0, 0) := by decide +kernel
theorem l240_1196 : (ax_dt (ax_T 240)).lookup 1196 = some (.iadd, 1, 0, 0, 0) := by decide +kernel
theorem l240_1197 : (ax_dt (ax_T 240)).lookup 1197 = some (.iaload, 1, 0, 0, 0) := by decide +kernel
theorem l240_1198 : (ax_dt (ax_T 240)).lookup 1198 = some (.aload_n 0, 1, 0, 0, 0) := by decide +kernel
theorem l240_1199 : (ax_dt (ax_T 240)).lookup 1199 = some (.iload 4, 2, 0, 0, 0) := by decide +kernel
theorem l240_1201 : (ax_dt (ax_T 240)).lookup 1201 = some (.iconst 2, 1, 0, 0, 0) := by decide +kernel
theorem l240_1202 : (ax_dt (ax_T 240)).lookup 1202 = some (.iadd, 1, 0, 0, 0) := by decide +kernel
theorem l240_1203 : (ax_dt (ax_T 240)).lookup 1203 = some (.iaload, 1, 0, 0, 0) := by decide +kernel
theorem l240_1204 : (ax_dt (ax_T 240)).lookup 1204 = some (.aload_n 3, 1, 0, 0, 0) := by decide +kernel
theorem l240_1205 : (ax_dt (ax_T 240)).lookup 1205 = some (.invokestatic 158, 3, 234, 4, 0) := by decide +kernel
theorem l240_1208 : (ax_dt (ax_T 240)).lookup 1208 = some (.istore 5, 2, 0, 0, 0) := by decide +kernel
theorem l240_1210 : (ax_dt (ax_T 240)).lookup 1210 = some (.aload_n 2, 1, 0, 0, 0) := by decide +kernel
theorem l240_1211 : (ax_dt (ax_T 240)).lookup 1211 = some (.aload_n 0, 1, 0, 0, 0) := by decide +kernel
theorem l240_1212 : (ax_dt (ax_T 240)).lookup 1212 = some (.iload 4, 2, 0, 0, 0) := by decide +kernel
theorem l240_1214 : (ax_dt (ax_T 240)).lookup 1214 = some (.iconst 1, 1, 0, 0, 0) := by decide +kernel
theorem l240_1215 : (ax_dt (ax_T 240)).lookup 1215 = some (.iadd, 1, 0, 0, 0) := by decide +kernel
theorem l240_1216 : (ax_dt (ax_T 240)).lookup 1216 = some (.iaload, 1, 0, 0, 0) := by decide +kernel
theorem l240_1217 : (ax_dt (ax_T 240)).lookup 1217 = some (.aload_n 0, 1, 0, 0, 0) := by decide +kernel
theorem l240_1218 : (ax_dt (ax_T 240)).lookup 1218 = some (.iload 4, 2, 0, 0, 0) := by decide +kernel
theorem l240_1220 : (ax_dt (ax_T 240)).lookup 1220 = some (.iconst 2, 1, 0, 0, 0) := by decide +kernel
theorem l240_1221 : (ax_dt (ax_T 240)).lookup 1221 = some (.iadd, 1, 0, 0, 0) := by decide +kernel
theorem l240_1222 : (ax_dt (ax_T 240)).lookup 1222 = some (.iaload, 1, 0, 0, 0) := by decide +kernel
theorem l240_1223 : (ax_dt (ax_T 240)).lookup 1223 = some (.invokevirtual 160, 3, 208, 2, 0) := by decide +kernel
theorem l240_1226 : (ax_dt (ax_T 240)).lookup 1226 = some (.istore 6, 2, 0, 0, 0) := by decide +kernel
theorem l240_1228 : (ax_dt (ax_T 240)).lookup 1228 = some (.aload_n 2, 1, 0, 0, 0) := by decide +kernel
theorem l240_1229 : (ax_dt (ax_T 240)).lookup 1229 = some (.invokevirtual 95, 3, 132, 0, 0) := by decide +kernel
theorem l240_1232 : (ax_dt (ax_T 240)).lookup 1232 = some (.iload 5, 2, 0, 0, 0) := by decide +kernel
theorem l240_1234 : (ax_dt (ax_T 240)).lookup 1234 = some (.if_icmp .eq 5, 3, 0, 0, 0) := by decide +kernel
theorem l240_1237 : (ax_dt (ax_T 240)).lookup 1237 = some (.iconst 0, 1, 0, 0, 0) := by decide +kernel
theorem l240_1238 : (ax_dt (ax_T 240)).lookup 1238 = some (.ireturn, 1, 0, 0, 0) := by decide +kernel
theorem l240_1239 : (ax_dt (ax_T 240)).lookup 1239 = some (.iload 5, 2, 0, 0, 0) := by decide +kernel
theorem l240_1241 : (ax_dt (ax_T 240)).lookup 1241 = some (.ifCond .ne 15, 3, 0, 0, 0) := by decide +kernel
theorem l240_1244 : (ax_dt (ax_T 240)).lookup 1244 = some (.aload_n 3, 1, 0, 0, 0) := by decide +kernel
theorem l240_1245 : (ax_dt (ax_T 240)).lookup 1245 = some (.iconst 0, 1, 0, 0, 0) := by decide +kernel
theorem l240_1246 : (ax_dt (ax_T 240)).lookup 1246 = some (.laload, 1, 0, 0, 0) := by decide +kernel
theorem l240_1247 : (ax_dt (ax_T 240)).lookup 1247 = some (.iload 6, 2, 0, 0, 0) := by decide +kernel
theorem l240_1249 : (ax_dt (ax_T 240)).lookup 1249 = some (.i2l, 1, 0, 0, 0) := by decide +kernel
theorem l240_1250 : (ax_dt (ax_T 240)).lookup 1250 = some (.lcmp, 1, 0, 0, 0) := by decide +kernel
theorem l240_1251 : (ax_dt (ax_T 240)).lookup 1251 = some (.ifCond .eq 5, 3, 0, 0, 0) := by decide +kernel
theorem l240_1254 : (ax_dt (ax_T 240)).lookup 1254 = some (.iconst 0, 1, 0, 0, 0) := by decide +kernel
theorem l240_1255 : (ax_dt (ax_T 240)).lookup 1255 = some (.ireturn, 1, 0, 0, 0) := by decide +kernel
theorem l240_1256 : (ax_dt (ax_T 240)).lookup 1256 = some (.goto 399, 3, 0, 0, 0) := by decide +kernel
theorem l240_1259 : (ax_dt (ax_T 240)).lookup 1259 = some (.aload_n 1, 1, 0, 0, 0) := by decide +kernel
theorem l240_1260 : (ax_dt (ax_T 240)).lookup 1260 = some (.aload_n 0, 1, 0, 0, 0) := by decide +kernel
theorem l240_1261 : (ax_dt (ax_T 240)).lookup 1261 = some (.iload 4, 2, 0, 0, 0) := by decide +kernel
theorem l240_1263 : (ax_dt (ax_T 240)).lookup 1263 = some (.iconst 1, 1, 0, 0, 0) := by decide +kernel
theorem l240_1264 : (ax_dt (ax_T 240)).lookup 1264 = some (.iadd, 1, 0, 0, 0) := by decide +kernel
theorem l240_1265 : (ax_dt (ax_T 240)).lookup 1265 = some (.iaload, 1, 0, 0, 0) := by decide +kernel
theorem l240_1266 : (ax_dt (ax_T 240)).lookup 1266 = some (.aload_n 3, 1, 0, 0, 0) := by decide +kernel
theorem l240_1267 : (ax_dt (ax_T 240)).lookup 1267 = some (.invokestatic 161, 3, 235, 3, 0) := by decide +kernel
theorem l240_1270 : (ax_dt (ax_T 240)).lookup 1270 = some (.istore 5, 2, 0, 0, 0) := by decide +kernel
theorem l240_1272 : (ax_dt (ax_T 240)).lookup 1272 = some (.aload_n 2, 1, 0, 0, 0) := by decide +kernel
theorem l240_1273 : (ax_dt (ax_T 240)).lookup 1273 = some (.aload_n 0, 1, 0, 0, 0) := by decide +kernel
theorem l240_1274 : (ax_dt (ax_T 240)).lookup 1274 = some (.iload 4, 2, 0, 0, 0) := by decide +kernel
theorem l240_1276 : (ax_dt (ax_T 240)).lookup 1276 = some (.iconst 1, 1, 0, 0, 0) := by decide +kernel
theorem l240_1277 : (ax_dt (ax_T 240)).lookup 1277 = some (.iadd, 1, 0, 0, 0) := by decide +kernel
theorem l240_1278 : (ax_dt (ax_T 240)).lookup 1278 = some (.iaload, 1, 0, 0, 0) := by decide +kernel
theorem l240_1279 : (ax_dt (ax_T 240)).lookup 1279 = some (.invokevirtual 163, 3, 209, 1, 0) := by decide +kernel
theorem l240_1282 : (ax_dt (ax_T 240)).lookup 1282 = some (.istore 6, 2, 0, 0, 0) := by decide +kernel
theorem l240_1284 : (ax_dt (ax_T 240)).lookup 1284 = some (.aload_n 2, 1, 0, 0, 0) := by decide +kernel
theorem l240_1285 : (ax_dt (ax_T 240)).lookup 1285 = some (.invokevirtual 95, 3, 132, 0, 0) := by decide +kernel
theorem l240_1288 : (ax_dt (ax_T 240)).lookup 1288 = some (.iload 5, 2, 0, 0, 0) := by decide +kernel
theorem l240_1290 : (ax_dt (ax_T 240)).lookup 1290 = some (.if_icmp .eq 5, 3, 0, 0, 0) := by decide +kernel
theorem l240_1293 : (ax_dt (ax_T 240)).lookup 1293 = some (.iconst 0, 1, 0, 0, 0) := by decide +kernel
theorem l240_1294 : (ax_dt (ax_T 240)).lookup 1294 = some (.ireturn, 1, 0, 0, 0) := by decide +kernel
theorem l240_1295 : (ax_dt (ax_T 240)).lookup 1295 = some (.iload 5, 2, 0, 0, 0) := by decide +kernel
theorem l240_1297 : (ax_dt (ax_T 240)).lookup 1297 = some (.ifCond .ne 15, 3, 0, 0, 0) := by decide +kernel
theorem l240_1300 : (ax_dt (ax_T 240)).lookup 1300 = some (.aload_n 3, 1, 0, 0, 0) := by decide +kernel
theorem l240_1301 : (ax_dt (ax_T 240)).lookup 1301 = some (.iconst 0, 1, 0, 0, 0) := by decide +kernel
theorem l240_1302 : (ax_dt (ax_T 240)).lookup 1302 = some (.laload, 1, 0, 0, 0) := by decide +kernel
theorem l240_1303 : (ax_dt (ax_T 240)).lookup 1303 = some (.iload 6, 2, 0, 0, 0) := by decide +kernel
theorem l240_1305 : (ax_dt (ax_T 240)).lookup 1305 = some (.i2l, 1, 0, 0, 0) := by decide +kernel
theorem l240_1306 : (ax_dt (ax_T 240)).lookup 1306 = some (.lcmp, 1, 0, 0, 0) := by decide +kernel
theorem l240_1307 : (ax_dt (ax_T 240)).lookup 1307 = some (.ifCond .eq 5, 3, 0, 0, 0) := by decide +kernel
theorem l240_1310 : (ax_dt (ax_T 240)).lookup 1310 = some (.iconst 0, 1, 0, 0, 0) := by decide +kernel
theorem l240_1311 : (ax_dt (ax_T 240)).lookup 1311 = some (.ireturn, 1, 0, 0, 0) := by decide +kernel
theorem l240_1312 : (ax_dt (ax_T 240)).lookup 1312 = some (.goto 343, 3, 0, 0, 0) := by decide +kernel
theorem l240_1315 : (ax_dt (ax_T 240)).lookup 1315 = some (.aload_n 1, 1, 0, 0, 0) := by decide +kernel
theorem l240_1316 : (ax_dt (ax_T 240)).lookup 1316 = some (.aload_n 0, 1, 0, 0, 0) := by decide +kernel
theorem l240_1317 : (ax_dt (ax_T 240)).lookup 1317 = some (.iload 4, 2, 0, 0, 0) := by decide +kernel
theorem l240_1319 : (ax_dt (ax_T 240)).lookup 1319 = some (.iconst 1, 1, 0, 0, 0) := by decide +kernel
theorem l240_1320 : (ax_dt (ax_T 240)).lookup 1320 = some (.iadd, 1, 0, 0, 0) := by decide +kernel
theorem l240_1321 : (ax_dt (ax_T 240)).lookup 1321 = some (.iaload, 1, 0, 0, 0) := by decide +kernel
theorem l240_1322 : (ax_dt (ax_T 240)).lookup 1322 = some (.aload_n 0, 1, 0, 0, 0) := by decide +kernel
theorem l240_1323 : (ax_dt (ax_T 240)).lookup 1323 = some (.iload 4, 2, 0, 0, 0) := by decide +kernel
theorem l240_1325 : (ax_dt (ax_T 240)).lookup 1325 = some (.iconst 2, 1, 0, 0, 0) := by decide +kernel
theorem l240_1326 : (ax_dt (ax_T 240)).lookup 1326 = some (.iadd, 1, 0, 0, 0) := by decide +kernel
theorem l240_1327 : (ax_dt (ax_T 240)).lookup 1327 = some (.iaload, 1, 0, 0, 0) := by decide +kernel
theorem l240_1328 : (ax_dt (ax_T 240)).lookup 1328 = some (.aload_n 0, 1, 0, 0, 0) := by decide +kernel
theorem l240_1329 : (ax_dt (ax_T 240)).lookup 1329 = some (.iload 4, 2, 0, 0, 0) := by decide +kernel
theorem l240_1331 : (ax_dt (ax_T 240)).lookup 1331 = some (.iconst 3, 1, 0, 0, 0) := by decide +kernel
theorem l240_1332 : (ax_dt (ax_T 240)).lookup 1332 = some (.iadd, 1, 0, 0, 0) := by decide +kernel
theorem l240_1333 : (ax_dt (ax_T 240)).lookup 1333 = some (.iaload, 1, 0, 0, 0) := by decide +kernel
theorem l240_1334 : (ax_dt (ax_T 240)).lookup 1334 = some (.aload_n 3, 1, 0, 0, 0) := by decide +kernel
theorem l240_1335 : (ax_dt (ax_T 240)).lookup 1335 = some (.invokestatic 164, 3, 236, 5, 0) := by decide +kernel
theorem l240_1338 : (ax_dt (ax_T 240)).lookup 1338 = some (.istore 5, 2, 0, 0, 0) := by decide +kernel
theorem l240_1340 : (ax_dt (ax_T 240)).lookup 1340 = some (.aload_n 2, 1, 0, 0, 0) := by decide +kernel
theorem l240_1341 : (ax_dt (ax_T 240)).lookup 1341 = some (.aload_n 0, 1, 0, 0, 0) := by decide +kernel
theorem l240_1342 : (ax_dt (ax_T 240)).lookup 1342 = some (.iload 4, 2, 0, 0, 0) := by decide +kernel
theorem l240_1344 : (ax_dt (ax_T 240)).lookup 1344 = some (.iconst 1, 1, 0, 0, 0) := by decide +kernel
theorem l240_1345 : (ax_dt (ax_T 240)).lookup 1345 = some (.iadd, 1, 0, 0, 0) := by decide +kernel
theorem l240_1346 : (ax_dt (ax_T 240)).lookup 1346 = some (.iaload, 1, 0, 0, 0) := by decide +kernel
theorem l240_1347 : (ax_dt (ax_T 240)).lookup 1347 = some (.aload_n 0, 1, 0, 0, 0) := by decide +kernel
theorem l240_1348 : (ax_dt (ax_T 240)).lookup 1348 = some (.iload 4, 2, 0, 0, 0) := by decide +kernel
theorem l240_1350 : (ax_dt (ax_T 240)).lookup 1350 = some (.iconst 2, 1, 0, 0, 0) := by decide +kernel
theorem l240_1351 : (ax_dt (ax_T 240)).lookup 1351 = some (.iadd, 1, 0, 0, 0) := by decide +kernel
theorem l240_1352 : (ax_dt (ax_T 240)).lookup 1352 = some (.iaload, 1, 0, 0, 0) := by decide +kernel
theorem l240_1353 : (ax_dt (ax_T 240)).lookup 1353 = some (.aload_n 0, 1, 0, 0, 0) := by decide +kernel
theorem l240_1354 : (ax_dt (ax_T 240)).lookup 1354 = some (.iload 4, 2, 0, 0, 0) := by decide +kernel
theorem l240_1356 : (ax_dt (ax_T 240)).lookup 1356 = some (.iconst 3, 1, 0, 0, 0) := by decide +kernel
theorem l240_1357 : (ax_dt (ax_T 240)).lookup 1357 = some (.iadd, 1, 0, 0, 0) := by decide +kernel
theorem l240_1358 : (ax_dt (ax_T 240)).lookup 1358 = some (.iaload, 1, 0, 0, 0) := by decide +kernel
theorem l240_1359 : (ax_dt (ax_T 240)).lookup 1359 = some (.invokevirtual 166, 3, 211, 3, 0) := by decide +kernel
theorem l240_1362 : (ax_dt (ax_T 240)).lookup 1362 = some (.istore 6, 2, 0, 0, 0) := by decide +kernel
theorem l240_1364 : (ax_dt (ax_T 240)).lookup 1364 = some (.aload_n 2, 1, 0, 0, 0) := by decide +kernel
theorem l240_1365 : (ax_dt (ax_T 240)).lookup 1365 = some (.invokevirtual 95, 3, 132, 0, 0) := by decide +kernel
theorem l240_1368 : (ax_dt (ax_T 240)).lookup 1368 = some (.iload 5, 2, 0, 0, 0) := by decide +kernel
theorem l240_1370 : (ax_dt (ax_T 240)).lookup 1370 = some (.if_icmp .eq 5, 3, 0, 0, 0) := by decide +kernel
theorem l240_1373 : (ax_dt (ax_T 240)).lookup 1373 = some (.iconst 0, 1, 0, 0, 0) := by decide +kernel
theorem l240_1374 : (ax_dt (ax_T 240)).lookup 1374 = some (.ireturn, 1, 0, 0, 0) := by decide +kernel
theorem l240_1375 : (ax_dt (ax_T 240)).lookup 1375 = some (.iload 5, 2, 0, 0, 0) := by decide +kernel
theorem l240_1377 : (ax_dt (ax_T 240)).lookup 1377 = some (.ifCond .ne 15, 3, 0, 0, 0) := by decide +kernel
theorem l240_1380 : (ax_dt (ax_T 240)).lookup 1380 = some (.aload_n 3, 1, 0, 0, 0) := by decide +kernel
theorem l240_1381 : (ax_dt (ax_T 240)).lookup 1381 = some (.iconst 0, 1, 0, 0, 0) := by decide +kernel
theorem l240_1382 : (ax_dt (ax_T 240)).lookup 1382 = some (.laload, 1, 0, 0, 0) := by decide +kernel
theorem l240_1383 : (ax_dt (ax_T 240)).lookup 1383 = some (.iload 6, 2, 0, 0, 0) := by decide +kernel
theorem l240_1385 : (ax_dt (ax_T 240)).lookup 1385 = some (.i2l, 1, 0, 0, 0) := by decide +kernel
theorem l240_1386 : (ax_dt (ax_T 240)).lookup 1386 = some (.lcmp, 1, 0, 0, 0) := by decide +kernel
theorem l240_1387 : (ax_dt (ax_T 240)).lookup 1387 = some (.ifCond .eq 5, 3, 0, 0, 0) := by decide +kernel
theorem l240_1390 : (ax_dt (ax_T 240)).lookup 1390 = some (.iconst 0, 1, 0, 0, 0) := by decide +kernel
theorem l240_1391 : (ax_dt (ax_T 240)).lookup 1391 = some (.ireturn, 1, 0, 0, 0) := by decide +kernel
theorem l240_1392 : (ax_dt (ax_T 240)).lookup 1392 = some (.goto 263, 3, 0, 0, 0) := by decide +kernel
theorem l240_1395 : (ax_dt (ax_T 240)).lookup 1395 = some (.aload_n 1, 1, 0, 0, 0) := by decide +kernel
theorem l240_1396 : (ax_dt (ax_T 240)).lookup 1396 = some (.aload_n 0, 1, 0, 0, 0) := by decide +kernel
theorem l240_1397 : (ax_dt (ax_T 240)).lookup 1397 = some (.iload 4, 2, 0, 0, 0) := by decide +kernel
theorem l240_1399 : (ax_dt (ax_T 240)).lookup 1399 = some (.iconst 1, 1, 0, 0, 0) := by decide +kernel
theorem l240_1400 : (ax_dt (ax_T 240)).lookup 1400 = some (.iadd, 1, 0, 0, 0) := by decide +kernel
theorem l240_1401 : (ax_dt (ax_T 240)).lookup 1401 = some (.iaload, 1, 0, 0, 0) := by decide +kernel
theorem l240_1402 : (ax_dt (ax_T 240)).lookup 1402 = some (.aload_n 0, 1, 0, 0, 0) := by decide +kernel
theorem l240_1403 : (ax_dt (ax_T 240)).lookup 1403 = some (.iload 4, 2, 0, 0, 0) := by decide +kernel
theorem l240_1405 : (ax_dt (ax_T 240)).lookup 1405 = some (.iconst 2, 1, 0, 0, 0) := by decide +kernel
theorem l240_1406 : (ax_dt (ax_T 240)).lookup 1406 = some (.iadd, 1, 0, 0, 0) := by decide +kernel
theorem l240_1407 : (ax_dt (ax_T 240)).lookup 1407 = some (.iaload, 1, 0, 0, 0) := by decide +kernel
theorem l240_1408 : (ax_dt (ax_T 240)).lookup 1408 = some (.aload_n 3, 1, 0, 0, 0) := by decide +kernel
theorem l240_1409 : (ax_dt (ax_T 240)).lookup 1409 = some (.invokestatic 167, 3, 237, 4, 0) := by decide +kernel
theorem l240_1412 : (ax_dt (ax_T 240)).lookup 1412 = some (.istore 5, 2, 0, 0, 0) := by decide +kernel
theorem l240_1414 : (ax_dt (ax_T 240)).lookup 1414 = some (.aload_n 2, 1, 0, 0, 0) := by decide +kernel
theorem l240_1415 : (ax_dt (ax_T 240)).lookup 1415 = some (.aload_n 0, 1, 0, 0, 0) := by decide +kernel
theorem l240_1416 : (ax_dt (ax_T 240)).lookup 1416 = some (.iload 4, 2, 0, 0, 0) := by decide +kernel
theorem l240_1418 : (ax_dt (ax_T 240)).lookup 1418 = some (.iconst 1, 1, 0, 0, 0) := by decide +kernel
theorem l240_1419 : (ax_dt (ax_T 240)).lookup 1419 = some (.iadd, 1, 0, 0, 0) := by decide +kernel
theorem l240_1420 : (ax_dt (ax_T 240)).lookup 1420 = some (.iaload, 1, 0, 0, 0) := by decide +kernel
theorem l240_1421 : (ax_dt (ax_T 240)).lookup 1421 = some (.aload_n 0, 1, 0, 0, 0) := by decide +kernel
theorem l240_1422 : (ax_dt (ax_T 240)).lookup 1422 = some (.iload 4, 2, 0, 0, 0) := by decide +kernel
theorem l240_1424 : (ax_dt (ax_T 240)).lookup 1424 = some (.iconst 2, 1, 0, 0, 0) := by decide +kernel
theorem l240_1425 : (ax_dt (ax_T 240)).lookup 1425 = some (.iadd, 1, 0, 0, 0) := by decide +kernel
theorem l240_1426 : (ax_dt (ax_T 240)).lookup 1426 = some (.iaload, 1, 0, 0, 0) := by decide +kernel
theorem l240_1427 : (ax_dt (ax_T 240)).lookup 1427 = some (.invokevirtual 169, 3, 212, 2, 0) := by decide +kernel
theorem l240_1430 : (ax_dt (ax_T 240)).lookup 1430 = some (.lstore 6, 2, 0, 0, 0) := by decide +kernel
theorem l240_1432 : (ax_dt (ax_T 240)).lookup 1432 = some (.aload_n 2, 1, 0, 0, 0) := by decide +kernel
theorem l240_1433 : (ax_dt (ax_T 240)).lookup 1433 = some (.invokevirtual 95, 3, 132, 0, 0) := by decide +kernel
theorem l240_1436 : (ax_dt (ax_T 240)).lookup 1436 = some (.iload 5, 2, 0, 0, 0) := by decide +kernel
theorem l240_1438 : (ax_dt (ax_T 240)).lookup 1438 = some (.if_icmp .eq 5, 3, 0, 0, 0) := by decide +kernel
theorem l240_1441 : (ax_dt (ax_T 240)).lookup 1441 = some (.iconst 0, 1, 0, 0, 0) := by decide +kernel
theorem l240_1442 : (ax_dt (ax_T 240)).lookup 1442 = some (.ireturn, 1, 0, 0, 0) := by decide +kernel
theorem l240_1443 : (ax_dt (ax_T 240)).lookup 1443 = some (.iload 5, 2, 0, 0, 0) := by decide +kernel
theorem l240_1445 : (ax_dt (ax_T 240)).lookup 1445 = some (.ifCond .ne 14, 3, 0, 0, 0) := by decide +kernel
theorem l240_1448 : (ax_dt (ax_T 240)).lookup 1448 = some (.aload_n 3, 1, 0, 0, 0) := by decide +kernel
theorem l240_1449 : (ax_dt (ax_T 240)).lookup 1449 = some (.iconst 0, 1, 0, 0, 0) := by decide +kernel
theorem l240_1450 : (ax_dt (ax_T 240)).lookup 1450 = some (.laload, 1, 0, 0, 0) := by decide +kernel
theorem l240_1451 : (ax_dt (ax_T 240)).lookup 1451 = some (.lload 6, 2, 0, 0, 0) := by decide +kernel
theorem l240_1453 : (ax_dt (ax_T 240)).lookup 1453 = some (.lcmp, 1, 0, 0, 0) := by decide +kernel
theorem l240_1454 : (ax_dt (ax_T 240)).lookup 1454 = some (.ifCond .eq 5, 3, 0, 0, 0) := by decide +kernel
theorem l240_1457 : (ax_dt (ax_T 240)).lookup 1457 = some (.iconst 0, 1, 0, 0, 0) := by decide +kernel
theorem l240_1458 : (ax_dt (ax_T 240)).lookup 1458 = some (.ireturn, 1, 0, 0, 0) := by decide +kernel
theorem l240_1459 : (ax_dt (ax_T 240)).lookup 1459 = some (.goto 196, 3, 0, 0, 0) := by decide +kernel
theorem l240_1462 : (ax_dt (ax_T 240)).lookup 1462 = some (.aload_n 1, 1, 0, 0, 0) := by decide +kernel
theorem l240_1463 : (ax_dt (ax_T 240)).lookup 1463 = some (.aload_n 0, 1, 0, 0, 0) := by decide +kernel
theorem l240_1464 : (ax_dt (ax_T 240)).lookup 1464 = some (.iload 4, 2, 0, 0, 0) := by decide +kernel
theorem l240_1466 : (ax_dt (ax_T 240)).lookup 1466 = some (.iconst 1, 1, 0, 0, 0) := by decide +kernel
theorem l240_1467 : (ax_dt (ax_T 240)).lookup 1467 = some (.iadd, 1, 0, 0, 0) := by decide +kernel
theorem l240_1468 : (ax_dt (ax_T 240)).lookup 1468 = some (.iaload, 1, 0, 0, 0) := by decide +kernel
theorem l240_1469 : (ax_dt (ax_T 240)).lookup 1469 = some (.aload_n 0, 1, 0, 0, 0) := by decide +kernel
theorem l240_1470 : (ax_dt (ax_T 240)).lookup 1470 = some (.iload 4, 2, 0, 0, 0) := by decide +kernel
theorem l240_1472 : (ax_dt (ax_T 240)).lookup 1472 = some (.iconst 2, 1, 0, 0, 0) := by decide +kernel
theorem l240_1473 : (ax_dt (ax_T 240)).lookup 1473 = some (.iadd, 1, 0, 0, 0) := by decide +kernel
theorem l240_1474 : (ax_dt (ax_T 240)).lookup 1474 = some (.iaload, 1, 0, 0, 0) := by decide +kernel
theorem l240_1475 : (ax_dt (ax_T 240)).lookup 1475 = some (.aload_n 0, 1, 0, 0, 0) := by decide +kernel
theorem l240_1476 : (ax_dt (ax_T 240)).lookup 1476 = some (.iload 4, 2, 0, 0, 0) := by decide +kernel
theorem l240_1478 : (ax_dt (ax_T 240)).lookup 1478 = some (.iconst 3, 1, 0, 0, 0) := by decide +kernel
theorem l240_1479 : (ax_dt (ax_T 240)).lookup 1479 = some (.iadd, 1, 0, 0, 0) := by decide +kernel
theorem l240_1480 : (ax_dt (ax_T 240)).lookup 1480 = some (.iaload, 1, 0, 0, 0) := by decide +kernel
theorem l240_1481 : (ax_dt (ax_T 240)).lookup 1481 = some (.aload_n 3, 1, 0, 0, 0) := by decide +kernel
theorem l240_1482 : (ax_dt (ax_T 240)).lookup 1482 = some (.invokestatic 170, 3, 238, 5, 0) := by decide +kernel
theorem l240_1485 : (ax_dt (ax_T 240)).lookup 1485 = some (.istore 5, 2, 0, 0, 0) := by decide +kernel
theorem l240_1487 : (ax_dt (ax_T 240)).lookup 1487 = some (.aload_n 2, 1, 0, 0, 0) := by decide +kernel
theorem l240_1488 : (ax_dt (ax_T 240)).lookup 1488 = some (.aload_n 0, 1, 0, 0, 0) := by decide +kernel
theorem l240_1489 : (ax_dt (ax_T 240)).lookup 1489 = some (.iload 4, 2, 0, 0, 0) := by decide +kernel
theorem l240_1491 : (ax_dt (ax_T 240)).lookup 1491 = some (.iconst 1, 1, 0, 0, 0) := by decide +kernel
theorem l240_1492 : (ax_dt (ax_T 240)).lookup 1492 = some (.iadd, 1, 0, 0, 0) := by decide +kernel
theorem l240_1493 : (ax_dt (ax_T 240)).lookup 1493 = some (.iaload, 1, 0, 0, 0) := by decide +kernel
theorem l240_1494 : (ax_dt (ax_T 240)).lookup 1494 = some (.aload_n 0, 1, 0, 0, 0) := by decide +kernel
theorem l240_1495 : (ax_dt (ax_T 240)).lookup 1495 = some (.iload 4, 2, 0, 0, 0) := by decide +kernel
theorem l240_1497 : (ax_dt (ax_T 240)).lookup 1497 = some (.iconst 2, 1, 0, 0, 0) := by decide +kernel
theorem l240_1498 : (ax_dt (ax_T 240)).lookup 1498 = some (.iadd, 1, 0, 0, 0) := by decide +kernel
theorem l240_1499 : (ax_dt (ax_T 240)).lookup 1499 = some (.iaload, 1, 0, 0, 0) := by decide +kernel
theorem l240_1500 : (ax_dt (ax_T 240)).lookup 1500 = some (.aload_n 0, 1, 0, 0, 0) := by decide +kernel
theorem l240_1501 : (ax_dt (ax_T 240)).lookup 1501 = some (.iload 4, 2, 0, 0, 0) := by decide +kernel
theorem l240_1503 : (ax_dt (ax_T 240)).lookup 1503 = some (.iconst 3, 1, 0, 0, 0) := by decide +kernel
theorem l240_1504 : (ax_dt (ax_T 240)).lookup 1504 = some (.iadd, 1, 0, 0, 0) := by decide +kernel
theorem l240_1505 : (ax_dt (ax_T 240)).lookup 1505 = some (.iaload, 1, 0, 0, 0) := by decide +kernel
theorem l240_1506 : (ax_dt (ax_T 240)).lookup 1506 = some (.invokevirtual 172, 3, 213, 3, 0) := by decide +kernel
theorem l240_1509 : (ax_dt (ax_T 240)).lookup 1509 = some (.istore 6, 2, 0, 0, 0) := by decide +kernel
theorem l240_1511 : (ax_dt (ax_T 240)).lookup 1511 = some (.aload_n 2, 1, 0, 0, 0) := by decide +kernel
theorem l240_1512 : (ax_dt (ax_T 240)).lookup 1512 = some (.invokevirtual 95, 3, 132, 0, 0) := by decide +kernel
theorem l240_1515 : (ax_dt (ax_T 240)).lookup 1515 = some (.iload 5, 2, 0, 0, 0) := by decide +kernel
theorem l240_1517 : (ax_dt (ax_T 240)).lookup 1517 = some (.if_icmp .eq 5, 3, 0, 0, 0) := by decide +kernel
theorem l240_1520 : (ax_dt (ax_T 240)).lookup 1520 = some (.iconst 0, 1, 0, 0, 0) := by decide +kernel
theorem l240_1521 : (ax_dt (ax_T 240)).lookup 1521 = some (.ireturn, 1, 0, 0, 0) := by decide +kernel
theorem l240_1522 : (ax_dt (ax_T 240)).lookup 1522 = some (.iload 5, 2, 0, 0, 0) := by decide +kernel
theorem l240_1524 : (ax_dt (ax_T 240)).lookup 1524 = some (.ifCond .ne 15, 3, 0, 0, 0) := by decide +kernel
theorem l240_1527 : (ax_dt (ax_T 240)).lookup 1527 = some (.aload_n 3, 1, 0, 0, 0) := by decide +kernel
theorem l240_1528 : (ax_dt (ax_T 240)).lookup 1528 = some (.iconst 0, 1, 0, 0, 0) := by decide +kernel
theorem l240_1529 : (ax_dt (ax_T 240)).lookup 1529 = some (.laload, 1, 0, 0, 0) := by decide +kernel
theorem l240_1530 : (ax_dt (ax_T 240)).lookup 1530 = some (.iload 6, 2, 0, 0, 0) := by decide +kernel
theorem l240_1532 : (ax_dt (ax_T 240)).lookup 1532 = some (.i2l, 1, 0, 0, 0) := by decide +kernel
theorem l240_1533 : (ax_dt (ax_T 240)).lookup 1533 = some (.lcmp, 1, 0, 0, 0) := by decide +kernel
theorem l240_1534 : (ax_dt (ax_T 240)).lookup 1534 = some (.ifCond .eq 5, 3, 0, 0, 0) := by decide +kernel
theorem l240_1537 : (ax_dt (ax_T 240)).lookup 1537 = some (.iconst 0, 1, 0, 0, 0) := by decide +kernel
theorem l240_1538 : (ax_dt (ax_T 240)).lookup 1538 = some (.ireturn, 1, 0, 0, 0) := by decide +kernel
theorem l240_1539 : (ax_dt (ax_T 240)).lookup 1539 = some (.goto 116, 3, 0, 0, 0) := by decide +kernel
theorem l240_1542 : (ax_dt (ax_T 240)).lookup 1542 = some (.aload_n 1, 1, 0, 0, 0) := by decide +kernel
theorem l240_1543 : (ax_dt (ax_T 240)).lookup 1543 = some (.aload_n 0, 1, 0, 0, 0) := by decide +kernel
theorem l240_1544 : (ax_dt (ax_T 240)).lookup 1544 = some (.iload 4, 2, 0, 0, 0) := by decide +kernel
theorem l240_1546 : (ax_dt (ax_T 240)).lookup 1546 = some (.iconst 1, 1, 0, 0, 0) := by decide +kernel
theorem l240_1547 : (ax_dt (ax_T 240)).lookup 1547 = some (.iadd, 1, 0, 0, 0) := by decide +kernel
theorem l240_1548 : (ax_dt (ax_T 240)).lookup 1548 = some (.iaload, 1, 0, 0, 0) := by decide +kernel
theorem l240_1549 : (ax_dt (ax_T 240)).lookup 1549 = some (.aload_n 3, 1, 0, 0, 0) := by decide +kernel
theorem l240_1550 : (ax_dt (ax_T 240)).lookup 1550 = some (.invokestatic 173, 3, 239, 3, 0) := by decide +kernel
theorem l240_1553 : (ax_dt (ax_T 240)).lookup 1553 = some (.istore 5, 2, 0, 0, 0) := by decide +kernel
theorem l240_1555 : (ax_dt (ax_T 240)).lookup 1555 = some (.aload_n 2, 1, 0, 0, 0) := by decide +kernel
theorem l240_1556 : (ax_dt (ax_T 240)).lookup 1556 = some (.aload_n 0, 1, 0, 0, 0) := by decide +kernel
theorem l240_1557 : (ax_dt (ax_T 240)).lookup 1557 = some (.iload 4, 2, 0, 0, 0) := by decide +kernel
theorem l240_1559 : (ax_dt (ax_T 240)).lookup 1559 = some (.iconst 1, 1, 0, 0, 0) := by decide +kernel
theorem l240_1560 : (ax_dt (ax_T 240)).lookup 1560 = some (.iadd, 1, 0, 0, 0) := by decide +kernel
theorem l240_1561 : (ax_dt (ax_T 240)).lookup 1561 = some (.iaload, 1, 0, 0, 0) := by decide +kernel
theorem l240_1562 : (ax_dt (ax_T 240)).lookup 1562 = some (.invokevirtual 175, 3, 215, 1, 0) := by decide +kernel
theorem l240_1565 : (ax_dt (ax_T 240)).lookup 1565 = some (.istore 6, 2, 0, 0, 0) := by decide +kernel
theorem l240_1567 : (ax_dt (ax_T 240)).lookup 1567 = some (.aload_n 2, 1, 0, 0, 0) := by decide +kernel
theorem l240_1568 : (ax_dt (ax_T 240)).lookup 1568 = some (.invokevirtual 95, 3, 132, 0, 0) := by decide +kernel
theorem l240_1571 : (ax_dt (ax_T 240)).lookup 1571 = some (.iload 5, 2, 0, 0, 0) := by decide +kernel
theorem l240_1573 : (ax_dt (ax_T 240)).lookup 1573 = some (.if_icmp .eq 5, 3, 0, 0, 0) := by decide +kernel
theorem l240_1576 : (ax_dt (ax_T 240)).lookup 1576 = some (.iconst 0, 1, 0, 0, 0) := by decide +kernel
theorem l240_1577 : (ax_dt (ax_T 240)).lookup 1577 = some (.ireturn, 1, 0, 0, 0) := by decide +kernel
theorem l240_1578 : (ax_dt (ax_T 240)).lookup 1578 = some (.iload 5, 2, 0, 0, 0) := by decide +kernel
theorem l240_1580 : (ax_dt (ax_T 240)).lookup 1580 = some (.ifCond .ne 15, 3, 0, 0, 0) := by decide +kernel
theorem l240_1583 : (ax_dt (ax_T 240)).lookup 1583 = some (.aload_n 3, 1, 0, 0, 0) := by decide +kernel
theorem l240_1584 : (ax_dt (ax_T 240)).lookup 1584 = some (.iconst 0, 1, 0, 0, 0) := by decide +kernel
theorem l240_1585 : (ax_dt (ax_T 240)).lookup 1585 = some (.laload, 1, 0, 0, 0) := by decide +kernel
theorem l240_1586 : (ax_dt (ax_T 240)).lookup 1586 = some (.iload 6, 2, 0, 0, 0) := by decide +kernel
theorem l240_1588 : (ax_dt (ax_T 240)).lookup 1588 = some (.i2l, 1, 0, 0, 0) := by decide +kernel
theorem l240_1589 : (ax_dt (ax_T 240)).lookup 1589 = some (.lcmp, 1, 0, 0, 0) := by decide +kernel
theorem l240_1590 : (ax_dt (ax_T 240)).lookup 1590 = some (.ifCond .eq 5, 3, 0, 0, 0) := by decide +kernel
theorem l240_1593 : (ax_dt (ax_T 240)).lookup 1593 = some (.iconst 0, 1, 0, 0, 0) := by decide +kernel
theorem l240_1594 : (ax_dt (ax_T 240)).lookup 1594 = some (.ireturn, 1, 0, 0, 0) := by decide +kernel
theorem l240_1595 : (ax_dt (ax_T 240)).lookup 1595 = some (.goto 60, 3, 0, 0, 0) := by decide +kernel
theorem l240_1598 : (ax_dt (ax_T 240)).lookup 1598 = some (.aload_n 1, 1, 0, 0, 0) := by decide +kernel
theorem l240_1599 : (ax_dt (ax_T 240)).lookup 1599 = some (.aload_n 0, 1, 0, 0, 0) := by decide +kernel
theorem l240_1600 : (ax_dt (ax_T 240)).lookup 1600 = some (.iload 4, 2, 0, 0, 0) := by decide +kernel
theorem l240_1602 : (ax_dt (ax_T 240)).lookup 1602 = some (.iconst 1, 1, 0, 0, 0) := by decide +kernel
theorem l240_1603 : (ax_dt (ax_T 240)).lookup 1603 = some (.iadd, 1, 0, 0, 0) := by decide +kernel
theorem l240_1604 : (ax_dt (ax_T 240)).lookup 1604 = some (.iaload, 1, 0, 0, 0) := by decide +kernel
theorem l240_1605 : (ax_dt (ax_T 240)).lookup 1605 = some (.i2l, 1, 0, 0, 0) := by decide +kernel
theorem l240_1606 : (ax_dt (ax_T 240)).lookup 1606 = some (.bipush 32, 2, 0, 0, 0) := by decide +kernel
theorem l240_1608 : (ax_dt (ax_T 240)).lookup 1608 = some (.lshl, 1, 0, 0, 0) := by decide +kernel
theorem l240_1609 : (ax_dt (ax_T 240)).lookup 1609 = some (.aload_n 0, 1, 0, 0, 0) := by decide +kernel
theorem l240_1610 : (ax_dt (ax_T 240)).lookup 1610 = some (.iload 4, 2, 0, 0, 0) := by decide +kernel
theorem l240_1612 : (ax_dt (ax_T 240)).lookup 1612 = some (.iconst 2, 1, 0, 0, 0) := by decide +kernel
theorem l240_1613 : (ax_dt (ax_T 240)).lookup 1613 = some (.iadd, 1, 0, 0, 0) := by decide +kernel
theorem l240_1614 : (ax_dt (ax_T 240)).lookup 1614 = some (.iaload, 1, 0, 0, 0) := by decide +kernel
theorem l240_1615 : (ax_dt (ax_T 240)).lookup 1615 = some (.i2l, 1, 0, 0, 0) := by decide +kernel
theorem l240_1616 : (ax_dt (ax_T 240)).lookup 1616 = some (.ldc2_w 111, 3, 0, 0, 4294967295) := by decide +kernel
theorem l240_1619 : (ax_dt (ax_T 240)).lookup 1619 = some (.land, 1, 0, 0, 0) := by decide +kernel
theorem l240_1620 : (ax_dt (ax_T 240)).lookup 1620 = some (.lor, 1, 0, 0, 0) := by decide +kernel
theorem l240_1621 : (ax_dt (ax_T 240)).lookup 1621 = some (.invokevirtual 176, 3, 115, 1, 0) := by decide +kernel
theorem l240_1624 : (ax_dt (ax_T 240)).lookup 1624 = some (.aload_n 2, 1, 0, 0, 0) := by decide +kernel
theorem l240_1625 : (ax_dt (ax_T 240)).lookup 1625 = some (.aload_n 0, 1, 0, 0, 0) := by decide +kernel
theorem l240_1626 : (ax_dt (ax_T 240)).lookup 1626 = some (.iload 4, 2, 0, 0, 0) := by decide +kernel
theorem l240_1628 : (ax_dt (ax_T 240)).lookup 1628 = some (.iconst 1, 1, 0, 0, 0) := by decide +kernel
theorem l240_1629 : (ax_dt (ax_T 240)).lookup 1629 = some (.iadd, 1, 0, 0, 0) := by decide +kernel
theorem l240_1630 : (ax_dt (ax_T 240)).lookup 1630 = some (.iaload, 1, 0, 0, 0) := by decide +kernel
theorem l240_1631 : (ax_dt (ax_T 240)).lookup 1631 = some (.i2l, 1, 0, 0, 0) := by decide +kernel
theorem l240_1632 : (ax_dt (ax_T 240)).lookup 1632 = some (.bipush 32, 2, 0, 0, 0) := by decide +kernel
theorem l240_1634 : (ax_dt (ax_T 240)).lookup 1634 = some (.lshl, 1, 0, 0, 0) := by decide +kernel
theorem l240_1635 : (ax_dt (ax_T 240)).lookup 1635 = some (.aload_n 0, 1, 0, 0, 0) := by decide +kernel
theorem l240_1636 : (ax_dt (ax_T 240)).lookup 1636 = some (.iload 4, 2, 0, 0, 0) := by decide +kernel
theorem l240_1638 : (ax_dt (ax_T 240)).lookup 1638 = some (.iconst 2, 1, 0, 0, 0) := by decide +kernel
theorem l240_1639 : (ax_dt (ax_T 240)).lookup 1639 = some (.iadd, 1, 0, 0, 0) := by decide +kernel
theorem l240_1640 : (ax_dt (ax_T 240)).lookup 1640 = some (.iaload, 1, 0, 0, 0) := by decide +kernel
theorem l240_1641 : (ax_dt (ax_T 240)).lookup 1641 = some (.i2l, 1, 0, 0, 0) := by decide +kernel
theorem l240_1642 : (ax_dt (ax_T 240)).lookup 1642 = some (.ldc2_w 111, 3, 0, 0, 4294967295) := by decide +kernel
theorem l240_1645 : (ax_dt (ax_T 240)).lookup 1645 = some (.land, 1, 0, 0, 0) := by decide +kernel
theorem l240_1646 : (ax_dt (ax_T 240)).lookup 1646 = some (.lor, 1, 0, 0, 0) := by decide +kernel
theorem l240_1647 : (ax_dt (ax_T 240)).lookup 1647 = some (.invokevirtual 180, 3, 218, 1, 0) := by decide +kernel
theorem l240_1650 : (ax_dt (ax_T 240)).lookup 1650 = some (.if_icmp .eq 5, 3, 0, 0, 0) := by decide +kernel
theorem l240_1653 : (ax_dt (ax_T 240)).lookup 1653 = some (.iconst 0, 1, 0, 0, 0) := by decide +kernel
theorem l240_1654 : (ax_dt (ax_T 240)).lookup 1654 = some (.ireturn, 1, 0, 0, 0) := by decide +kernel
theorem l240_1655 : (ax_dt (ax_T 240)).lookup 1655 = some (.iinc 4 6, 3, 0, 0, 0) := by decide +kernel
theorem l240_1658 : (ax_dt (ax_T 240)).lookup 1658 = some (.goto (-1635), 3, 0, 0, 0) := by decide +kernel
theorem l240_1661 : (ax_dt (ax_T 240)).lookup 1661 = some (.iconst 1, 1, 0, 0, 0) := by decide +kernel
theorem l240_1662 : (ax_dt (ax_T 240)).lookup 1662 = some (.ireturn, 1, 0, 0, 0) := by decide +kernel
end
