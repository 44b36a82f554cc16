section
theorem l241_0 : (ax_dt (ax_T 241)).lookup 0 = some (.new 8, 3, 8, 0, 0) := by decide +kernel
theorem l241_3 : (ax_dt (ax_T 241)).lookup 3 = some (.dup, 1, 0, 0, 0) := by decide +kernel
theorem l241_4 : (ax_dt (ax_T 241)).lookup 4 = some (.invokespecial 85, 3, 92, 0, 0) := by decide +kernel
theorem l241_7 : (ax_dt (ax_T 241)).lookup 7 = some (.astore_n 1, 1, 0, 0, 0) := by decide +kernel
theorem l241_8 : (ax_dt (ax_T 241)).lookup 8 = some (.new 86, 3, 9, 0, 0) := by decide +kernel
theorem l241_11 : (ax_dt (ax_T 241)).lookup 11 = some (.dup, 1, 0, 0, 0) := by decide +kernel
theorem l241_12 : (ax_dt (ax_T 241)).lookup 12 = some (.invokespecial 88, 3, 132, 0, 0) := by decide +kernel
theorem l241_15 : (ax_dt (ax_T 241)).lookup 15 = some (.astore_n 2, 1, 0, 0, 0) := by decide +kernel
theorem l241_16 : (ax_dt (ax_T 241)).lookup 16 = some (.iconst 1, 1, 0, 0, 0) := by decide +kernel
theorem l241_17 : (ax_dt (ax_T 241)).lookup 17 = some (.newarray .long, 2, 0, 0, 0) := by decide +kernel
theorem l241_19 : (ax_dt (ax_T 241)).lookup 19 = some (.astore_n 3, 1, 0, 0, 0) := by decide +kernel
theorem l241_20 : (ax_dt (ax_T 241)).lookup 20 = some (.iconst 0, 1, 0, 0, 0) := by decide +kernel
theorem l241_21 : (ax_dt (ax_T 241)).lookup 21 = some (.istore 4, 2, 0, 0, 0) := by decide +kernel
theorem l241_23 : (ax_dt (ax_T 241)).lookup 23 = some (.iload 4, 2, 0, 0, 0) := by decide +kernel
theorem l241_25 : (ax_dt (ax_T 241)).lookup 25 = some (.aload_n 0, 1, 0, 0, 0) := by decide +kernel
theorem l241_26 : (ax_dt (ax_T 241)).lookup 26 = some (.arraylength, 1, 0, 0, 0) := by decide +kernel
theorem l241_27 : (ax_dt (ax_T 241)).lookup 27 = some (.bipush 6, 2, 0, 0, 0) := by decide +kernel
theorem l241_29 : (ax_dt (ax_T 241)).lookup 29 = some (.isub, 1, 0, 0, 0) := by decide +kernel
theorem l241_30 : (ax_dt (ax_T 241)).lookup 30 = some (.if_icmp .gt 1631, 3, 0, 0, 0) := by decide +kernel
theorem l241_33 : (ax_dt (ax_T 241)).lookup 33 = some (.aload_n 0, 1, 0, 0, 0) := by decide +kernel
theorem l241_34 : (ax_dt (ax_T 241)).lookup 34 = some (.iload 4, 2, 0, 0, 0) := by decide +kernel
theorem l241_36 : (ax_dt (ax_T 241)).lookup 36 = some (.iaload, 1, 0, 0, 0) := by decide +kernel
theorem l241_37 : (ax_dt (ax_T 241)).lookup 37 = some (.bipush 31, 2, 0, 0, 0) := by decide +kernel
theorem l241_39 : (ax_dt (ax_T 241)).lookup 39 = some (.iand, 1, 0, 0, 0) := by decide +kernel
theorem l241_40 : (ax_dt (ax_T 241)).lookup 40 = some (.tableswitch 1615 0 23 #[112, 216, 252, 308, 376, 500, 580, 672, 685, 698, 754, 822, 878, 958, 971, 1027, 1083, 1151, 1219, 1275, 1355, 1422, 1502, 1558], 112, 0, 0, 0) := by decide +kernel
theorem l241_152 : (ax_dt (ax_T 241)).lookup 152 = some (.aload_n 1, 1, 0, 0, 0) := by decide +kernel
theorem l241_153 : (ax_dt (ax_T 241)).lookup 153 = some (.aload_n 0, 1, 0, 0, 0) := by decide +kernel
theorem l241_154 : (ax_dt (ax_T 241)).lookup 154 = some (.iload 4, 2, 0, 0, 0) := by decide +kernel
theorem l241_156 : (ax_dt (ax_T 241)).lookup 156 = some (.iconst 1, 1, 0, 0, 0) := by decide +kernel
theorem l241_157 : (ax_dt (ax_T 241)).lookup 157 = some (.iadd, 1, 0, 0, 0) := by decide +kernel
theorem l241_158 : (ax_dt (ax_T 241)).lookup 158 = some (.iaload, 1, 0, 0, 0) := by decide +kernel
theorem l241_159 : (ax_dt (ax_T 241)).lookup 159 = some (.aload_n 0, 1, 0, 0, 0) := by decide +kernel
theorem l241_160 : (ax_dt (ax_T 241)).lookup 160 = some (.iload 4, 2, 0, 0, 0) := by decide +kernel
theorem l241_162 : (ax_dt (ax_T 241)).lookup 162 = some (.iconst 2, 1, 0, 0, 0) := by decide +kernel
theorem l241_163 : (ax_dt (ax_T 241)).lookup 163 = some (.iadd, 1, 0, 0, 0) := by decide +kernel
theorem l241_164 : (ax_dt (ax_T 241)).lookup 164 = some (.iaload, 1, 0, 0, 0) := by decide +kernel
theorem l241_165 : (ax_dt (ax_T 241)).lookup 165 = some (.aload_n 0, 1, 0, 0, 0) := by decide +kernel
theorem l241_166 : (ax_dt (ax_T 241)).lookup 166 = some (.iload 4, 2, 0, 0, 0) := by decide +kernel
theorem l241_168 : (ax_dt (ax_T 241)).lookup 168 = some (.iconst 3, 1, 0, 0, 0) := by decide +kernel
theorem l241_169 : (ax_dt (ax_T 241)).lookup 169 = some (.iadd, 1, 0, 0, 0) := by decide +kernel
theorem l241_170 : (ax_dt (ax_T 241)).lookup 170 = some (.iaload, 1, 0, 0, 0) := by decide +kernel
theorem l241_171 : (ax_dt (ax_T 241)).lookup 171 = some (.aload_n 0, 1, 0, 0, 0) := by decide +kernel
theorem l241_172 : (ax_dt (ax_T 241)).lookup 172 = some (.iload 4, 2, 0, 0, 0) := by decide +kernel
theorem l241_174 : (ax_dt (ax_T 241)).lookup 174 = some (.iconst 4, 1, 0, 0, 0) := by decide +kernel
theorem l241_175 : (ax_dt (ax_T 241)).lookup 175 = some (.iadd, 1, 0, 0, 0) := by decide +kernel
theorem l241_176 : (ax_dt (ax_T 241)).lookup 176 = some (.iaload, 1, 0, 0, 0) := by decide +kernel
theorem l241_177 : (ax_dt (ax_T 241)).lookup 177 = some (.aload_n 0, 1, 0, 0, 0) := by decide +kernel
theorem l241_178 : (ax_dt (ax_T 241)).lookup 178 = some (.iload 4, 2, 0, 0, 0) := by decide +kernel
theorem l241_180 : (ax_dt (ax_T 241)).lookup 180 = some (.iconst 5, 1, 0, 0, 0) := by decide +kernel
theorem l241_181 : (ax_dt (ax_T 241)).lookup 181 = some (.iadd, 1, 0, 0, 0) := by decide +kernel
theorem l241_182 : (ax_dt (ax_T 241)).lookup 182 = some (.iaload, 1, 0, 0, 0) := by decide +kernel
theorem l241_183 : (ax_dt (ax_T 241)).lookup 183 = some (.aload_n 3, 1, 0, 0, 0) := by decide +kernel
theorem l241_184 : (ax_dt (ax_T 241)).lookup 184 = some (.invokestatic 89, 3, 221, 7, 0) := by decide +kernel
theorem l241_187 : (ax_dt (ax_T 241)).lookup 187 = some (.istore 5, 2, 0, 0, 0) := by decide +kernel
theorem l241_189 : (ax_dt (ax_T 241)).lookup 189 = some (.aload_n 2, 1, 0, 0, 0) := by decide +kernel
theorem l241_190 : (ax_dt (ax_T 241)).lookup 190 = some (.aload_n 0, 1, 0, 0, 0) := by decide +kernel
theorem l241_191 : (ax_dt (ax_T 241)).lookup 191 = some (.iload 4, 2, 0, 0, 0) := by decide +kernel
theorem l241_193 : (ax_dt (ax_T 241)).lookup 193 = some (.iconst 1, 1, 0, 0, 0) := by decide +kernel
theorem l241_194 : (ax_dt (ax_T 241)).lookup 194 = some (.iadd, 1, 0, 0, 0) := by decide +kernel
theorem l241_195 : (ax_dt (ax_T 241)).lookup 195 = some (.iaload, 1, 0, 0, 0) := by decide +kernel
theorem l241_196 : (ax_dt (ax_T 241)).lookup 196 = some (.aload_n 0, 1, 0, 0, 0) := by decide +kernel
theorem l241_197 : (ax_dt (ax_T 241)).lookup 197 = some (.iload 4, 2, 0, 0, 0) := by decide +kernel
theorem l241_199 : (ax_dt (ax_T 241)).lookup 199 = some (.iconst 2, 1, 0, 0, 0) := by decide +kernel
theorem l241_200 : (ax_dt (ax_T 241)).lookup 200 = some (.iadd, 1, 0, 0, 0) := by decide +kernel
theorem l241_201 : (ax_dt (ax_T 241)).lookup 201 = some (.iaload, 1, 0, 0, 0) := by decide +kernel
theorem l241_202 : (ax_dt (ax_T 241)).lookup 202 = some (.aload_n 0, 1, 0, 0, 0) := by decide +kernel
theorem l241_203 : (ax_dt (ax_T 241)).lookup 203 = some (.iload 4, 2, 0, 0, 0) := by decide +kernel
theorem l241_205 : (ax_dt (ax_T 241)).lookup 205 = some (.iconst 3, 1, 0, 0, 0) := by decide +kernel
theorem l241_206 : (ax_dt (ax_T 241)).lookup 206 = some (.iadd, 1, 0, 0, 0) := by decide +kernel
theorem l241_207 : (ax_dt (ax_T 241)).lookup 207 = some (.iaload, 1, 0, 0, 0) := by decide +kernel
theorem l241_208 : (ax_dt (ax_T 241)).lookup 208 = some (.aload_n 0, 1, 0, 0, 0) := by decide +kernel
theorem l241_209 : (ax_dt (ax_T 241)).lookup 209 = some (.iload 4, 2, 0, 0, 0) := by decide +kernel
theorem l241_211 : (ax_dt (ax_T 241)).lookup 211 = some (.iconst 4, 1, 0, 0, 0) := by decide +kernel
theorem l241_212 : (ax_dt (ax_T 241)).lookup 212 = some (.iadd, 1, 0, 0, 0) := by decide +kernel
theorem l241_213 : (ax_dt (ax_T 241)).lookup 213 = some (.iaload, 1, 0, 0, 0) := by decide +kernel
theorem l241_214 : (ax_dt (ax_T 241)).lookup 214 = some (.aload_n 0, 1, 0, 0, 0) := by decide +kernel
theorem l241_215 : (ax_dt (ax_T 241)).lookup 215 = some (.iload 4, 2, 0, 0, 0) := by decide +kernel
theorem l241_217 : (ax_dt (ax_T 241)).lookup 217 = some (.iconst 5, 1, 0, 0, 0) := by decide +kernel
theorem l241_218 : (ax_dt (ax_T 241)).lookup 218 = some (.iadd, 1, 0, 0, 0) := by decide +kernel
theorem l241_219 : (ax_dt (ax_T 241)).lookup 219 = some (.iaload, 1, 0, 0, 0) := by decide +kernel
theorem l241_220 : (ax_dt (ax_T 241)).lookup 220 = some (.invokevirtual 94, 3, 138, 5, 0) := by decide +kernel
theorem l241_223 : (ax_dt (ax_T 241)).lookup 223 = some (.istore 6, 2, 0, 0, 0) := by decide +kernel
theorem l241_225 : (ax_dt (ax_T 241)).lookup 225 = some (.aload_n 2, 1, 0, 0, 0) := by decide +kernel
theorem l241_226 : (ax_dt (ax_T 241)).lookup 226 = some (.invokevirtual 95, 3, 133, 0, 0) := by decide +kernel
theorem l241_229 : (ax_dt (ax_T 241)).lookup 229 = some (.iload 5, 2, 0, 0, 0) := by decide +kernel
theorem l241_231 : (ax_dt (ax_T 241)).lookup 231 = some (.if_icmp .eq 5, 3, 0, 0, 0) := by decide +kernel
theorem l241_234 : (ax_dt (ax_T 241)).lookup 234 = some (.iconst 0, 1, 0, 0, 0) := by decide +kernel
theorem l241_235 : (ax_dt (ax_T 241)).lookup 235 = some (.ireturn, 1, 0, 0, 0) := by decide +kernel
theorem l241_236 : (ax_dt (ax_T 241)).lookup 236 = some (.iload 5, 2, 0, 0, 0) := by decide +kernel
theorem l241_238 : (ax_dt (ax_T 241)).lookup 238 = some (.ifCond .ne 15, 3, 0, 0, 0) := by decide +kernel
theorem l241_241 : (ax_dt (ax_T 241)).lookup 241 = some (.aload_n 3, 1, 0, 0, 0) := by decide +kernel
theorem l241_242 : (ax_dt (ax_T 241)).lookup 242 = some (.iconst 0, 1, 0, 0, 0) := by decide +kernel
theorem l241_243 : (ax_dt (ax_T 241)).lookup 243 = some (.laload, 1, 0, 0, 0) := by decide +kernel
theorem l241_244 : (ax_dt (ax_T 241)).lookup 244 = some (.iload 6, 2, 0, 0, 0) := by decide +kernel
theorem l241_246 : (ax_dt (ax_T 241)).lookup 246 = some (.i2l, 1, 0, 0, 0) := by decide +kernel
theorem l241_247 : (ax_dt (ax_T 241)).lookup 247 = some (.lcmp, 1, 0, 0, 0) := by decide +kernel
theorem l241_248 : (ax_dt (ax_T 241)).lookup 248 = some (.ifCond .eq 5, 3, 0, 0, 0) := by decide +kernel
theorem l241_251 : (ax_dt (ax_T 241)).lookup 251 = some (.iconst 0, 1, 0, 0, 0) := by decide +kernel
theorem l241_252 : (ax_dt (ax_T 241)).lookup 252 = some (.ireturn, 1, 0, 0, 0) := by decide +kernel
theorem l241_253 : (ax_dt (ax_T 241)).lookup 253 = some (.goto 1402, 3, 0, 0, 0) := by decide +kernel
theorem l241_256 : (ax_dt (ax_T 241)).lookup 256 = some (.aload_n 1, 1, 0, 0, 0) := by decide +kernel
theorem l241_257 : (ax_dt (ax_T 241)).lookup 257 = some (.aload_n 0, 1, 0, 0, 0) := by decide +kernel
theorem l241_258 : (ax_dt (ax_T 241)).lookup 258 = some (.iload 4, 2, 0, 0, 0) := by decide +kernel
theorem l241_260 : (ax_dt (ax_T 241)).lookup 260 = some (.iconst 1, 1, 0, 0, 0) := by decide +kernel
theorem l241_261 : (ax_dt (ax_T 241)).lookup 261 = some (.iadd, 1, 0, 0, 0) := by decide +kernel
theorem l241_262 : (ax_dt (ax_T 241)).lookup 262 = some (.iaload, 1, 0, 0, 0) := by decide +kernel
theorem l241_263 : (ax_dt (ax_T 241)).lookup 263 = some (.invokestatic 99, 3, 222, 2, 0) := by decide +kernel
theorem l241_266 : (ax_dt (ax_T 241)).lookup 266 = some (.istore 5, 2, 0, 0, 0) := by decide +kernel
theorem l241_268 : (ax_dt (ax_T 241)).lookup 268 = some (.aload_n 2, 1, 0, 0, 0) := by decide +kernel
theorem l241_269 : (ax_dt (ax_T 241)).lookup 269 = some (.aload_n 0, 1, 0, 0, 0) := by decide +kernel
theorem l241_270 : (ax_dt (ax_T 241)).lookup 270 = some (.iload 4, 2, 0, 0, 0) := by decide +kernel
theorem l241_272 : (ax_dt (ax_T 241)).lookup 272 = some (.iconst 1, 1, 0, 0, 0) := by decide +kernel
theorem l241_273 : (ax_dt (ax_T 241)).lookup 273 = some (.iadd, 1, 0, 0, 0) := by decide +kernel
theorem l241_274 : (ax_dt (ax_T 241)).lookup 274 = some (.iaload, 1, 0, 0, 0) := by decide +kernel
theorem l241_275 : (ax_dt (ax_T 241)).lookup 275 = some (.invokevirtual 102, 3, 139, 1, 0) := by decide +kernel
theorem l241_278 : (ax_dt (ax_T 241)).lookup 278 = some (.aload_n 2, 1, 0, 0, 0) := by decide +kernel
theorem l241_279 : (ax_dt (ax_T 241)).lookup 279 = some (.invokevirtual 95, 3, 133, 0, 0) := by decide +kernel
theorem l241_282 : (ax_dt (ax_T 241)).lookup 282 = some (.iload 5, 2, 0, 0, 0) := by decide +kernel
theorem l241_284 : (ax_dt (ax_T 241)).lookup 284 = some (.if_icmp .eq 5, 3, 0, 0, 0) := by decide +kernel
theorem l241_287 : (ax_dt (ax_T 241)).lookup 287 = some (.iconst 0, 1, 0, 0, 0) := by decide +kernel
theorem l241_288 : (ax_dt (ax_T 241)).lookup 288 = some (.ireturn, 1, 0, 0, 0) := by decide +kernel
theorem l241_289 : (ax_dt (ax_T 241)).lookup 289 = some (.goto 1366, 3, 0, 0, 0) := by decide +kernel
theorem l241_292 : (ax_dt (ax_T 241)).lookup 292 = some (.aload_n 1, 1, 0, 0, 0) := by decide +kernel
theorem l241_293 : (ax_dt (ax_T 241)).lookup 293 = some (.aload_n 0, 1, 0, 0, 0) := by decide +kernel
theorem l241_294 : (ax_dt (ax_T 241)).lookup 294 = some (.iload 4, 2, 0, 0, 0) := by decide +kernel
theorem l241_296 : (ax_dt (ax_T 241)).lookup 296 = some (.iconst 1, 1, 0, 0, 0) := by decide +kernel
theorem l241_297 : (ax_dt (ax_T 241)).lookup 297 = some (.iadd, 1, 0, 0, 0) := by decide +kernel
theorem l241_298 : (ax_dt (ax_T 241)).lookup 298 = some (.iaload, 1, 0, 0, 0) := by decide +kernel
theorem l241_299 : (ax_dt (ax_T 241)).lookup 299 = some (.aload_n 3, 1, 0, 0, 0) := by decide +kernel
theorem l241_300 : (ax_dt (ax_T 241)).lookup 300 = some (.invokestatic 103, 3, 223, 3, 0) := by decide +kernel
theorem l241_303 : (ax_dt (ax_T 241)).lookup 303 = some (.istore 5, 2, 0, 0, 0) := by decide +kernel
theorem l241_305 : (ax_dt (ax_T 241)).lookup 305 = some (.aload_n 2, 1, 0, 0, 0) := by decide +kernel
theorem l241_306 : (ax_dt (ax_T 241)).lookup 306 = some (.aload_n 0, 1, 0, 0, 0) := by decide +kernel
theorem l241_307 : (ax_dt (ax_T 241)).lookup 307 = some (.iload 4, 2, 0, 0, 0) := by decide +kernel
theorem l241_309 : (ax_dt (ax_T 241)).lookup 309 = some (.iconst 1, 1, 0, 0, 0) := by decide +kernel
theorem l241_310 : (ax_dt (ax_T 241)).lookup 310 = some (.iadd, 1, 0, 0, 0) := by decide +kernel
theorem l241_311 : (ax_dt (ax_T 241)).lookup 311 = some (.iaload, 1, 0, 0, 0) := by decide +kernel
theorem l241_312 : (ax_dt (ax_T 241)).lookup 312 = some (.invokevirtual 106, 3, 144, 1, 0) := by decide +kernel
theorem l241_315 : (ax_dt (ax_T 241)).lookup 315 = some (.istore 6, 2, 0, 0, 0) := by decide +kernel
theorem l241_317 : (ax_dt (ax_T 241)).lookup 317 = some (.aload_n 2, 1, 0, 0, 0) := by decide +kernel
theorem l241_318 : (ax_dt (ax_T 241)).lookup 318 = some (.invokevirtual 95, 3, 133, 0, 0) := by decide +kernel
theorem l241_321 : (ax_dt (ax_T 241)).lookup 321 = some (.iload 5, 2, 0, 0, 0) := by decide +kernel
theorem l241_323 : (ax_dt (ax_T 241)).lookup 323 = some (.if_icmp .eq 5, 3, 0, 0, 0) := by decide +kernel
theorem l241_326 : (ax_dt (ax_T 241)).lookup 326 = some (.iconst 0, 1, 0, 0, 0) := by decide +kernel
theorem l241_327 : (ax_dt (ax_T 241)).lookup 327 = some (.ireturn, 1, 0, 0, 0) := by decide +kernel
theorem l241_328 : (ax_dt (ax_T 241)).lookup 328 = some (.iload 5, 2, 0, 0, 0) := by decide +kernel
theorem l241_330 : (ax_dt (ax_T 241)).lookup 330 = some (.ifCond .ne 15, 3, 0, 0, 0) := by decide +kernel
theorem l241_333 : (ax_dt (ax_T 241)).lookup 333 = some (.aload_n 3, 1, 0, 0, 0) := by decide +kernel
theorem l241_334 : (ax_dt (ax_T 241)).lookup 334 = some (.iconst 0, 1, 0, 0, 0) := by decide +kernel
theorem l241_335 : (ax_dt (ax_T 241)).lookup 335 = some (.laload, 1, 0, 0, 0) := by decide +kernel
theorem l241_336 : (ax_dt (ax_T 241)).lookup 336 = some (.iload 6, 2, 0, 0, 0) := by decide +kernel
theorem l241_338 : (ax_dt (ax_T 241)).lookup 338 = some (.i2l, 1, 0, 0, 0) := by decide +kernel
theorem l241_339 : (ax_dt (ax_T 241)).lookup 339 = some (.lcmp, 1, 0, 0, 0) := by decide +kernel
theorem l241_340 : (ax_dt (ax_T 241)).lookup 340 = some (.ifCond .eq 5, 3, 0, 0, 0) := by decide +kernel
theorem l241_343 : (ax_dt (ax_T 241)).lookup 343 = some (.iconst 0, 1, 0, 0, 0) := by decide +kernel
theorem l241_344 : (ax_dt (ax_T 241)).lookup 344 = some (.ireturn, 1, 0, 0, 0) := by decide +kernel
theorem l241_345 : (ax_dt (ax_T 241)).lookup 345 = some (.goto 1310, 3, 0, 0, 0) := by decide +kernel
theorem l241_348 : (ax_dt (ax_T 241)).lookup 348 = some (.aload_n 1, 1, 0, 0, 0) := by decide +kernel
theorem l241_349 : (ax_dt (ax_T 241)).lookup 349 = some (.aload_n 0, 1, 0, 0, 0) := by decide +kernel
theorem l241_350 : (ax_dt (ax_T 241)).lookup 350 = some (.iload 4, 2, 0, 0, 0) := by decide +kernel
theorem l241_352 : (ax_dt (ax_T 241)).lookup 352 = some (.iconst 1, 1, 0, 0, 0) := by decide +kernel
theorem l241_353 : (ax_dt (ax_T 241)).lookup 353 = some (.iadd, 1, 0, 0, 0) := by decide +kernel
theorem l241_354 : (ax_dt (ax_T 241)).lookup 354 = some (.iaload, 1, 0, 0, 0) := by decide +kernel
theorem l241_355 : (ax_dt (ax_T 241)).lookup 355 = some (.aload_n 0, 1, 0, 0, 0) := by decide +kernel
theorem l241_356 : (ax_dt (ax_T 241)).lookup 356 = some (.iload 4, 2, 0, 0, 0) := by decide +kernel
theorem l241_358 : (ax_dt (ax_T 241)).lookup 358 = some (.iconst 2, 1, 0, 0, 0) := by decide +kernel
theorem l241_359 : (ax_dt (ax_T 241)).lookup 359 = some (.iadd, 1, 0, 0, 0) := by decide +kernel
theorem l241_360 : (ax_dt (ax_T 241)).lookup 360 = some (.iaload, 1, 0, 0, 0) := by decide +kernel
theorem l241_361 : (ax_dt (ax_T 241)).lookup 361 = some (.aload_n 3, 1, 0, 0, 0) := by decide +kernel
theorem l241_362 : (ax_dt (ax_T 241)).lookup 362 = some (.invokestatic 107, 3, 224, 4, 0) := by decide +kernel
theorem l241_365 : (ax_dt (ax_T 241)).lookup 365 = some (.istore 5, 2, 0, 0, 0) := by decide +kernel
theorem l241_367 : (ax_dt (ax_T 241)).lookup 367 = some (.aload_n 2, 1, 0, 0, 0) := by decide +kernel
theorem l241_368 : (ax_dt (ax_T 241)).lookup 368 = some (.aload_n 0, 1, 0, 0, 0) := by decide +kernel
theorem l241_369 : (ax_dt (ax_T 241)).lookup 369 = some (.iload 4, 2, 0, 0, 0) := by decide +kernel
theorem l241_371 : (ax_dt (ax_T 241)).lookup 371 = some (.iconst 1, 1, 0, 0, 0) := by decide +kernel
theorem l241_372 : (ax_dt (ax_T 241)).lookup 372 = some (.iadd, 1, 0, 0, 0) := by decide +kernel
theorem l241_373 : (ax_dt (ax_T 241)).lookup 373 = some (.iaload, 1, 0, 0, 0) := by decide +kernel
theorem l241_374 : (ax_dt (ax_T 241)).lookup 374 = some (.aload_n 0, 1, 0, 0, 0) := by decide +kernel
theorem l241_375 : (ax_dt (ax_T 241)).lookup 375 = some (.iload 4, 2, 0, 0, 0) := by decide +kernel
theorem l241_377 : (ax_dt (ax_T 241)).lookup 377 = some (.iconst 2, 1, 0, 0, 0) := by decide +kernel
theorem l241_378 : (ax_dt (ax_T 241)).lookup 378 = some (.iadd, 1, 0, 0, 0) := by decide +kernel
theorem l241_379 : (ax_dt (ax_T 241)).lookup 379 = some (.iaload, 1, 0, 0, 0) := by decide +kernel
theorem l241_380 : (ax_dt (ax_T 241)).lookup 380 = some (.invokevirtual 110, 3, 146, 2, 0) := by decide +kernel
theorem l241_383 : (ax_dt (ax_T 241)).lookup 383 = some (.istore 6, 2, 0, 0, 0) := by decide +kernel
theorem l241_385 : (ax_dt (ax_T 241)).lookup 385 = some (.aload_n 2, 1, 0, 0, 0) := by decide +kernel
theorem l241_386 : (ax_dt (ax_T 241)).lookup 386 = some (.invokevirtual 95, 3, 133, 0, 0) := by decide +kernel
theorem l241_389 : (ax_dt (ax_T 241)).lookup 389 = some (.iload 5, 2, 0, 0, 0) := by decide +kernel
theorem l241_391 : (ax_dt (ax_T 241)).lookup 391 = some (.if_icmp .eq 5, 3, 0, 0, 0) := by decide +kernel
theorem l241_394 : (ax_dt (ax_T 241)).lookup 394 = some (.iconst 0, 1, 0, 0, 0) := by decide +kernel
theorem l241_395 : (ax_dt (ax_T 241)).lookup 395 = some (.ireturn, 1, 0, 0, 0) := by decide +kernel
theorem l241_396 : (ax_dt (ax_T 241)).lookup 396 = some (.iload 5, 2, 0, 0, 0) := by decide +kernel
theorem l241_398 : (ax_dt (ax_T 241)).lookup 398 = some (.ifCond .ne 15, 3, 0, 0, 0) := by decide +kernel
theorem l241_401 : (ax_dt (ax_T 241)).lookup 401 = some (.aload_n 3, 1, 0, 0, 0) := by decide +kernel
theorem l241_402 : (ax_dt (ax_T 241)).lookup 402 = some (.iconst 0, 1, 0, 0, 0) := by decide +kernel
theorem l241_403 : (ax_dt (ax_T 241)).lookup 403 = some (.laload, 1, 0, 0, 0) := by decide +kernel
theorem l241_404 : (ax_dt (ax_T 241)).lookup 404 = some (.iload 6, 2, 0, 0, 0) := by decide +kernel
theorem l241_406 : (ax_dt (ax_T 241)).lookup 406 = some (.i2l, 1, 0, 0, 0) := by decide +kernel
theorem l241_407 : (ax_dt (ax_T 241)).lookup 407 = some (.lcmp, 1, 0, 0, 0) := by decide +kernel
theorem l241_408 : (ax_dt (ax_T 241)).lookup 408 = some (.ifCond .eq 5, 3, 0, 0, 0) := by decide +kernel
theorem l241_411 : (ax_dt (ax_T 241)).lookup 411 = some (.iconst 0, 1, 0, 0, 0) := by decide +kernel
theorem l241_412 : (ax_dt (ax_T 241)).lookup 412 = some (.ireturn, 1, 0, 0, 0) := by decide +kernel
theorem l241_413 : (ax_dt (ax_T 241)).lookup 413 = some (.goto 1242, 3, 0, 0, 0) := by decide +kernel
theorem l241_416 : (ax_dt (ax_T 241)).lookup 416 = some (.aload_n 1, 1, 0, 0, 0) := by decide +kernel
theorem l241_417 : (ax_dt (ax_T 241)).lookup 417 = some (.aload_n 0, 1, 0, 0, 0) := by decide +kernel
theorem l241_418 : (ax_dt (ax_T 241)).lookup 418 = some (.iload 4, 2, 0, 0, 0) := by decide +kernel
theorem l241_420 : (ax_dt (ax_T 241)).lookup 420 = some (.iconst 1, 1, 0, 0, 0) := by decide +kernel
theorem l241_421 : (ax_dt (ax_T 241)).lookup 421 = some (.iadd, 1, 0, 0, 0) := by decide +kernel
theorem l241_422 : (ax_dt (ax_T 241)).lookup 422 = some (.iaload, 1, 0, 0, 0) := by decide +kernel
theorem l241_423 : (ax_dt (ax_T 241)).lookup 423 = some (.aload_n 0, 1, 0, 0, 0) := by decide +kernel
theorem l241_424 : (ax_dt (ax_T 241)).lookup 424 = some (.iload 4, 2, 0, 0, 0) := by decide +kernel
theorem l241_426 : (ax_dt (ax_T 241)).lookup 426 = some (.iconst 2, 1, 0, 0, 0) := by decide +kernel
theorem l241_427 : (ax_dt (ax_T 241)).lookup 427 = some (.iadd, 1, 0, 0, 0) := by decide +kernel
theorem l241_428 : (ax_dt (ax_T 241)).lookup 428 = some (.iaload, 1, 0, 0, 0) := by decide +kernel
theorem l241_429 : (ax_dt (ax_T 241)).lookup 429 = some (.aload_n 0, 1, 0, 0, 0) := by decide +kernel
theorem l241_430 : (ax_dt (ax_T 241)).lookup 430 = some (.iload 4, 2, 0, 0, 0) := by decide +kernel
theorem l241_432 : (ax_dt (ax_T 241)).lookup 432 = some (.iconst 3, 1, 0, 0, 0) := by decide +kernel
theorem l241_433 : (ax_dt (ax_T 241)).lookup 433 = some (.iadd, 1, 0, 0, 0) := by decide +kernel
theorem l241_434 : (ax_dt (ax_T 241)).lookup 434 = some (.iaload, 1, 0, 0, 0) := by decide +kernel
theorem l241_435 : (ax_dt (ax_T 241)).lookup 435 = some (.aload_n 0, 1, 0, 0, 0) := by decide +kernel
theorem l241_436 : (ax_dt (ax_T 241)).lookup 436 = some (.iload 4, 2, 0, 0, 0) := by decide +kernel
theorem l241_438 : (ax_dt (ax_T 241)).lookup 438 = some (.iconst 4, 1, 0, 0, 0) := by decide +kernel
theorem l241_439 : (ax_dt (ax_T 241)).lookup 439 = some (.iadd, 1, 0, 0, 0) := by decide +kernel
theorem l241_440 : (ax_dt (ax_T 241)).lookup 440 = some (.iaload, 1, 0, 0, 0) := by decide +kernel
theorem l241_441 : (ax_dt (ax_T 241)).lookup 441 = some (.i2l, 1, 0, 0, 0) := by decide +kernel
theorem l241_442 : (ax_dt (ax_T 241)).lookup 442 = some (.bipush 32, 2, 0, 0, 0) := by decide +kernel
theorem l241_444 : (ax_dt (ax_T 241)).lookup 444 = some (.lshl, 1, 0, 0, 0) := by decide +kernel
theorem l241_445 : (ax_dt (ax_T 241)).lookup 445 = some (.aload_n 0, 1, 0, 0, 0) := by decide +kernel
theorem l241_446 : (ax_dt (ax_T 241)).lookup 446 = some (.iload 4, 2, 0, 0, 0) := by decide +kernel
theorem l241_448 : (ax_dt (ax_T 241)).lookup 448 = some (.iconst 5, 1, 0, 0, 0) := by decide +kernel
theorem l241_449 : (ax_dt (ax_T 241)).lookup 449 = some (.iadd, 1, 0, 0, 0) := by decide +kernel
theorem l241_450 : (ax_dt (ax_T 241)).lookup 450 = some (.iaload, 1, 0, 0, 0) := by decide +kernel
theorem l241_451 : (ax_dt (ax_T 241)).lookup 451 = some (.i2l, 1, 0, 0, 0) := by decide +kernel
theorem l241_452 : (ax_dt (ax_T 241)).lookup 452 = some (.ldc2_w 111, 3, 0, 0, 4294967295) := by decide +kernel
theorem l241_455 : (ax_dt (ax_T 241)).lookup 455 = some (.land, 1, 0, 0, 0) := by decide +kernel
theorem l241_456 : (ax_dt (ax_T 241)).lookup 456 = some (.lor, 1, 0, 0, 0) := by decide +kernel
theorem l241_457 : (ax_dt (ax_T 241)).lookup 457 = some (.aload_n 3, 1, 0, 0, 0) := by decide +kernel
theorem l241_458 : (ax_dt (ax_T 241)).lookup 458 = some (.invokestatic 113, 3, 225, 6, 0) := by decide +kernel
theorem l241_461 : (ax_dt (ax_T 241)).lookup 461 = some (.istore 5, 2, 0, 0, 0) := by decide +kernel
theorem l241_463 : (ax_dt (ax_T 241)).lookup 463 = some (.aload_n 2, 1, 0, 0, 0) := by decide +kernel
theorem l241_464 : (ax_dt (ax_T 241)).lookup 464 = some (.aload_n 0, 1, 0, 0, 0) := by decide +kernel
theorem l241_465 : (ax_dt (ax_T 241)).lookup 465 = some (.iload 4, 2, 0, 0, 0) := by decide +kernel
theorem l241_467 : (ax_dt (ax_T 241)).lookup 467 = some (.iconst 1, 1, 0, 0, 0) := by decide +kernel
theorem l241_468 : (ax_dt (ax_T 241)).lookup 468 = some (.iadd, 1, 0, 0, 0) := by decide +kernel
theorem l241_469 : (ax_dt (ax_T 241)).lookup 469 = some (.iaload, 1, 0, 0, 0) := by decide +kernel
theorem l241_470 : (ax_dt (ax_T 241)).lookup 470 = some (.aload_n 0, 1, 0, 0, 0) := by decide +kernel
theorem l241_471 : (ax_dt (ax_T 241)).lookup 471 = some (.iload 4, 2, 0, 0, 0) := by decide +kernel
theorem l241_473 : (ax_dt (ax_T 241)).lookup 473 = some (.iconst 2, 1, 0, 0, 0) := by decide +kernel
theorem l241_474 : (ax_dt (ax_T 241)).lookup 474 = some (.iadd, 1, 0, 0, 0) := by decide +kernel
theorem l241_475 : (ax_dt (ax_T 241)).lookup 475 = some (.iaload, 1, 0, 0, 0) := by decide +kernel
theorem l241_476 : (ax_dt (ax_T 241)).lookup 476 = some (.aload_n 0, 1, 0, 0, 0) := by decide +kernel
theorem l241_477 : (ax_dt (ax_T 241)).lookup 477 = some (.iload 4, 2, 0, 0, 0) := by decide +kernel
theorem l241_479 : (ax_dt (ax_T 241)).lookup 479 = some (.iconst 3, 1, 0, 0, 0) := by decide +kernel
theorem l241_480 : (ax_dt (ax_T 241)).lookup 480 = some (.iadd, 1, 0, 0, 0) := by decide +kernel
theorem l241_481 : (ax_dt (ax_T 241)).lookup 481 = some (.iaload, 1, 0, 0, 0) := by decide +kernel
theorem l241_482 : (ax_dt (ax_T 241)).lookup 482 = some (.aload_n 0, 1, 0, 0, 0) := by decide +kernel
theorem l241_483 : (ax_dt (ax_T 241)).lookup 483 = some (.iload 4, 2, 0, 0, 0) := by decide +kernel
theorem l241_485 : (ax_dt (ax_T 241)).lookup 485 = some (.iconst 4, 1, 0, 0, 0) := by decide +kernel
theorem l241_486 : (ax_dt (ax_T 241)).lookup 486 = some (.iadd, 1, 0, 0, 0) := by decide +kernel
theorem l241_487 : (ax_dt (ax_T 241)).lookup 487 = some (.iaload, 1, 0, 0, 0) := by decide +kernel
theorem l241_488 : (ax_dt (ax_T 241)).lookup 488 = some (.i2l, 1, 0, 0, 0) := by decide +kernel
theorem l241_489 : (ax_dt (ax_T 241)).lookup 489 = some (.bipush 32, 2, 0, 0, 0) := by decide +kernel
theorem l241_491 : (ax_dt (ax_T 241)).lookup 491 = some (.lshl, 1, 0, 0, 0) := by decide +kernel
theorem l241_492 : (ax_dt (ax_T 241)).lookup 492 = some (.aload_n 0, 1, 0, 0, 0) := by decide +kernel
theorem l241_493 : (ax_dt (ax_T 241)).lookup 493 = some (.iload 4, 2, 0, 0, 0) := by decide +kernel
theorem l241_495 : (ax_dt (ax_T 241)).lookup 495 = some (.iconst 5, 1, 0, 0, 0) := by decide +kernel
theorem l241_496 : (ax_dt (ax_T 241)).lookup 496 = some (.iadd, 1, 0, 0, 0) := by decide +kernel
theorem l241_497 : (ax_dt (ax_T 241)).lookup 497 = some (.iaload, 1, 0, 0, 0) := by decide +kernel
theorem l241_498 : (ax_dt (ax_T 241)).lookup 498 = some (.i2l, 1, 0, 0, 0) := by decide +kernel
theorem l241_499 : (ax_dt (ax_T 241)).lookup 499 = some (.ldc2_w 111, 3, 0, 0, 4294967295) := by decide +kernel
theorem l241_502 : (ax_dt (ax_T 241)).lookup 502 = some (.land, 1, 0, 0, 0) := by decide +kernel
theorem l241_503 : (ax_dt (ax_T 241)).lookup 503 = some (.lor, 1, 0, 0, 0) := by decide +kernel
theorem l241_504 : (ax_dt (ax_T 241)).lookup 504 = some (.invokevirtual 116, 3, 155, 4, 0) := by decide +kernel
theorem l241_507 : (ax_dt (ax_T 241)).lookup 507 = some (.istore 6, 2, 0, 0, 0) := by decide +kernel
theorem l241_509 : (ax_dt (ax_T 241)).lookup 509 = some (.aload_n 2, 1, 0, 0, 0) := by decide +kernel
theorem l241_510 : (ax_dt (ax_T 241)).lookup 510 = some (.invokevirtual 95, 3, 133, 0, 0) := by decide +kernel
theorem l241_513 : (ax_dt (ax_T 241)).lookup 513 = some (.iload 5, 2, 0, 0, 0) := by decide +kernel
theorem l241_515 : (ax_dt (ax_T 241)).lookup 515 = some (.if_icmp .eq 5, 3, 0, 0, 0) := by decide +kernel
theorem l241_518 : (ax_dt (ax_T 241)).lookup 518 = some (.iconst 0, 1, 0, 0, 0) := by decide +kernel
theorem l241_519 : (ax_dt (ax_T 241)).lookup 519 = some (.ireturn, 1, 0, 0, 0) := by decide +kernel
theorem l241_520 : (ax_dt (ax_T 241)).lookup 520 = some (.iload 5, 2, 0, 0, 0) := by decide +kernel
theorem l241_522 : (ax_dt (ax_T 241)).lookup 522 = some (.ifCond .ne 15, 3, 0, 0, 0) := by decide +kernel
theorem l241_525 : (ax_dt (ax_T 241)).lookup 525 = some (.aload_n 3, 1, 0, 0, 0) := by decide +kernel
theorem l241_526 : (ax_dt (ax_T 241)).lookup 526 = some (.iconst 0, 1, 0, 0, 0) := by decide +kernel
theorem l241_527 : (ax_dt (ax_T 241)).lookup 527 = some (.laload, 1, 0, 0, 0) := by decide +kernel
theorem l241_528 : (ax_dt (ax_T 241)).lookup 528 = some (.iload 6, 2, 0, 0, 0) := by decide +kernel
theorem l241_530 : (ax_dt (ax_T 241)).lookup 530 = some (.i2l, 1, 0, 0, 0) := by decide +kernel
theorem l241_531 : (ax_dt (ax_T 241)).lookup 531 = some (.lcmp, 1, 0, 0, 0) := by decide +kernel
theorem l241_532 : (ax_dt (ax_T 241)).lookup 532 = some (.ifCond .eq 5, 3, 0, 0, 0) := by decide +kernel
theorem l241_535 : (ax_dt (ax_T 241)).lookup 535 = some (.iconst 0, 1, 0, 0, 0) := by decide +kernel
theorem l241_536 : (ax_dt (ax_T 241)).lookup 536 = some (.ireturn, 1, 0, 0, 0) := by decide +kernel
theorem l241_537 : (ax_dt (ax_T 241)).lookup 537 = some (.goto 1118, 3, 0, 0, 0) := by decide +kernel
theorem l241_540 : (ax_dt (ax_T 241)).lookup 540 = some (.aload_n 1, 1, 0, 0, 0) := by decide +kernel
theorem l241_541 : (ax_dt (ax_T 241)).lookup 541 = some (.aload_n 0, 1, 0, 0, 0) := by decide +kernel
theorem l241_542 : (ax_dt (ax_T 241)).lookup 542 = some (.iload 4, 2, 0, 0, 0) := by decide +kernel
theorem l241_544 : (ax_dt (ax_T 241)).lookup 544 = some (.iconst 1, 1, 0, 0, 0) := by decide +kernel
theorem l241_545 : (ax_dt (ax_T 241)).lookup 545 = some (.iadd, 1, 0, 0, 0) := by decide +kernel
theorem l241_546 : (ax_dt (ax_T 241)).lookup 546 = some (.iaload, 1, 0, 0, 0) := by decide +kernel
theorem l241_547 : (ax_dt (ax_T 241)).lookup 547 = some (.aload_n 0, 1, 0, 0, 0) := by decide +kernel
theorem l241_548 : (ax_dt (ax_T 241)).lookup 548 = some (.iload 4, 2, 0, 0, 0) := by decide +kernel
theorem l241_550 : (ax_dt (ax_T 241)).lookup 550 = some (.iconst 2, 1, 0, 0, 0) := by decide +kernel
theorem l241_551 : (ax_dt (ax_T 241)).lookup 551 = some (.iadd, 1, 0, 0, 0) := by decide +kernel
theorem l241_552 : (ax_dt (ax_T 241)).lookup 552 = some (.iaload, 1, 0, 0, 0) := by decide +kernel
theorem l241_553 : (ax_dt (ax_T 241)).lookup 553 = some (.aload_n 0, 1, 0, 0, 0) := by decide +kernel
theorem l241_554 : (ax_dt (ax_T 241)).lookup 554 = some (.iload 4, 2, 0, 0, 0) := by decide +kernel
theorem l241_556 : (ax_dt (ax_T 241)).lookup 556 = some (.iconst 3, 1, 0, 0, 0) := by decide +kernel
theorem l241_557 : (ax_dt (ax_T 241)).lookup 557 = some (.iadd, 1, 0, 0, 0) := by decide +kernel
theorem l241_558 : (ax_dt (ax_T 241)).lookup 558 = some (.iaload, 1, 0, 0, 0) := by decide +kernel
theorem l241_559 : (ax_dt (ax_T 241)).lookup 559 = some (.aload_n 3, 1, 0, 0, 0) := by decide +kernel
theorem l241_560 : (ax_dt (ax_T 241)).lookup 560 = some (.invokestatic 117, 3, 226, 5, 0) := by decide +kernel
theorem l241_563 : (ax_dt (ax_T 241)).lookup 563 = some (.istore 5, 2, 0, 0, 0) := by decide +kernel
theorem l241_565 : (ax_dt (ax_T 241)).lookup 565 = some (.aload_n 2, 1, 0, 0, 0) := by decide +kernel
theorem l241_566 : (ax_dt (ax_T 241)).lookup 566 = some (.aload_n 0, 1, 0, 0, 0) := by decide +kernel
theorem l241_567 : (ax_dt (ax_T 241)).lookup 567 = some (.iload 4, 2, 0, 0, 0) := by decide +kernel
theorem l241_569 : (ax_dt (ax_T 241)).lookup 569 = some (.iconst 1, 1, 0, 0, 0) := by decide +kernel
theorem l241_570 : (ax_dt (ax_T 241)).lookup 570 = some (.iadd, 1, 0, 0, 0) := by decide +kernel
theorem l241_571 : (ax_dt (ax_T 241)).lookup 571 = some (.iaload, 1, 0, 0, 0) := by decide +kernel
theorem l241_572 : (ax_dt (ax_T 241)).lookup 572 = some (.aload_n 0, 1, 0, 0, 0) := by decide +kernel
theorem l241_573 : (ax_dt (ax_T 241)).lookup 573 = some (.iload 4, 2, 0, 0, 0) := by decide +kernel
theorem l241_575 : (ax_dt (ax_T 241)).lookup 575 = some (.iconst 2, 1, 0, 0, 0) := by decide +kernel
theorem l241_576 : (ax_dt (ax_T 241)).lookup 576 = some (.iadd, 1, 0, 0, 0) := by decide +kernel
theorem l241_577 : (ax_dt (ax_T 241)).lookup 577 = some (.iaload, 1, 0, 0, 0) := by decide +kernel
theorem l241_578 : (ax_dt (ax_T 241)).lookup 578 = some (.aload_n 0, 1, 0, 0, 0) := by decide +kernel
theorem l241_579 : (ax_dt (ax_T 241)).lookup 579 = some (.iload 4, 2, 0, 0, 0) := by decide +kernel
theorem l241_581 : (ax_dt (ax_T 241)).lookup 581 = some (.iconst 3, 1, 0, 0, 0) := by decide +kernel
theorem l241_582 : (ax_dt (ax_T 241)).lookup 582 = some (.iadd, 1, 0, 0, 0) := by decide +kernel
theorem l241_583 : (ax_dt (ax_T 241)).lookup 583 = some (.iaload, 1, 0, 0, 0) := by decide +kernel
theorem l241_584 : (ax_dt (ax_T 241)).lookup 584 = some (.invokevirtual 120, 3, 157, 3, 0) := by decide +kernel
theorem l241_587 : (ax_dt (ax_T 241)).lookup 587 = some (.istore 6, 2, 0, 0, 0) := by decide +kernel
theorem l241_589 : (ax_dt (ax_T 241)).lookup 589 = some (.aload_n 2, 1, 0, 0, 0) := by decide +kernel
theorem l241_590 : (ax_dt (ax_T 241)).lookup 590 = some (.invokevirtual 95, 3, 133, 0, 0) := by decide +kernel
theorem l241_593 : (ax_dt (ax_T 241)).lookup 593 = some (.iload 5, 2, 0, 0, 0) := by decide +kernel
theorem l241_595 : (ax_dt (ax_T 241)).lookup 595 = some (.if_icmp .eq 5, 3, 0, 0, 0) := by decide +kernel
theorem l241_598 : (ax_dt (ax_T 241)).lookup 598 = some (.iconst 0, 1, 0, 0, 0) := by decide +kernel
theorem l241_599 : (ax_dt (ax_T 241)).lookup 599 = some (.ireturn, 1, 0, 0, 0) := by decide +kernel
theorem l241_600 : (ax_dt (ax_T 241)).lookup 600 = some (.iload 5, 2, 0, 0, 0) := by decide +kernel
theorem l241_602 : (ax_dt (ax_T 241)).lookup 602 = some (.ifCond .ne 15, 3, 0, 0, 0) := by decide +kernel
theorem l241_605 : (ax_dt (ax_T 241)).lookup 605 = some (.aload_n 3, 1, 0, 0, 0) := by decide +kernel
theorem l241_606 : (ax_dt (ax_T 241)).lookup 606 = some (.iconst 0, 1, 0, 0, 0) := by decide +kernel
theorem l241_607 : (ax_dt (ax_T 241)).lookup 607 = some (.laload, 1, 0, 0, 0) := by decide +kernel
theorem l241_608 : (ax_dt (ax_T 241)).lookup 608 = some (.iload 6, 2, 0, 0, 0) := by decide +kernel
theorem l241_610 : (ax_dt (ax_T 241)).lookup 610 = some (.i2l, 1, 0, 0, 0) := by decide +kernel
theorem l241_611 : (ax_dt (ax_T 241)).lookup 611 = some (.lcmp, 1, 0, 0, 0) := by decide +kernel
theorem l241_612 : (ax_dt (ax_T 241)).lookup 612 = some (.ifCond .eq 5, 3, 0, 0, 0) := by decide +kernel
theorem l241_615 : (ax_dt (ax_T 241)).lookup 615 = some (.iconst 0, 1, 0, 0, 0) := by decide +kernel
theorem l241_616 : (ax_dt (ax_T 241)).lookup 616 = some (.ireturn, 1, 0, 0, 0) := by decide +kernel
theorem l241_617 : (ax_dt (ax_T 241)).lookup 617 = some (.goto 1038, 3, 0, 0, 0) := by decide +kernel
theorem l241_620 : (ax_dt (ax_T 241)).lookup 620 = some (.aload_n 1, 1, 0, 0, 0) := by decide +kernel
theorem l241_621 : (ax_dt (ax_T 241)).lookup 621 = some (.aload_n 0, 1, 0, 0, 0) := by decide +kernel
theorem l241_622 : (ax_dt (ax_T 241)).lookup 622 = some (.iload 4, 2, 0, 0, 0) := by decide +kernel
theorem l241_624 : (ax_dt (ax_T 241)).lookup 624 = some (.iconst 1, 1, 0, 0, 0) := by decide +kernel
theorem l241_625 : (ax_dt (ax_T 241)).lookup 625 = some (.iadd, 1, 0, 0, 0) := by decide +kernel
theorem l241_626 : (ax_dt (ax_T 241)).lookup 626 = some (.iaload, 1, 0, 0, 0) := by decide +kernel
theorem l241_627 : (ax_dt (ax_T 241)).lookup 627 = some (.aload_n 0, 1, 0, 0, 0) := by decide +kernel
theorem l241_628 : (ax_dt (ax_T 241)).lookup 628 = some (.iload 4, 2, 0, 0, 0) := by decide +kernel
theorem l241_630 : (ax_dt (ax_T 241)).lookup 630 = some (.iconst 2, 1, 0, 0, 0) := by decide +kernel
theorem l241_631 : (ax_dt (ax_T 241)).lookup 631 = some (.iadd, 1, 0, 0, 0) := by decide +kernel
theorem l241_632 : (ax_dt (ax_T 241)).lookup 632 = some (.iaload, 1, 0, 0, 0) := by decide +kernel
theorem l241_633 : (ax_dt (ax_T 241)).lookup 633 = some (.aload_n 0, 1, 0, 0, 0) := by decide +kernel
theorem l241_634 : (ax_dt (ax_T 241)).lookup 634 = some (.iload 4, 2, 0, 0, 0) := by decide +kernel
theorem l241_636 : (ax_dt (ax_T 241)).lookup 636 = some (.iconst 3, 1, 0, 0, 0) := by decide +kernel
theorem l241_637 : (ax_dt (ax_T 241)).lookup 637 = some (.iadd, 1, 0, 0, 0) := by decide +kernel
theorem l241_638 : (ax_dt (ax_T 241)).lookup 638 = some (.iaload, 1, 0, 0, 0) := by decide +kernel
theorem l241_639 : (ax_dt (ax_T 241)).lookup 639 = some (.aload_n 0, 1, 0, 0, 0) := by decide +kernel
theorem l241_640 : (ax_dt (ax_T 241)).lookup 640 = some (.iload 4, 2, 0, 0, 0) := by decide +kernel
theorem l241_642 : (ax_dt (ax_T 241)).lookup 642 = some (.iconst 4, 1, 0, 0, 0) := by decide +kernel
theorem l241_643 : (ax_dt (ax_T 241)).lookup 643 = some (.iadd, 1, 0, 0, 0) := by decide +kernel
theorem l241_644 : (ax_dt (ax_T 241)).lookup 644 = some (.iaload, 1, 0, 0, 0) := by decide +kernel
theorem l241_645 : (ax_dt (ax_T 241)).lookup 645 = some (.aload_n 3, 1, 0, 0, 0) := by decide +kernel
theorem l241_646 : (ax_dt (ax_T 241)).lookup 646 = some (.invokestatic 121, 3, 227, 6, 0) := by decide +kernel
theorem l241_649 : (ax_dt (ax_T 241)).lookup 649 = some (.istore 5, 2, 0, 0, 0) := by decide +kernel
theorem l241_651 : (ax_dt (ax_T 241)).lookup 651 = some (.aload_n 2, 1, 0, 0, 0) := by decide +kernel
theorem l241_652 : (ax_dt (ax_T 241)).lookup 652 = some (.aload_n 0, 1, 0, 0, 0) := by decide +kernel
theorem l241_653 : (ax_dt (ax_T 241)).lookup 653 = some (.iload 4, 2, 0, 0, 0) := by decide +kernel
theorem l241_655 : (ax_dt (ax_T 241)).lookup 655 = some (.iconst 1, 1, 0, 0, 0) := by decide +kernel
theorem l241_656 : (ax_dt (ax_T 241)).lookup 656 = some (.iadd, 1, 0, 0, 0) := by decide +kernel
theorem l241_657 : (ax_dt (ax_T 241)).lookup 657 = some (.iaload, 1, 0, 0, 0) := by decide +kernel
theorem l241_658 : (ax_dt (ax_T 241)).lookup 658 = some (.aload_n 0, 1, 0, 0, 0) := by decide +kernel
theorem l241_659 : (ax_dt (ax_T 241)).lookup 659 = some (.iload 4, 2, 0, 0, 0) := by decide +kernel
theorem l241_661 : (ax_dt (ax_T 241)).lookup 661 = some (.iconst 2, 1, 0, 0, 0) := by decide +kernel
theorem l241_662 : (ax_dt (ax_T 241)).lookup 662 = some (.iadd, 1, 0, 0, 0) := by decide +kernel
theorem l241_663 : (ax_dt (ax_T 241)).lookup 663 = some (.iaload, 1, 0, 0, 0) := by decide +kernel
theorem l241_664 : (ax_dt (ax_T 241)).lookup 664 = some (.aload_n 0, 1, 0, 0, 0) := by decide +kernel
theorem l241_665 : (ax_dt (ax_T 241)).lookup 665 = some (.iload 4, 2, 0, 0, 0) := by decide +kernel
theorem l241_667 : (ax_dt (ax_T 241)).lookup 667 = some (.iconst 3, 1, 0, 0, 0) := by decide +kernel
theorem l241_668 : (ax_dt (ax_T 241)).lookup 668 = some (.iadd, 1, 0, 0, 0) := by decide +kernel
theorem l241_669 : (ax_dt (ax_T 241)).lookup 669 = some (.iaload, 1, 0, 0, 0) := by decide +kernel
theorem l241_670 : (ax_dt (ax_T 241)).lookup 670 = some (.aload_n 0, 1, 0, 0, 0) := by decide +kernel
theorem l241_671 : (ax_dt (ax_T 241)).lookup 671 = some (.iload 4, 2, 0, 0, 0) := by decide +kernel
theorem l241_673 : (ax_dt (ax_T 241)).lookup 673 = some (.iconst 4, 1, 0, 0, 0) := by decide +kernel
theorem l241_674 : (ax_dt (ax_T 241)).lookup 674 = some (.iadd, 1, 0, 0, 0) := by decide +kernel
theorem l241_675 : (ax_dt (ax_T 241)).lookup 675 = some (.iaload, 1, 0, 0, 0) := by decide +kernel
theorem l241_676 : (ax_dt (ax_T 241)).lookup 676 = some (.invokevirtual 124, 3, 158, 4, 0) := by decide +kernel
theorem l241_679 : (ax_dt (ax_T 241)).lookup 679 = some (.istore 6, 2, 0, 0, 0) := by decide +kernel
theorem l241_681 : (ax_dt (ax_T 241)).lookup 681 = some (.aload_n 2, 1, 0, 0, 0) := by decide +kernel
theorem l241_682 : (ax_dt (ax_T 241)).lookup 682 = some (.invokevirtual 95, 3, 133, 0, 0) := by decide +kernel
theorem l241_685 : (ax_dt (ax_T 241)).lookup 685 = some (.iload 5, 2, 0, 0, 0) := by decide +kernel
theorem l241_687 : (ax_dt (ax_T 241)).lookup 687 = some (.if_icmp .eq 5, 3, 0, 0, 0) := by decide +kernel
theorem l241_690 : (ax_dt (ax_T 241)).lookup 690 = some (.iconst 0, 1, 0, 0, 0) := by decide +kernel
theorem l241_691 : (ax_dt (ax_T 241)).lookup 691 = some (.ireturn, 1, 0, 0, 0) := by decide +kernel
theorem l241_692 : (ax_dt (ax_T 241)).lookup 692 = some (.iload 5, 2, 0, 0, 0) := by decide +kernel
theorem l241_694 : (ax_dt (ax_T 241)).lookup 694 = some (.ifCond .ne 15, 3, 0, 0, 0) := by decide +kernel
theorem l241_697 : (ax_dt (ax_T 241)).lookup 697 = some (.aload_n 3, 1, 0, 0, 0) := by decide +kernel
theorem l241_698 : (ax_dt (ax_T 241)).lookup 698 = some (.iconst 0, 1, 0, 0, 0) := by decide +kernel
theorem l241_699 : (ax_dt (ax_T 241)).lookup 699 = some (.laload, 1, 0, 0, 0) := by decide +kernel
theorem l241_700 : (ax_dt (ax_T 241)).lookup 700 = some (.iload 6, 2, 0, 0, 0) := by decide +kernel
theorem l241_702 : (ax_dt (ax_T 241)).lookup 702 = some (.i2l, 1, 0, 0, 0) := by decide +kernel
theorem l241_703 : (ax_dt (ax_T 241)).lookup 703 = some (.lcmp, 1, 0, 0, 0) := by decide +kernel
theorem l241_704 : (ax_dt (ax_T 241)).lookup 704 = some (.ifCond .eq 5, 3, 0, 0, 0) := by decide +kernel
theorem l241_707 : (ax_dt (ax_T 241)).lookup 707 = some (.iconst 0, 1, 0, 0, 0) := by decide +kernel
theorem l241_708 : (ax_dt (ax_T 241)).lookup 708 = some (.ireturn, 1, 0, 0, 0) := by decide +kernel
theorem l241_709 : (ax_dt (ax_T 241)).lookup 709 = some (.goto 946, 3, 0, 0, 0) := by decide +kernel
theorem l241_712 : (ax_dt (ax_T 241)).lookup 712 = some (.aload_n 1, 1, 0, 0, 0) := by decide +kernel
theorem l241_713 : (ax_dt (ax_T 241)).lookup 713 = some (.invokevirtual 125, 3, 100, 0, 0) := by decide +kernel
theorem l241_716 : (ax_dt (ax_T 241)).lookup 716 = some (.aload_n 2, 1, 0, 0, 0) := by decide +kernel
theorem l241_717 : (ax_dt (ax_T 241)).lookup 717 = some (.invokevirtual 128, 3, 159, 0, 0) := by decide +kernel
theorem l241_720 : (ax_dt (ax_T 241)).lookup 720 = some (.if_icmp .eq 935, 3, 0, 0, 0) := by decide +kernel
theorem l241_723 : (ax_dt (ax_T 241)).lookup 723 = some (.iconst 0, 1, 0, 0, 0) := by decide +kernel
theorem l241_724 : (ax_dt (ax_T 241)).lookup 724 = some (.ireturn, 1, 0, 0, 0) := by decide +kernel
theorem l241_725 : (ax_dt (ax_T 241)).lookup 725 = some (.aload_n 1, 1, 0, 0, 0) := by decide +kernel
theorem l241_726 : (ax_dt (ax_T 241)).lookup 726 = some (.invokevirtual 129, 3, 101, 0, 0) := by decide +kernel
theorem l241_729 : (ax_dt (ax_T 241)).lookup 729 = some (.aload_n 2, 1, 0, 0, 0) := by decide +kernel
theorem l241_730 : (ax_dt (ax_T 241)).lookup 730 = some (.invokevirtual 132, 3, 180, 0, 0) := by decide +kernel
theorem l241_733 : (ax_dt (ax_T 241)).lookup 733 = some (.if_icmp .eq 922, 3, 0, 0, 0) := by decide +kernel
theorem l241_736 : (ax_dt (ax_T 241)).lookup 736 = some (.iconst 0, 1, 0, 0, 0) := by decide +kernel
theorem l241_737 : (ax_dt (ax_T 241)).lookup 737 = some (.ireturn, 1, 0, 0, 0) := by decide +kernel
theorem l241_738 : (ax_dt (ax_T 241)).lookup 738 = some (.aload_n 1, 1, 0, 0, 0) := by decide +kernel
theorem l241_739 : (ax_dt (ax_T 241)).lookup 739 = some (.aload_n 0, 1, 0, 0, 0) := by decide +kernel
theorem l241_740 : (ax_dt (ax_T 241)).lookup 740 = some (.iload 4, 2, 0, 0, 0) := by decide +kernel
theorem l241_742 : (ax_dt (ax_T 241)).lookup 742 = some (.iconst 1, 1, 0, 0, 0) := by decide +kernel
theorem l241_743 : (ax_dt (ax_T 241)).lookup 743 = some (.iadd, 1, 0, 0, 0) := by decide +kernel
theorem l241_744 : (ax_dt (ax_T 241)).lookup 744 = some (.iaload, 1, 0, 0, 0) := by decide +kernel
theorem l241_745 : (ax_dt (ax_T 241)).lookup 745 = some (.aload_n 3, 1, 0, 0, 0) := by decide +kernel
theorem l241_746 : (ax_dt (ax_T 241)).lookup 746 = some (.invokestatic 133, 3, 228, 3, 0) := by decide +kernel
theorem l241_749 : (ax_dt (ax_T 241)).lookup 749 = some (.istore 5, 2, 0, 0, 0) := by decide +kernel
theorem l241_751 : (ax_dt (ax_T 241)).lookup 751 = some (.aload_n 2, 1, 0, 0, 0) := by decide +kernel
theorem l241_752 : (ax_dt (ax_T 241)).lookup 752 = some (.aload_n 0, 1, 0, 0, 0) := by decide +kernel
theorem l241_753 : (ax_dt (ax_T 241)).lookup 753 = some (.iload 4, 2, 0, 0, 0) := by decide +kernel
theorem l241_755 : (ax_dt (ax_T 241)).lookup 755 = some (.iconst 1, 1, 0, 0, 0) := by decide +kernel
theorem l241_756 : (ax_dt (ax_T 241)).lookup 756 = some (.iadd, 1, 0, 0, 0) := by decide +kernel
theorem l241_757 : (ax_dt (ax_T 241)).lookup 757 = some (.iaload, 1, 0, 0, 0) := by decide +kernel
theorem l241_758 : (ax_dt (ax_T 241)).lookup 758 = some (.invokevirtual 135, 3, 182, 1, 0) := by decide +kernel
theorem l241_761 : (ax_dt (ax_T 241)).lookup 761 = some (.istore 6, 2, 0, 0, 0) := by decide +kernel
theorem l241_763 : (ax_dt (ax_T 241)).lookup 763 = some (.aload_n 2, 1, 0, 0, 0) := by decide +kernel
theorem l241_764 : (ax_dt (ax_T 241)).lookup 764 = some (.invokevirtual 95, 3, 133, 0, 0) := by decide +kernel
theorem l241_767 : (ax_dt (ax_T 241)).lookup 767 = some (.iload 5, 2, 0, 0, 0) := by decide +kernel
theorem l241_769 : (ax_dt (ax_T 241)).lookup 769 = some (.if_icmp .eq 5, 3, 0, 0, 0) := by decide +kernel
theorem l241_772 : (ax_dt (ax_T 241)).lookup 772 = some (.iconst 0, 1, 0, 0, 0) := by decide +kernel
theorem l241_773 : (ax_dt (ax_T 241)).lookup 773 = some (.ireturn, 1, 0, 0, 0) := by decide +kernel
theorem l241_774 : (ax_dt (ax_T 241)).lookup 774 = some (.iload 5, 2, 0, 0, 0) := by decide +kernel
theorem l241_776 : (ax_dt (ax_T 241)).lookup 776 = some (.ifCond .ne 15, 3, 0, 0, 0) := by decide +kernel
theorem l241_779 : (ax_dt (ax_T 241)).lookup 779 = some (.aload_n 3, 1, 0, 0, 0) := by decide +kernel
theorem l241_780 : (ax_dt (ax_T 241)).lookup 780 = some (.iconst 0, 1, 0, 0, 0) := by decide +kernel
theorem l241_781 : (ax_dt (ax_T 241)).lookup 781 = some (.laload, 1, 0, 0, 0) := by decide +kernel
theorem l241_782 : (ax_dt (ax_T 241)).lookup 782 = some (.iload 6, 2, 0, 0, 0) := by decide +kernel
theorem l241_784 : (ax_dt (ax_T 241)).lookup 784 = some (.i2l, 1, 0, 0, 0) := by decide +kernel
theorem l241_785 : (ax_dt (ax_T 241)).lookup 785 = some (.lcmp, 1, 0, 0, 0) := by decide +kernel
theorem l241_786 : (ax_dt (ax_T 241)).lookup 786 = some (.ifCond .eq 5, 3, 0, 0, 0) := by decide +kernel
theorem l241_789 : (ax_dt (ax_T 241)).lookup 789 = some (.iconst 0, 1, 0, 0, 0) := by decide +kernel
theorem l241_790 : (ax_dt (ax_T 241)).lookup 790 = some (.ireturn, 1, 0, 0, 0) := by decide +kernel
theorem l241_791 : (ax_dt (ax_T 241)).lookup 791 = some (.goto 864, 3, 0, 0, 0) := by decide +kernel
theorem l241_794 : (ax_dt (ax_T 241)).lookup 794 = some (.aload_n 1, 1, 0, 0, 0) := by decide +kernel
theorem l241_795 : (ax_dt (ax_T 241)).lookup 795 = some (.aload_n 0, 1, 0, 0, 0) := by decide +kernel
theorem l241_796 : (ax_dt (ax_T 241)).lookup 796 = some (.iload 4, 2, 0, 0, 0) := by decide +kernel
theorem l241_798 : (ax_dt (ax_T 241)).lookup 798 = some (.iconst 1, 1, 0, 0, 0) := by decide +kernel
theorem l241_799 : (ax_dt (ax_T 241)).lookup 799 = some (.iadd, 1, 0, 0, 0) := by decide +kernel
theorem l241_800 : (ax_dt (ax_T 241)).lookup 800 = some (.iaload, 1, 0, 0, 0) := by decide +kernel
theorem l241_801 : (ax_dt (ax_T 241)).lookup 801 = some (.aload_n 0, 1, 0, 0, 0) := by decide +kernel
theorem l241_802 : (ax_dt (ax_T 241)).lookup 802 = some (.iload 4, 2, 0, 0, 0) := by decide +kernel
theorem l241_804 : (ax_dt (ax_T 241)).lookup 804 = some (.iconst 2, 1, 0, 0, 0) := by decide +kernel
theorem l241_805 : (ax_dt (ax_T 241)).lookup 805 = some (.iadd, 1, 0, 0, 0) := by decide +kernel
theorem l241_806 : (ax_dt (ax_T 241)).lookup 806 = some (.iaload, 1, 0, 0, 0) := by decide +kernel
theorem l241_807 : (ax_dt (ax_T 241)).lookup 807 = some (.aload_n 3, 1, 0, 0, 0) := by decide +kernel
theorem l241_808 : (ax_dt (ax_T 241)).lookup 808 = some (.invokestatic 136, 3, 229, 4, 0) := by decide +kernel
theorem l241_811 : (ax_dt (ax_T 241)).lookup 811 = some (.istore 5, 2, 0, 0, 0) := by decide +kernel
theorem l241_813 : (ax_dt (ax_T 241)).lookup 813 = some (.aload_n 2, 1, 0, 0, 0) := by decide +kernel
theorem l241_814 : (ax_dt (ax_T 241)).lookup 814 = some (.aload_n 0, 1, 0, 0, 0) := by decide +kernel
theorem l241_815 : (ax_dt (ax_T 241)).lookup 815 = some (.iload 4, 2, 0, 0, 0) := by decide +kernel
theorem l241_817 : (ax_dt (ax_T 241)).lookup 817 = some (.iconst 1, 1, 0, 0, 0) := by decide +kernel
theorem l241_818 : (ax_dt (ax_T 241)).lookup 818 = some (.iadd, 1, 0, 0, 0) := by decide +kernel
theorem l241_819 : (ax_dt (ax_T 241)).lookup 819 = some (.iaload, 1, 0, 0, 0) := by decide +kernel
theorem l241_820 : (ax_dt (ax_T 241)).lookup 820 = some (.aload_n 0, 1, 0, 0, 0) := by decide +kernel
theorem l241_821 : (ax_dt (ax_T 241)).lookup 821 = some (.iload 4, 2, 0, 0, 0) := by decide +kernel
theorem l241_823 : (ax_dt (ax_T 241)).lookup 823 = some (.iconst 2, 1, 0, 0, 0) := by decide +kernel
theorem l241_824 : (ax_dt (ax_T 241)).lookup 824 = some (.iadd, 1, 0, 0, 0) := by decide +kernel
theorem l241_825 : (ax_dt (ax_T 241)).lookup 825 = some (.iaload, 1, 0, 0, 0) := by decide +kernel
theorem l241_826 : (ax_dt (ax_T 241)).lookup 826 = some (.invokevirtual 138, 3, 184, 2, 0) := by decide +kernel
theorem l241_829 : (ax_dt (ax_T 241)).lookup 829 = some (.istore 6, 2, 0, 0, 0) := by decide +kernel
theorem l241_831 : (ax_dt (ax_T 241)).lookup 831 = some (.aload_n 2, 1, 0, 0, 0) := by decide +kernel
theorem l241_832 : (ax_dt (ax_T 241)).lookup 832 = some (.invokevirtual 95, 3, 133, 0, 0) := by decide +kernel
theorem l241_835 : (ax_dt (ax_T 241)).lookup 835 = some (.iload 5, 2, 0, 0, 0) := by decide +kernel
theorem l241_837 : (ax_dt (ax_T 241)).lookup 837 = some (.if_icmp .eq 5, 3, 0, 0, 0) := by decide +kernel
theorem l241_840 : (ax_dt (ax_T 241)).lookup 840 = some (.iconst 0, 1, 0, 0, 0) := by decide +kernel
theorem l241_841 : (ax_dt (ax_T 241)).lookup 841 = some (.ireturn, 1, 0, 0, 0) := by decide +kernel
theorem l241_842 : (ax_dt (ax_T 241)).lookup 842 = some (.iload 5, 2, 0, 0, 0) := by decide +kernel
theorem l241_844 : (ax_dt (ax_T 241)).lookup 844 = some (.ifCond .ne 15, 3, 0, 0, 0) := by decide +kernel
theorem l241_847 : (ax_dt (ax_T 241)).lookup 847 = some (.aload_n 3, 1, 0, 0, 0) := by decide +kernel
theorem l241_848 : (ax_dt (ax_T 241)).lookup 848 = some (.iconst 0, 1, 0, 0, 0) := by decide +kernel
theorem l241_849 : (ax_dt (ax_T 241)).lookup 849 = some (.laload, 1, 0, 0, 0) := by decide +kernel
theorem l241_850 : (ax_dt (ax_T 241)).lookup 850 = some (.iload 6, 2, 0, 0, 0) := by decide +kernel
theorem l241_852 : (ax_dt (ax_T 241)).lookup 852 = some (.i2l, 1, 0, 0, 0) := by decide +kernel
theorem l241_853 : (ax_dt (ax_T 241)).lookup 853 = some (.lcmp, 1, 0, 0, 0) := by decide +kernel
theorem l241_854 : (ax_dt (ax_T 241)).lookup 854 = some (.ifCond .eq 5, 3, 0, 0, 0) := by decide +kernel
theorem l241_857 : (ax_dt (ax_T 241)).lookup 857 = some (.iconst 0, 1, 0, 0, 0) := by decide +kernel
theorem l241_858 : (ax_dt (ax_T 241)).lookup 858 = some (.ireturn, 1, 0, 0, 0) := by decide +kernel
theorem l241_859 : (ax_dt (ax_T 241)).lookup 859 = some (.goto 796, 3, 0, 0, 0) := by decide +kernel
theorem l241_862 : (ax_dt (ax_T 241)).lookup 862 = some (.aload_n 1, 1, 0, 0, 0) := by decide +kernel
theorem l241_863 : (ax_dt (ax_T 241)).lookup 863 = some (.aload_n 0, 1, 0, 0, 0) := by decide +kernel
theorem l241_864 : (ax_dt (ax_T 241)).lookup 864 = some (.iload 4, 2, 0, 0, 0) := by decide +kernel
theorem l241_866 : (ax_dt (ax_T 241)).lookup 866 = some (.iconst 1, 1, 0, 0, 0) := by decide +kernel
theorem l241_867 : (ax_dt (ax_T 241)).lookup 867 = some (.iadd, 1, 0, 0, 0) := by decide +kernel
theorem l241_868 : (ax_dt (ax_T 241)).lookup 868 = some (.iaload, 1, 0, 0, 0) := by decide +kernel
theorem l241_869 : (ax_dt (ax_T 241)).lookup 869 = some (.aload_n 3, 1, 0, 0, 0) := by decide +kernel
theorem l241_870 : (ax_dt (ax_T 241)).lookup 870 = some (.invokestatic 139, 3, 230, 3, 0) := by decide +kernel
theorem l241_873 : (ax_dt (ax_T 241)).lookup 873 = some (.istore 5, 2, 0, 0, 0) := by decide +kernel
theorem l241_875 : (ax_dt (ax_T 241)).lookup 875 = some (.aload_n 2, 1, 0, 0, 0) := by decide +kernel
theorem l241_876 : (ax_dt (ax_T 241)).lookup 876 = some (.aload_n 0, 1, 0, 0, 0) := by decide +kernel
theorem l241_877 : (ax_dt (ax_T 241)).lookup 877 = some (.iload 4, 2, 0, 0, 0) := by decide +kernel
theorem l241_879 : (ax_dt (ax_T 241)).lookup 879 = some (.iconst 1, 1, 0, 0, 0) := by decide +kernel
theorem l241_880 : (ax_dt (ax_T 241)).lookup 880 = some (.iadd, 1, 0, 0, 0) := by decide +kernel
theorem l241_881 : (ax_dt (ax_T 241)).lookup 881 = some (.iaload, 1, 0, 0, 0) := by decide +kernel
theorem l241_882 : (ax_dt (ax_T 241)).lookup 882 = some (.invokevirtual 141, 3, 185, 1, 0) := by decide +kernel
theorem l241_885 : (ax_dt (ax_T 241)).lookup 885 = some (.istore 6, 2, 0, 0, 0) := by decide +kernel
theorem l241_887 : (ax_dt (ax_T 241)).lookup 887 = some (.aload_n 2, 1, 0, 0, 0) := by decide +kernel
theorem l241_888 : (ax_dt (ax_T 241)).lookup 888 = some (.invokevirtual 95, 3, 133, 0, 0) := by decide +kernel
theorem l241_891 : (ax_dt (ax_T 241)).lookup 891 = some (.iload 5, 2, 0, 0, 0) := by decide +kernel
theorem l241_893 : (ax_dt (ax_T 241)).lookup 893 = some (.if_icmp .eq 5, 3, 0, 0, 0) := by decide +kernel
theorem l241_896 : (ax_dt (ax_T 241)).lookup 896 = some (.iconst 0, 1, 0, 0, 0) := by decide +kernel
theorem l241_897 : (ax_dt (ax_T 241)).lookup 897 = some (.ireturn, 1, 0, 0, 0) := by decide +kernel
theorem l241_898 : (ax_dt (ax_T 241)).lookup 898 = some (.iload 5, 2, 0, 0, 0) := by decide +kernel
theorem l241_900 : (ax_dt (ax_T 241)).lookup 900 = some (.ifCond .ne 15, 3, 0, 0, 0) := by decide +kernel
theorem l241_903 : (ax_dt (ax_T 241)).lookup 903 = some (.aload_n 3, 1, 0, 0, 0) := by decide +kernel
theorem l241_904 : (ax_dt (ax_T 241)).lookup 904 = some (.iconst 0, 1, 0, 0, 0) := by decide +kernel
theorem l241_905 : (ax_dt (ax_T 241)).lookup 905 = some (.laload, 1, 0, 0, 0) := by decide +kernel
theorem l241_906 : (ax_dt (ax_T 241)).lookup 906 = some (.iload 6, 2, 0, 0, 0) := by decide +kernel
theorem l241_908 : (ax_dt (ax_T 241)).lookup 908 = some (.i2l, 1, 0, 0, 0) := by decide +kernel
theorem l241_909 : (ax_dt (ax_T 241)).lookup 909 = some (.lcmp, 1, 0, 0, 0) := by decide +kernel
theorem l241_910 : (ax_dt (ax_T 241)).lookup 910 = some (.ifCond .eq 5, 3, 0, 0, 0) := by decide +kernel
theorem l241_913 : (ax_dt (ax_T 241)).lookup 913 = some (.iconst 0, 1, 0, 0, 0) := by decide +kernel
theorem l241_914 : (ax_dt (ax_T 241)).lookup 914 = some (.ireturn, 1, 0, 0, 0) := by decide +kernel
theorem l241_915 : (ax_dt (ax_T 241)).lookup 915 = some (.goto 740, 3, 0, 0, 0) := by decide +kernel
theorem l241_918 : (ax_dt (ax_T 241)).lookup 918 = some (.aload_n 1, 1, 0, 0, 0) := by decide +kernel
theorem l241_919 : (ax_dt (ax_T 241)).lookup 919 = some (.aload_n 0, 1, 0, 0, 0) := by decide +kernel
theorem l241_920 : (ax_dt (ax_T 241)).lookup 920 = some (.iload 4, 2, 0, 0, 0) := by decide +kernel
theorem l241_922 : (ax_dt (ax_T 241)).lookup 922 = some (.iconst 1, 1, 0, 0, 0) := by decide +kernel
theorem l241_923 : (ax_dt (ax_T 241)).lookup 923 = some (.iadd, 1, 0, 0, 0) := by decide +kernel
theorem l241_924 : (ax_dt (ax_T 241)).lookup 924 = some (.iaload, 1, 0, 0, 0) := by decide +kernel
theorem l241_925 : (ax_dt (ax_T 241)).lookup 925 = some (.aload_n 0, 1, 0, 0, 0) := by decide +kernel
theorem l241_926 : (ax_dt (ax_T 241)).lookup 926 = some (.iload 4, 2, 0, 0, 0) := by decide +kernel
theorem l241_928 : (ax_dt (ax_T 241)).lookup 928 = some (.iconst 2, 1, 0, 0, 0) := by decide +kernel
theorem l241_929 : (ax_dt (ax_T 241)).lookup 929 = some (.iadd, 1, 0, 0, 0) := by decide +kernel
theorem l241_930 : (ax_dt (ax_T 241)).lookup 930 = some (.iaload, 1, 0, 0, 0) := by decide +kernel
theorem l241_931 : (ax_dt (ax_T 241)).lookup 931 = some (.aload_n 0, 1, 0, 0, 0) := by decide +kernel
theorem l241_932 : (ax_dt (ax_T 241)).lookup 932 = some (.iload 4, 2, 0, 0, 0) := by decide +kernel
theorem l241_934 : (ax_dt (ax_T 241)).lookup 934 = some (.iconst 3, 1, 0, 0, 0) := by decide +kernel
theorem l241_935 : (ax_dt (ax_T 241)).lookup 935 = some (.iadd, 1, 0, 0, 0) := by decide +kernel
theorem l241_936 : (ax_dt (ax_T 241)).lookup 936 = some (.iaload, 1, 0, 0, 0) := by decide +kernel
theorem l241_937 : (ax_dt (ax_T 241)).lookup 937 = some (.aload_n 3, 1, 0, 0, 0) := by decide +kernel
theorem l241_938 : (ax_dt (ax_T 241)).lookup 938 = some (.invokestatic 142, 3, 231, 5, 0) := by decide +kernel
theorem l241_941 : (ax_dt (ax_T 241)).lookup 941 = some (.istore 5, 2, 0, 0, 0) := by decide +kernel
theorem l241_943 : (ax_dt (ax_T 241)).lookup 943 = some (.aload_n 2, 1, 0, 0, 0) := by decide +kernel
theorem l241_944 : (ax_dt (ax_T 241)).lookup 944 = some (.aload_n 0, 1, 0, 0, 0) := by decide +kernel
theorem l241_945 : (ax_dt (ax_T 241)).lookup 945 = some (.iload 4, 2, 0, 0, 0) := by decide +kernel
theorem l241_947 : (ax_dt (ax_T 241)).lookup 947 = some (.iconst 1, 1, 0, 0, 0) := by decide +kernel
theorem l241_948 : (ax_dt (ax_T 241)).lookup 948 = some (.iadd, 1, 0, 0, 0) := by decide +kernel
theorem l241_949 : (ax_dt (ax_T 241)).lookup 949 = some (.iaload, 1, 0, 0, 0) := by decide +kernel
theorem l241_950 : (ax_dt (ax_T 241)).lookup 950 = some (.aload_n 0, 1, 0, 0, 0) := by decide +kernel
theorem l241_951 : (ax_dt (ax_T 241)).lookup 951 = some (.iload 4, 2, 0, 0, 0) := by decide +kernel
theorem l241_953 : (ax_dt (ax_T 241)).lookup 953 = some (.iconst 2, 1, 0, 0, 0) := by decide +kernel
theorem l241_954 : (ax_dt (ax_T 241)).lookup 954 = some (.iadd, 1, 0, 0, 0) := by decide +kernel
theorem l241_955 : (ax_dt (ax_T 241)).lookup 955 = some (.iaload, 1, 0, 0, 0) := by decide +kernel
theorem l241_956 : (ax_dt (ax_T 241)).lookup 956 = some (.aload_n 0, 1, 0, 0, 0) := by decide +kernel
theorem l241_957 : (ax_dt (ax_T 241)).lookup 957 = some (.iload 4, 2, 0, 0, 0) := by decide +kernel
theorem l241_959 : (ax_dt (ax_T 241)).lookup 959 = some (.iconst 3, 1, 0, 0, 0) := by decide +kernel
theorem l241_960 : (ax_dt (ax_T 241)).lookup 960 = some (.iadd, 1, 0, 0, 0) := by decide +kernel
theorem l241_961 : (ax_dt (ax_T 241)).lookup 961 = some (.iaload, 1, 0, 0, 0) := by decide +kernel
theorem l241_962 : (ax_dt (ax_T 241)).lookup 962 = some (.invokevirtual 144, 3, 186, 3, 0) := by decide +kernel
theorem l241_965 : (ax_dt (ax_T 241)).lookup 965 = some (.istore 6, 2, 0, 0, 0) := by decide +kernel
theorem l241_967 : (ax_dt (ax_T 241)).lookup 967 = some (.aload_n 2, 1, 0, 0, 0) := by decide +kernel
theorem l241_968 : (ax_dt (ax_T 241)).lookup 968 = some (.invokevirtual 95, 3, 133, 0, 0) := by decide +kernel
theorem l241_971 : (ax_dt (ax_T 241)).lookup 971 = some (.iload 5, 2, 0, 0, 0) := by decide +kernel
theorem l241_973 : (ax_dt (ax_T 241)).lookup 973 = some (.if_icmp .eq 5, 3, 0, 0, 0) := by decide +kernel
theorem l241_976 : (ax_dt (ax_T 241)).lookup 976 = some (.iconst 0, 1, 0, 0, 0) := by decide +kernel
theorem l241_977 : (ax_dt (ax_T 241)).lookup 977 = some (.ireturn, 1, 0, 0, 0) := by decide +kernel
theorem l241_978 : (ax_dt (ax_T 241)).lookup 978 = some (.iload 5, 2, 0, 0, 0) := by decide +kernel
theorem l241_980 : (ax_dt (ax_T 241)).lookup 980 = some (.ifCond .ne 15, 3, 0, 0, 0) := by decide +kernel
theorem l241_983 : (ax_dt (ax_T 241)).lookup 983 = some (.aload_n 3, 1, 0, 0, 0) := by decide +kernel
theorem l241_984 : (ax_dt (ax_T 241)).lookup 984 = some (.iconst 0, 1, 0, 0, 0) := by decide +kernel
theorem l241_985 : (ax_dt (ax_T 241)).lookup 985 = some (.laload, 1, 0, 0, 0) := by decide +kernel
theorem l241_986 : (ax_dt (ax_T 241)).lookup 986 = some (.iload 6, 2, 0, 0, 0) := by decide +kernel
theorem l241_988 : (ax_dt (ax_T 241)).lookup 988 = some (.i2l, 1, 0, 0, 0) := by decide +kernel
theorem l241_989 : (ax_dt (ax_T 241)).lookup 989 = some (.lcmp, 1, 0, 0, 0) := by decide +kernel
theorem l241_990 : (ax_dt (ax_T 241)).lookup 990 = some (.ifCond .eq 5, 3, 0, 0, 0) := by decide +kernel
theorem l241_993 : (ax_dt (ax_T 241)).lookup 993 = some (.iconst 0, 1, 0, 0, 0) := by decide +kernel
theorem l241_994 : (ax_dt (ax_T 241)).lookup 994 = some (.ireturn, 1, 0, 0, 0) := by decide +kernel
theorem l241_995 : (ax_dt (ax_T 241)).lookup 995 = some (.goto 660, 3, 0, 0, 0) := by decide +kernel
theorem l241_998 : (ax_dt (ax_T 241)).lookup 998 = some (.aload_n 1, 1, 0, 0, 0) := by decide +kernel
theorem l241_999 : (ax_dt (ax_T 241)).lookup 999 = some (.invokevirtual 145, 3, 106, 0, 0) := by decide +kernel
theorem l241_1002 : (ax_dt (ax_T 241)).lookup 1002 = some (.aload_n 2, 1, 0, 0, 0) := by decide +kernel
theorem l241_1003 : (ax_dt (ax_T 241)).lookup 1003 = some (.invokevirtual 148, 3, 205, 0, 0) := by decide +kernel
theorem l241_1006 : (ax_dt (ax_T 241)).lookup 1006 = some (.if_icmp .eq 649, 3, 0, 0, 0) := by decide +kernel
theorem l241_1009 : (ax_dt (ax_T 241)).lookup 1009 = some (.iconst 0, 1, 0, 0, 0) := by decide +kernel
theorem l241_1010 : (ax_dt (ax_T 241)).lookup 1010 = some (.ireturn, 1, 0, 0, 0) := by decide +kernel
theorem l241_1011 : (ax_dt (ax_T 241)).lookup 1011 = some (.aload_n 1, 1, 0, 0, 0) := by decide +kernel
theorem l241_1012 : (ax_dt (ax_T 241)).lookup 1012 = some (.aload_n 0, 1, 0, 0, 0) := by decide +kernel
theorem l241_1013 : (ax_dt (ax_T 241)).lookup 1013 = some (.iload 4, 2, 0, 0, 0) := by decide +kernel
theorem l241_1015 : (ax_dt (ax_T 241)).lookup 1015 = some (.iconst 1, 1, 0, 0, 0) := by decide +kernel
theorem l241_1016 : (ax_dt (ax_T 241)).lookup 1016 = some (.iadd, 1, 0, 0, 0) := by decide +kernel
theorem l241_1017 : (ax_dt (ax_T 241)).lookup 1017 = some (.iaload, 1, 0, 0, 0) := by decide +kernel
theorem l241_1018 : (ax_dt (ax_T 241)).lookup 1018 = some (.aload_n 3, 1, 0, 0, 0) := by decide +kernel
theorem l241_1019 : (ax_dt (ax_T 241)).lookup 1019 = some (.invokestatic 149, 3, 232, 3, 0) := by decide +kernel
theorem l241_1022 : (ax_dt (ax_T 241)).lookup 1022 = some (.istore 5, 2, 0, 0, 0) := by decide +kernel
theorem l241_1024 : (ax_dt (ax_T 241)).lookup 1024 = some (.aload_n 2, 1, 0, 0, 0) := by decide +kernel
theorem l241_1025 : (ax_dt (ax_T 241)).lookup 1025 = some (.aload_n 0, 1, 0, 0, 0) := by decide +kernel
theorem l241_1026 : (ax_dt (ax_T 241)).lookup 1026 = some (.iload 4, 2, 0, 0, 0) := by decide +kernel
theorem l241_1028 : (ax_dt (ax_T 241)).lookup 1028 = some (.iconst 1, 1, 0, 0, 0) := by decide +kernel
theorem l241_1029 : (ax_dt (ax_T 241)).lookup 1029 = some (.iadd, 1, 0, 0, 0) := by decide +kernel
theorem l241_1030 : (ax_dt (ax_T 241)).lookup 1030 = some (.iaload, 1, 0, 0, 0) := by decide +kernel
theorem l241_1031 : (ax_dt (ax_T 241)).lookup 1031 = some (.invokevirtual 151, 3, 206, 1, 0) := by decide +kernel
theorem l241_1034 : (ax_dt (ax_T 241)).lookup 1034 = some (.istore 6, 2, 0, 0, 0) := by decide +kernel
theorem l241_1036 : (ax_dt (ax_T 241)).lookup 1036 = some (.aload_n 2, 1, 0, 0, 0) := by decide +kernel
theorem l241_1037 : (ax_dt (ax_T 241)).lookup 1037 = some (.invokevirtual 95, 3, 133, 0, 0) := by decide +kernel
theorem l241_1040 : (ax_dt (ax_T 241)).lookup 1040 = some (.iload 5, 2, 0, 0, 0) := by decide +kernel
theorem l241_1042 : (ax_dt (ax_T 241)).lookup 1042 = some (.if_icmp .eq 5, 3, 0, 0, 0) := by decide +kernel
theorem l241_1045 : (ax_dt (ax_T 241)).lookup 1045 = some (.iconst 0, 1, 0, 0, 0) := by decide +kernel
theorem l241_1046 : (ax_dt (ax_T 241)).lookup 1046 = some (.ireturn, 1, 0, 0, 0) := by decide +kernel
theorem l241_1047 : (ax_dt (ax_T 241)).lookup 1047 = some (.iload 5, 2, 0, 0, 0) := by decide +kernel
theorem l241_1049 : (ax_dt (ax_T 241)).lookup 1049 = some (.ifCond .ne 15, 3, 0, 0, 0) := by decide +kernel
theorem l241_1052 : (ax_dt (ax_T 241)).lookup 1052 = some (.aload_n 3, 1, 0, 0, 0) := by decide +kernel
theorem l241_1053 : (ax_dt (ax_T 241)).lookup 1053 = some (.iconst 0, 1, 0, 0, 0) := by decide +kernel
theorem l241_1054 : (ax_dt (ax_T 241)).lookup 1054 = some (.laload, 1, 0, 0, 0) := by decide +kernel
theorem l241_1055 : (ax_dt (ax_T 241)).lookup 1055 = some (.iload 6, 2, 0, 0, 0) := by decide +kernel
theorem l241_1057 : (ax_dt (ax_T 241)).lookup 1057 = some (.i2l, 1, 0, 0, 0) := by decide +kernel
theorem l241_1058 : (ax_dt (ax_T 241)).lookup 1058 = some (.lcmp, 1, 0, 0, 0) := by decide +kernel
theorem l241_1059 : (ax_dt (ax_T 241)).lookup 1059 = some (.ifCond .eq 5, 3, 0, 0, 0) := by decide +kernel
theorem l241_1062 : (ax_dt (ax_T 241)).lookup 1062 = some (.iconst 0, 1, 0, 0, 0) := by decide +kernel
theorem l241_1063 : (ax_dt (ax_T 241)).lookup 1063 = some (.ireturn, 1, 0, 0, 0) := by decide +kernel
theorem l241_1064 : (ax_dt (ax_T 241)).lookup 1064 = some (.goto 591, 3, 0, 0, 0) := by decide +kernel
theorem l241_1067 : (ax_dt (ax_T 241)).lookup 1067 = some (.aload_n 1, 1, 0, 0, 0) := by decide +kernel
theorem l241_1068 : (ax_dt (ax_T 241)).lookup 1068 = some (.aload_n 0, 1, 0, 0, 0) := by decide +kernel
theorem l241_1069 : (ax_dt (ax_T 241)).lookup 1069 = some (.iload 4, 2, 0, 0, 0) := by decide +kernel
theorem l241_1071 : (ax_dt (ax_T 241)).lookup 1071 = some (.iconst 1, 1, 0, 0, 0) := by decide +kernel
theorem l241_1072 : (ax_dt (ax_T 241)).lookup 1072 = some (.iadd, 1, 0, 0, 0) := by decide +kernel
theorem l241_1073 : (ax_dt (ax_T 241)).lookup 1073 = some (.iaload, 1, 0, 0, 0) := by decide +kernel
theorem l241_1074 : (ax_dt (ax_T 241)).lookup 1074 = some (.aload_n 3, 1, 0, 0, 0) := by decide +kernel
theorem l241_1075 : (ax_dt (ax_T 241)).lookup 1075 = some (.invokestatic 152, 3, 233, 3, 0) := by decide +kernel
theorem l241_1078 : (ax_dt (ax_T 241)).lookup 1078 = some (.istore 5, 2, 0, 0, 0) := by decide +kernel
theorem l241_1080 : (ax_dt (ax_T 241)).lookup 1080 = some (.aload_n 2, 1, 0, 0, 0) := by decide +kernel
theorem l241_1081 : (ax_dt (ax_T 241)).lookup 1081 = some (.aload_n 0, 1, 0, 0, 0) := by decide +kernel
theorem l241_1082 : (ax_dt (ax_T 241)).lookup 1082 = some (.iload 4, 2, 0, 0, 0) := by decide +kernel
theorem l241_1084 : (ax_dt (ax_T 241)).lookup 1084 = some (.iconst 1, 1, 0, 0, 0) := by decide +kernel
theorem l241_1085 : (ax_dt (ax_T 241)).lookup 1085 = some (.iadd, 1, 0, 0, 0) := by decide +kernel
theorem l241_1086 : (ax_dt (ax_T 241)).lookup 1086 = some (.iaload, 1, 0, 0, 0) := by decide +kernel
theorem l241_1087 : (ax_dt (ax_T 241)).lookup 1087 = some (.invokevirtual 154, 3, 207, 1, 0) := by decide +kernel
theorem l241_1090 : (ax_dt (ax_T 241)).lookup 1090 = some (.istore 6, 2, 0, 0, 0) := by decide +kernel
theorem l241_1092 : (ax_dt (ax_T 241)).lookup 1092 = some (.aload_n 2, 1, 0, 0, 0) := by decide +kernel
theorem l241_1093 : (ax_dt (ax_T 241)).lookup 1093 = some (.invokevirtual 95, 3, 133, 0, 0) := by decide +kernel
theorem l241_1096 : (ax_dt (ax_T 241)).lookup 1096 = some (.iload 5, 2, 0, 0, 0) := by decide +kernel
theorem l241_1098 : (ax_dt (ax_T 241)).lookup 1098 = some (.if_icmp .eq 5, 3, 0, 0, 0) := by decide +kernel
theorem l241_1101 : (ax_dt (ax_T 241)).lookup 1101 = some (.iconst 0, 1, 0, 0, 0) := by decide +kernel
theorem l241_1102 : (ax_dt (ax_T 241)).lookup 1102 = some (.ireturn, 1, 0, 0, 0) := by decide +kernel
theorem l241_1103 : (ax_dt (ax_T 241)).lookup 1103 = some (.iload 5, 2, 0, 0, 0) := by decide +kernel
theorem l241_1105 : (ax_dt (ax_T 241)).lookup 1105 = some (.ifCond .ne 15, 3, 0, 0, 0) := by decide +kernel
theorem l241_1108 : (ax_dt (ax_T 241)).lookup 1108 = some (.aload_n 3, 1, 0, 0, 0) := by decide +kernel
theorem l241_1109 : (ax_dt (ax_T 241)).lookup 1109 = some (.iconst 0, 1, 0, 0, 0) := by decide +kernel
theorem l241_1110 : (ax_dt (ax_T 241)).lookup 1110 = some (.laload, 1, 0, 0, 0) := by decide +kernel
theorem l241_1111 : (ax_dt (ax_T 241)).lookup 1111 = some (.iload 6, 2, 0, 0, 0) := by decide +kernel
theorem l241_1113 : (ax_dt (ax_T 241)).lookup 1113 = some (.i2l, 1, 0, 0, 0) := by decide +kernel
theorem l241_1114 : (ax_dt (ax_T 241)).lookup 1114 = some (.lcmp, 1, 0, 0, 0) := by decide +kernel
theorem l241_1115 : (ax_dt (ax_T 241)).lookup 1115 = some (.ifCond .eq 5, 3, 0, 0, 0) := by decide +kernel
theorem l241_1118 : (ax_dt (ax_T 241)).lookup 1118 = some (.iconst 0, 1, 0, 0, 0) := by decide +kernel
theorem l241_1119 : (ax_dt (ax_T 241)).lookup 1119 = some (.ireturn, 1, 0, 0, 0) := by decide +kernel
theorem l241_1120 : (ax_dt (ax_T 241)).lookup 1120 = some (.goto 535, 3, 0, 0, 0) := by decide +kernel
theorem l241_1123 : (ax_dt (ax_T 241)).lookup 1123 = some (.aload_n 1, 1, 0, 0, 0) := by decide +kernel
theorem l241_1124 : (ax_dt (ax_T 241)).lookup 1124 = some (.aload_n 0, 1, 0, 0, 0) := by decide +kernel
theorem l241_1125 : (ax_dt (ax_T 241)).lookup 1125 = some (.iload 4, 2, 0, 0, 0) := by decide +kernel
theorem l241_1127 : (ax_dt (ax_T 241)).lookup 1127 = some (.iconst 1, 1, 0, 0, 0) := by decide +kernel
theorem l241_1128 : (ax_dt (ax_T 241)).lookup 1128 = some (.iadd, 1, 0, 0, 0) := by decide +kernel
theorem l241_1129 : (ax_dt (ax_T 241)).lookup 1129 = some (.iaload, 1, 0, 0, 0) := by decide +kernel
theorem l241_1130 : (ax_dt (ax_T 241)).lookup 1130 = some (.aload_n 0, 1, 0, 0, 0) := by decide +kernel
theorem l241_1131 : (ax_dt (ax_T 241)).lookup 1131 = some (.iload 4, 2, 0, 0, 0) := by decide +kernel
theorem l241_1133 : (ax_dt (ax_T 241)).lookup 1133 = some (.iconst 2, 1, 0, 0, 0) := by decide +kernel
theorem l241_1134 : (ax_dt (ax_T 241)).lookup 1134 = some (.iadd, 1, 0, 0, 0) := by decide +kernel
theorem l241_1135 : (ax_dt (ax_T 241)).lookup 1135 = some (.iaload, 1, 0, 0, 0) := by decide +kernel
theorem l241_1136 : (ax_dt (ax_T 241)).lookup 1136 = some (.aload_n 3, 1, 0, 0, 0) := by decide +kernel
theorem l241_1137 : (ax_dt (ax_T 241)).lookup 1137 = some (.invokestatic 155, 3, 234, 4, 0) := by decide +kernel
theorem l241_1140 : (ax_dt (ax_T 241)).lookup 1140 = some (.istore 5, 2, 0, 0, 0) := by decide +kernel
theorem l241_1142 : (ax_dt (ax_T 241)).lookup 1142 = some (.aload_n 2, 1, 0, 0, 0) := by decide +kernel
theorem l241_1143 : (ax_dt (ax_T 241)).lookup 1143 = some (.aload_n 0, 1, 0, 0, 0) := by decide +kernel
theorem l241_1144 : (ax_dt (ax_T 241)).lookup 1144 = some (.iload 4, 2, 0, 0, 0) := by decide +kernel
theorem l241_1146 : (ax_dt (ax_T 241)).lookup 1146 = some (.iconst 1, 1, 0, 0, 0) := by decide +kernel
theorem l241_1147 : (ax_dt (ax_T 241)).lookup 1147 = some (.iadd, 1, 0, 0, 0) := by decide +kernel
theorem l241_1148 : (ax_dt (ax_T 241)).lookup 1148 = some (.iaload, 1, 0, 0, 0) := by decide +kernel
theorem l241_1149 : (ax_dt (ax_T 241)).lookup 1149 = some (.aload_n 0, 1, 0, 0, 0) := by decide +kernel
theorem l241_1150 : (ax_dt (ax_T 241)).lookup 1150 = some (.iload 4, 2, 0, 0, 0) := by decide +kernel
theorem l241_1152 : (ax_dt (ax_T 241)).lookup 1152 = some (.iconst 2, 1, 0, 0, 0) := by decide +kernel
theorem l241_1153 : (ax_dt (ax_T 241)).lookup 1153 = some (.iadd, 1, 0, 0, 0) := by decide +kernel
theorem l241_1154 : (ax_dt (ax_T 241)).lookup 1154 = some (.iaload, 1, 0, 0, 0) := by decide +kernel
theorem l241_1155 : (ax_dt (ax_T 241)).lookup 1155 = some (.invokevirtual 157, 3, 208, 2, 0) := by decide +kernel
theorem l241_1158 : (ax_dt (ax_T 241)).lookup 1158 = some (.istore 6, 2, 0, 0, 0) := by decide +kernel
theorem l241_1160 : (ax_dt (ax_T 241)).lookup 1160 = some (.aload_n 2, 1, 0, 0, 0) := by decide +kernel
theorem l241_1161 : (ax_dt (ax_T 241)).lookup 1161 = some (.invokevirtual 95, 3, 133, 0, 0) := by decide +kernel
theorem l241_1164 : (ax_dt (ax_T 241)).lookup 1164 = some (.iload 5, 2, 0, 0, 0) := by decide +kernel
theorem l241_1166 : (ax_dt (ax_T 241)).lookup 1166 = some (.if_icmp .eq 5, 3, 0, 0, 0) := by decide +kernel
theorem l241_1169 : (ax_dt (ax_T 241)).lookup 1169 = some (.iconst 0, 1, 0, 0, 0) := by decide +kernel
theorem l241_1170 : (ax_dt (ax_T 241)).lookup 1170 = some (.ireturn, 1, 0, 0, 0) := by decide +kernel
theorem l241_1171 : (ax_dt (ax_T 241)).lookup 1171 = some (.iload 5, 2, 0, 0, 0) := by decide +kernel
theorem l241_1173 : (ax_dt (ax_T 241)).lookup 1173 = some (.ifCond .ne 15, 3, 0, 0, 0) := by decide +kernel
theorem l241_1176 : (ax_dt (ax_T 241)).lookup 1176 = some (.aload_n 3, 1, 0, 0, 0) := by decide +kernel
theorem l241_1177 : (ax_dt (ax_T 241)).lookup 1177 = some (.iconst 0, 1, 0, 0, 0) := by decide +kernel
theorem l241_1178 : (ax_dt (ax_T 241)).lookup 1178 = some (.laload, 1, 0, 0, 0) := by decide +kernel
theorem l241_1179 : (ax_dt (ax_T 241)).lookup 1179 = some (.iload 6, 2, 0, 0, 0) := by decide +kernel
theorem l241_1181 : (ax_dt (ax_T 241)).lookup 1181 = some (.i2l, 1, 0, 0, 0) := by decide +kernel
theorem l241_1182 : (ax_dt (ax_T 241)).lookup 1182 = some (.lcmp, 1, 0, 0, 0) := by decide +kernel
theorem l241_1183 : (ax_dt (ax_T 241)).lookup 1183 = some (.ifCond .eq 5, 3, 0, 0, 0) := by decide +kernel
theorem l241_1186 : (ax_dt (ax_T 241)).lookup 1186 = some (.iconst 0, 1, 0, 0, 0) := by decide +kernel
theorem l241_1187 : (ax_dt (ax_T 241)).lookup 1187 = some (.ireturn, 1, 0, 0, 0) := by decide +kernel
theorem l241_1188 : (ax_dt (ax_T 241)).lookup 1188 = some (.goto 467, 3, 0, 0, 0) := by decide +kernel
theorem l241_1191 : (ax_dt (ax_T 241)).lookup 1191 = some (.aload_n 1, 1, 0, 0, 0) := by decide +kernel
theorem l241_1192 : (ax_dt (ax_T 241)).lookup 1192 = some (.aload_n 0, 1, 0, 0, 0) := by decide +kernel
theorem l241_1193 : (ax_dt (ax_T 241)).lookup 1193 = some (.iload 4, 2, 0, 0, 0) := by decide +kernel
theorem l241_1195 : (ax_dt (ax_T 241)).lookup 1195 = some (.iconst 1, 1, 0, 0, 0) := by decide +kernel
theorem l241_1196 : (ax_dt (ax_T 241)).lookup 1196 = some (.iadd, 1, 0, 0, 0) := by decide +kernel
theorem l241_1197 : (ax_dt (ax_T 241)).lookup 1197 = some (.iaload, 1, 0, 0, 0) := by decide +kernel
theorem l241_1198 : (ax_dt (ax_T 241)).lookup 1198 = some (.aload_n 0, 1, 0, 0, 0) := by decide +kernel
theorem l241_1199 : (ax_dt (ax_T 241)).lookup 1199 = some (.iload 4, 2, 0, 0, 0) := by decide +kernel
theorem l241_1201 : (ax_dt (ax_T 241)).lookup 1201 = some (.iconst 2, 1, 0, 0, 0) := by decide +kernel
theorem l241_1202 : (ax_dt (ax_T 241)).lookup 1202 = some (.iadd, 1, 0, 0, 0) := by decide +kernel
theorem l241_1203 : (ax_dt (ax_T 241)).lookup 1203 = some (.iaload, 1, 0, 0, 0) := by decide +kernel
theorem l241_1204 : (ax_dt (ax_T 241)).lookup 1204 = some (.aload_n 3, 1, 0, 0, 0) := by decide +kernel
theorem l241_1205 : (ax_dt (ax_T 241)).lookup 1205 = some (.invokestatic 158, 3, 235, 4, 0) := by decide +kernel
theorem l241_1208 : (ax_dt (ax_T 241)).lookup 1208 = some (.istore 5, 2, 0, 0, 0) := by decide +kernel
theorem l241_1210 : (ax_dt (ax_T 241)).lookup 1210 = some (.aload_n 2, 1, 0, 0, 0) := by decide +kernel
theorem l241_1211 : (ax_dt (ax_T 241)).lookup 1211 = some (.aload_n 0, 1, 0, 0, 0) := by decide +kernel
theorem l241_1212 : (ax_dt (ax_T 241)).lookup 1212 = some (.iload 4, 2, 0, 0, 0) := by decide +kernel
theorem l241_1214 : (ax_dt (ax_T 241)).lookup 1214 = some (.iconst 1, 1, 0, 0, 0) := by decide +kernel
theorem l241_1215 : (ax_dt (ax_T 241)).lookup 1215 = some (.iadd, 1, 0, 0, 0) := by decide +kernel
theorem l241_1216 : (ax_dt (ax_T 241)).lookup 1216 = some (.iaload, 1, 0, 0, 0) := by decide +kernel
theorem l241_1217 : (ax_dt (ax_T 241)).lookup 1217 = some (.aload_n 0, 1, 0, 0, 0) := by decide +kernel
theorem l241_1218 : (ax_dt (ax_T 241)).lookup 1218 = some (.iload 4, 2, 0, 0, 0) := by decide +kernel
theorem l241_1220 : (ax_dt (ax_T 241)).lookup 1220 = some (.iconst 2, 1, 0, 0, 0) := by decide +kernel
theorem l241_1221 : (ax_dt (ax_T 241)).lookup 1221 = some (.iadd, 1, 0, 0, 0) := by decide +kernel
theorem l241_1222 : (ax_dt (ax_T 241)).lookup 1222 = some (.iaload, 1, 0, 0, 0) := by decide +kernel
theorem l241_1223 : (ax_dt (ax_T 241)).lookup 1223 = some (.invokevirtual 160, 3, 209, 2, 0) := by decide +kernel
theorem l241_1226 : (ax_dt (ax_T 241)).lookup 1226 = some (.istore 6, 2, 0, 0, 0) := by decide +kernel
theorem l241_1228 : (ax_dt (ax_T 241)).lookup 1228 = some (.aload_n 2, 1, 0, 0, 0) := by decide +kernel
theorem l241_1229 : (ax_dt (ax_T 241)).lookup 1229 = some (.invokevirtual 95, 3, 133, 0, 0) := by decide +kernel
theorem l241_1232 : (ax_dt (ax_T 241)).lookup 1232 = some (.iload 5, 2, 0, 0, 0) := by decide +kernel
theorem l241_1234 : (ax_dt (ax_T 241)).lookup 1234 = some (.if_icmp .eq 5, 3, 0, 0, 0) := by decide +kernel
theorem l241_1237 : (ax_dt (ax_T 241)).lookup 1237 = some (.iconst 0, 1, 0, 0, 0) := by decide +kernel
theorem l241_1238 : (ax_dt (ax_T 241)).lookup 1238 = some (.ireturn, 1, 0, 0, 0) := by decide +kernel
theorem l241_1239 : (ax_dt (ax_T 241)).lookup 1239 = some (.iload 5, 2, 0, 0, 0) := by decide +kernel
theorem l241_1241 : (ax_dt (ax_T 241)).lookup 1241 = some (.ifCond .ne 15, 3, 0, 0, 0) := by decide +kernel
theorem l241_1244 : (ax_dt (ax_T 241)).lookup 1244 = some (.aload_n 3, 1, 0, 0, 0) := by decide +kernel
theorem l241_1245 : (ax_dt (ax_T 241)).lookup 1245 = some (.iconst 0, 1, 0, 0, 0) := by decide +kernel
theorem l241_1246 : (ax_dt (ax_T 241)).lookup 1246 = some (.laload, 1, 0, 0, 0) := by decide +kernel
theorem l241_1247 : (ax_dt (ax_T 241)).lookup 1247 = some (.iload 6, 2, 0, 0, 0) := by decide +kernel
theorem l241_1249 : (ax_dt (ax_T 241)).lookup 1249 = some (.i2l, 1, 0, 0, 0) := by decide +kernel
theorem l241_1250 : (ax_dt (ax_T 241)).lookup 1250 = some (.lcmp, 1, 0, 0, 0) := by decide +kernel
theorem l241_1251 : (ax_dt (ax_T 241)).lookup 1251 = some (.ifCond .eq 5, 3, 0, 0, 0) := by decide +kernel
theorem l241_1254 : (ax_dt (ax_T 241)).lookup 1254 = some (.iconst 0, 1, 0, 0, 0) := by decide +kernel
theorem l241_1255 : (ax_dt (ax_T 241)).lookup 1255 = some (.ireturn, 1, 0, 0, 0) := by decide +kernel
theorem l241_1256 : (ax_dt (ax_T 241)).lookup 1256 = some (.goto 399, 3, 0, 0, 0) := by decide +kernel
theorem l241_1259 : (ax_dt (ax_T 241)).lookup 1259 = some (.aload_n 1, 1, 0, 0, 0) := by decide +kernel
theorem l241_1260 : (ax_dt (ax_T 241)).lookup 1260 = some (.aload_n 0, 1, 0, 0, 0) := by decide +kernel
theorem l241_1261 : (ax_dt (ax_T 241)).lookup 1261 = some (.iload 4, 2, 0, 0, 0) := by decide +kernel
theorem l241_1263 : (ax_dt (ax_T 241)).lookup 1263 = some (.iconst 1, 1, 0, 0, 0) := by decide +kernel
theorem l241_1264 : (ax_dt (ax_T 241)).lookup 1264 = some (.iadd, 1, 0, 0, 0) := by decide +kernel
theorem l241_1265 : (ax_dt (ax_T 241)).lookup 1265 = some (.iaload, 1, 0, 0, 0) := by decide +kernel
theorem l241_1266 : (ax_dt (ax_T 241)).lookup 1266 = some (.aload_n 3, 1, 0, 0, 0) := by decide +kernel
theorem l241_1267 : (ax_dt (ax_T 241)).lookup 1267 = some (.invokestatic 161, 3, 236, 3, 0) := by decide +kernel
theorem l241_1270 : (ax_dt (ax_T 241)).lookup 1270 = some (.istore 5, 2, 0, 0, 0) := by decide +kernel
theorem l241_1272 : (ax_dt (ax_T 241)).lookup 1272 = some (.aload_n 2, 1, 0, 0, 0) := by decide +kernel
theorem l241_1273 : (ax_dt (ax_T 241)).lookup 1273 = some (.aload_n 0, 1, 0, 0, 0) := by decide +kernel
theorem l241_1274 : (ax_dt (ax_T 241)).lookup 1274 = some (.iload 4, 2, 0, 0, 0) := by decide +kernel
theorem l241_1276 : (ax_dt (ax_T 241)).lookup 1276 = some (.iconst 1, 1, 0, 0, 0) := by decide +kernel
theorem l241_1277 : (ax_dt (ax_T 241)).lookup 1277 = some (.iadd, 1, 0, 0, 0) := by decide +kernel
theorem l241_1278 : (ax_dt (ax_T 241)).lookup 1278 = some (.iaload, 1, 0, 0, 0) := by decide +kernel
theorem l241_1279 : (ax_dt (ax_T 241)).lookup 1279 = some (.invokevirtual 163, 3, 210, 1, 0) := by decide +kernel
theorem l241_1282 : (ax_dt (ax_T 241)).lookup 1282 = some (.istore 6, 2, 0, 0, 0) := by decide +kernel
theorem l241_1284 : (ax_dt (ax_T 241)).lookup 1284 = some (.aload_n 2, 1, 0, 0, 0) := by decide +kernel
theorem l241_1285 : (ax_dt (ax_T 241)).lookup 1285 = some (.invokevirtual 95, 3, 133, 0, 0) := by decide +kernel
theorem l241_1288 : (ax_dt (ax_T 241)).lookup 1288 = some (.iload 5, 2, 0, 0, 0) := by decide +kernel
theorem l241_1290 : (ax_dt (ax_T 241)).lookup 1290 = some (.if_icmp .eq 5, 3, 0, 0, 0) := by decide +kernel
theorem l241_1293 : (ax_dt (ax_T 241)).lookup 1293 = some (.iconst 0, 1, 0, 0, 0) := by decide +kernel
theorem l241_1294 : (ax_dt (ax_T 241)).lookup 1294 = some (.ireturn, 1, 0, 0, 0) := by decide +kernel
theorem l241_1295 : (ax_dt (ax_T 241)).lookup 1295 = some (.iload 5, 2, 0, 0, 0) := by decide +kernel
theorem l241_1297 : (ax_dt (ax_T 241)).lookup 1297 = some (.ifCond .ne 15, 3, 0, 0, 0) := by decide +kernel
theorem l241_1300 : (ax_dt (ax_T 241)).lookup 1300 = some (.aload_n 3, 1, 0, 0, 0) := by decide +kernel
theorem l241_1301 : (ax_dt (ax_T 241)).lookup 1301 = some (.iconst 0, 1, 0, 0, 0) := by decide +kernel
theorem l241_1302 : (ax_dt (ax_T 241)).lookup 1302 = some (.laload, 1, 0, 0, 0) := by decide +kernel
theorem l241_1303 : (ax_dt (ax_T 241)).lookup 1303 = some (.iload 6, 2, 0, 0, 0) := by decide +kernel
theorem l241_1305 : (ax_dt (ax_T 241)).lookup 1305 = some (.i2l, 1, 0, 0, 0) := by decide +kernel
theorem l241_1306 : (ax_dt (ax_T 241)).lookup 1306 = some (.lcmp, 1, 0, 0, 0) := by decide +kernel
theorem l241_1307 : (ax_dt (ax_T 241)).lookup 1307 = some (.ifCond .eq 5, 3, 0, 0, 0) := by decide +kernel
theorem l241_1310 : (ax_dt (ax_T 241)).lookup 1310 = some (.iconst 0, 1, 0, 0, 0) := by decide +kernel
theorem l241_1311 : (ax_dt (ax_T 241)).lookup 1311 = some (.ireturn, 1, 0, 0, 0) := by decide +kernel
theorem l241_1312 : (ax_dt (ax_T 241)).lookup 1312 = some (.goto 343, 3, 0, 0, 0) := by decide +kernel
theorem l241_1315 : (ax_dt (ax_T 241)).lookup 1315 = some (.aload_n 1, 1, 0, 0, 0) := by decide +kernel
theorem l241_1316 : (ax_dt (ax_T 241)).lookup 1316 = some (.aload_n 0, 1, 0, 0, 0) := by decide +kernel
theorem l241_1317 : (ax_dt (ax_T 241)).lookup 1317 = some (.iload 4, 2, 0, 0, 0) := by decide +kernel
theorem l241_1319 : (ax_dt (ax_T 241)).lookup 1319 = some (.iconst 1, 1, 0, 0, 0) := by decide +kernel
theorem l241_1320 : (ax_dt (ax_T 241)).lookup 1320 = some (.iadd, 1, 0, 0, 0) := by decide +kernel
theorem l241_1321 : (ax_dt (ax_T 241)).lookup 1321 = some (.iaload, 1, 0, 0, 0) := by decide +kernel
theorem l241_1322 : (ax_dt (ax_T 241)).lookup 1322 = some (.aload_n 0, 1, 0, 0, 0) := by decide +kernel
theorem l241_1323 : (ax_dt (ax_T 241)).lookup 1323 = some (.iload 4, 2, 0, 0, 0) := by decide +kernel
theorem l241_1325 : (ax_dt (ax_T 241)).lookup 1325 = some (.iconst 2, 1, 0, 0, 0) := by decide +kernel
theorem l241_1326 : (ax_dt (ax_T 241)).lookup 1326 = some (.iadd, 1, 0, 0, 0) := by decide +kernel
theorem l241_1327 : (ax_dt (ax_T 241)).lookup 1327 = some (.iaload, 1, 0, 0, 0) := by decide +kernel
theorem l241_1328 : (ax_dt (ax_T 241)).lookup 1328 = some (.aload_n 0, 1, 0, 0, 0) := by decide +kernel
theorem l241_1329 : (ax_dt (ax_T 241)).lookup 1329 = some (.iload 4, 2, 0, 0, 0) := by decide +kernel
theorem l241_1331 : (ax_dt (ax_T 241)).lookup 1331 = some (.iconst 3, 1, 0, 0, 0) := by decide +kernel
theorem l241_1332 : (ax_dt (ax_T 241)).lookup 1332 = some (.iadd, 1, 0, 0, 0) := by decide +kernel
theorem l241_1333 : (ax_dt (ax_T 241)).lookup 1333 = some (.iaload, 1, 0, 0, 0) := by decide +kernel
theorem l241_1334 : (ax_dt (ax_T 241)).lookup 1334 = some (.aload_n 3, 1, 0, 0, 0) := by decide +kernel
theorem l241_1335 : (ax_dt (ax_T 241)).lookup 1335 = some (.invokestatic 164, 3, 237, 5, 0) := by decide +kernel
theorem l241_1338 : (ax_dt (ax_T 241)).lookup 1338 = some (.istore 5, 2, 0, 0, 0) := by decide +kernel
theorem l241_1340 : (ax_dt (ax_T 241)).lookup 1340 = some (.aload_n 2, 1, 0, 0, 0) := by decide +kernel
theorem l241_1341 : (ax_dt (ax_T 241)).lookup 1341 = some (.aload_n 0, 1, 0, 0, 0) := by decide +kernel
theorem l241_1342 : (ax_dt (ax_T 241)).lookup 1342 = some (.iload 4, 2, 0, 0, 0) := by decide +kernel
theorem l241_1344 : (ax_dt (ax_T 241)).lookup 1344 = some (.iconst 1, 1, 0, 0, 0) := by decide +kernel
theorem l241_1345 : (ax_dt (ax_T 241)).lookup 1345 = some (.iadd, 1, 0, 0, 0) := by decide +kernel
theorem l241_1346 : (ax_dt (ax_T 241)).lookup 1346 = some (.iaload, 1, 0, 0, 0) := by decide +kernel
theorem l241_1347 : (ax_dt (ax_T 241)).lookup 1347 = some (.aload_n 0, 1, 0, 0, 0) := by decide +kernel
theorem l241_1348 : (ax_dt (ax_T 241)).lookup 1348 = some (.iload 4, 2, 0, 0, 0) := by decide +kernel
theorem l241_1350 : (ax_dt (ax_T 241)).lookup 1350 = some (.iconst 2, 1, 0, 0, 0) := by decide +kernel
theorem l241_1351 : (ax_dt (ax_T 241)).lookup 1351 = some (.iadd, 1, 0, 0, 0) := by decide +kernel
theorem l241_1352 : (ax_dt (ax_T 241)).lookup 1352 = some (.iaload, 1, 0, 0, 0) := by decide +kernel
theorem l241_1353 : (ax_dt (ax_T 241)).lookup 1353 = some (.aload_n 0, 1, 0, 0, 0) := by decide +kernel
theorem l241_1354 : (ax_dt (ax_T 241)).lookup 1354 = some (.iload 4, 2, 0, 0, 0) := by decide +kernel
theorem l241_1356 : (ax_dt (ax_T 241)).lookup 1356 = some (.iconst 3, 1, 0, 0, 0) := by decide +kernel
theorem l241_1357 : (ax_dt (ax_T 241)).lookup 1357 = some (.iadd, 1, 0, 0, 0) := by decide +kernel
theorem l241_1358 : (ax_dt (ax_T 241)).lookup 1358 = some (.iaload, 1, 0, 0, 0) := by decide +kernel
theorem l241_1359 : (ax_dt (ax_T 241)).lookup 1359 = some (.invokevirtual 166, 3, 212, 3, 0) := by decide +kernel
theorem l241_1362 : (ax_dt (ax_T 241)).lookup 1362 = some (.istore 6, 2, 0, 0, 0) := by decide +kernel
theorem l241_1364 : (ax_dt (ax_T 241)).lookup 1364 = some (.aload_n 2, 1, 0, 0, 0) := by decide +kernel
theorem l241_1365 : (ax_dt (ax_T 241)).lookup 1365 = some (.invokevirtual 95, 3, 133, 0, 0) := by decide +kernel
theorem l241_1368 : (ax_dt (ax_T 241)).lookup 1368 = some (.iload 5, 2, 0, 0, 0) := by decide +kernel
theorem l241_1370 : (ax_dt (ax_T 241)).lookup 1370 = some (.if_icmp .eq 5, 3, 0, 0, 0) := by decide +kernel
theorem l241_1373 : (ax_dt (ax_T 241)).lookup 1373 = some (.iconst 0, 1, 0, 0, 0) := by decide +kernel
theorem l241_1374 : (ax_dt (ax_T 241)).lookup 1374 = some (.ireturn, 1, 0, 0, 0) := by decide +kernel
theorem l241_1375 : (ax_dt (ax_T 241)).lookup 1375 = some (.iload 5, 2, 0, 0, 0) := by decide +kernel
theorem l241_1377 : (ax_dt (ax_T 241)).lookup 1377 = some (.ifCond .ne 15, 3, 0, 0, 0) := by decide +kernel
theorem l241_1380 : (ax_dt (ax_T 241)).lookup 1380 = some (.aload_n 3, 1, 0, 0, 0) := by decide +kernel
theorem l241_1381 : (ax_dt (ax_T 241)).lookup 1381 = some (.iconst 0, 1, 0, 0, 0) := by decide +kernel
theorem l241_1382 : (ax_dt (ax_T 241)).lookup 1382 = some (.laload, 1, 0, 0, 0) := by decide +kernel
theorem l241_1383 : (ax_dt (ax_T 241)).lookup 1383 = some (.iload 6, 2, 0, 0, 0) := by decide +kernel
theorem l241_1385 : (ax_dt (ax_T 241)).lookup 1385 = some (.i2l, 1, 0, 0, 0) := by decide +kernel
theorem l241_1386 : (ax_dt (ax_T 241)).lookup 1386 = some (.lcmp, 1, 0, 0, 0) := by decide +kernel
theorem l241_1387 : (ax_dt (ax_T 241)).lookup 1387 = some (.ifCond .eq 5, 3, 0, 0, 0) := by decide +kernel
theorem l241_1390 : (ax_dt (ax_T 241)).lookup 1390 = some (.iconst 0, 1, 0, 0, 0) := by decide +kernel
theorem l241_1391 : (ax_dt (ax_T 241)).lookup 1391 = some (.ireturn, 1, 0, 0, 0) := by decide +kernel
theorem l241_1392 : (ax_dt (ax_T 241)).lookup 1392 = some (.goto 263, 3, 0, 0, 0) := by decide +kernel
theorem l241_1395 : (ax_dt (ax_T 241)).lookup 1395 = some (.aload_n 1, 1, 0, 0, 0) := by decide +kernel
theorem l241_1396 : (ax_dt (ax_T 241)).lookup 1396 = some (.aload_n 0, 1, 0, 0, 0) := by decide +kernel
theorem l241_1397 : (ax_dt (ax_T 241)).lookup 1397 = some (.iload 4, 2, 0, 0, 0) := by decide +kernel
theorem l241_1399 : (ax_dt (ax_T 241)).lookup 1399 = some (.iconst 1, 1, 0, 0, 0) := by decide +kernel
theorem l241_1400 : (ax_dt (ax_T 241)).lookup 1400 = some (.iadd, 1, 0, 0, 0) := by decide +kernel
theorem l241_1401 : (ax_dt (ax_T 241)).lookup 1401 = some (.iaload, 1, 0, 0, 0) := by decide +kernel
theorem l241_1402 : (ax_dt (ax_T 241)).lookup 1402 = some (.aload_n 0, 1, 0, 0, 0) := by decide +kernel
theorem l241_1403 : (ax_dt (ax_T 241)).lookup 1403 = some (.iload 4, 2, 0, 0, 0) := by decide +kernel
theorem l241_1405 : (ax_dt (ax_T 241)).lookup 1405 = some (.iconst 2, 1, 0, 0, 0) := by decide +kernel
theorem l241_1406 : (ax_dt (ax_T 241)).lookup 1406 = some (.iadd, 1, 0, 0, 0) := by decide +kernel
theorem l241_1407 : (ax_dt (ax_T 241)).lookup 1407 = some (.iaload, 1, 0, 0, 0) := by decide +kernel
theorem l241_1408 : (ax_dt (ax_T 241)).lookup 1408 = some (.aload_n 3, 1, 0, 0, 0) := by decide +kernel
theorem l241_1409 : (ax_dt (ax_T 241)).lookup 1409 = some (.invokestatic 167, 3, 238, 4, 0) := by decide +kernel
theorem l241_1412 : (ax_dt (ax_T 241)).lookup 1412 = some (.istore 5, 2, 0, 0, 0) := by decide +kernel
theorem l241_1414 : (ax_dt (ax_T 241)).lookup 1414 = some (.aload_n 2, 1, 0, 0, 0) := by decide +kernel
theorem l241_1415 : (ax_dt (ax_T 241)).lookup 1415 = some (.aload_n 0, 1, 0, 0, 0) := by decide +kernel
theorem l241_1416 : (ax_dt (ax_T 241)).lookup 1416 = some (.iload 4, 2, 0, 0, 0) := by decide +kernel
theorem l241_1418 : (ax_dt (ax_T 241)).lookup 1418 = some (.iconst 1, 1, 0, 0, 0) := by decide +kernel
theorem l241_1419 : (ax_dt (ax_T 241)).lookup 1419 = some (.iadd, 1, 0, 0, 0) := by decide +kernel
theorem l241_1420 : (ax_dt (ax_T 241)).lookup 1420 = some (.iaload, 1, 0, 0, 0) := by decide +kernel
theorem l241_1421 : (ax_dt (ax_T 241)).lookup 1421 = some (.aload_n 0, 1, 0, 0, 0) := by decide +kernel
theorem l241_1422 : (ax_dt (ax_T 241)).lookup 1422 = some (.iload 4, 2, 0, 0, 0) := by decide +kernel
theorem l241_1424 : (ax_dt (ax_T 241)).lookup 1424 = some (.iconst 2, 1, 0, 0, 0) := by decide +kernel
theorem l241_1425 : (ax_dt (ax_T 241)).lookup 1425 = some (.iadd, 1, 0, 0, 0) := by decide +kernel
theorem l241_1426 : (ax_dt (ax_T 241)).lookup 1426 = some (.iaload, 1, 0, 0, 0) := by decide +kernel
theorem l241_1427 : (ax_dt (ax_T 241)).lookup 1427 = some (.invokevirtual 169, 3, 213, 2, 0) := by decide +kernel
theorem l241_1430 : (ax_dt (ax_T 241)).lookup 1430 = some (.lstore 6, 2, 0, 0, 0) := by decide +kernel
theorem l241_1432 : (ax_dt (ax_T 241)).lookup 1432 = some (.aload_n 2, 1, 0, 0, 0) := by decide +kernel
theorem l241_1433 : (ax_dt (ax_T 241)).lookup 1433 = some (.invokevirtual 95, 3, 133, 0, 0) := by decide +kernel
theorem l241_1436 : (ax_dt (ax_T 241)).lookup 1436 = some (.iload 5, 2, 0, 0, 0) := by decide +kernel
theorem l241_1438 : (ax_dt (ax_T 241)).lookup 1438 = some (.if_icmp .eq 5, 3, 0, 0, 0) := by decide +kernel
theorem l241_1441 : (ax_dt (ax_T 241)).lookup 1441 = some (.iconst 0, 1, 0, 0, 0) := by decide +kernel
theorem l241_1442 : (ax_dt (ax_T 241)).lookup 1442 = some (.ireturn, 1, 0, 0, 0) := by decide +kernel
theorem l241_1443 : (ax_dt (ax_T 241)).lookup 1443 = some (.iload 5, 2, 0, 0, 0) := by decide +kernel
theorem l241_1445 : (ax_dt (ax_T 241)).lookup 1445 = some (.ifCond .ne 14, 3, 0, 0, 0) := by decide +kernel
theorem l241_1448 : (ax_dt (ax_T 241)).lookup 1448 = some (.aload_n 3, 1, 0, 0, 0) := by decide +kernel
theorem l241_1449 : (ax_dt (ax_T 241)).lookup 1449 = some (.iconst 0, 1, 0, 0, 0) := by decide +kernel
theorem l241_1450 : (ax_dt (ax_T 241)).lookup 1450 = some (.laload, 1, 0, 0, 0) := by decide +kernel
theorem l241_1451 : (ax_dt (ax_T 241)).lookup 1451 = some (.lload 6, 2, 0, 0, 0) := by decide +kernel
theorem l241_1453 : (ax_dt (ax_T 241)).lookup 1453 = some (.lcmp, 1, 0, 0, 0) := by decide +kernel
theorem l241_1454 : (ax_dt (ax_T 241)).lookup 1454 = some (.ifCond .eq 5, 3, 0, 0, 0) := by decide +kernel
theorem l241_1457 : (ax_dt (ax_T 241)).lookup 1457 = some (.iconst 0, 1, 0, 0, 0) := by decide +kernel
theorem l241_1458 : (ax_dt (ax_T 241)).lookup 1458 = some (.ireturn, 1, 0, 0, 0) := by decide +kernel
theorem l241_1459 : (ax_dt (ax_T 241)).lookup 1459 = some (.goto 196, 3, 0, 0, 0) := by decide +kernel
theorem l241_1462 : (ax_dt (ax_T 241)).lookup 1462 = some (.aload_n 1, 1, 0, 0, 0) := by decide +kernel
theorem l241_1463 : (ax_dt (ax_T 241)).lookup 1463 = some (.aload_n 0, 1, 0, 0, 0) := by decide +kernel
theorem l241_1464 : (ax_dt (ax_T 241)).lookup 1464 = some (.iload 4, 2, 0, 0, 0) := by decide +kernel
theorem l241_1466 : (ax_dt (ax_T 241)).lookup 1466 = some (.iconst 1, 1, 0, 0, 0) := by decide +kernel
theorem l241_1467 : (ax_dt (ax_T 241)).lookup 1467 = some (.iadd, 1, 0, 0, 0) := by decide +kernel
theorem l241_1468 : (ax_dt (ax_T 241)).lookup 1468 = some (.iaload, 1, 0, 0, 0) := by decide +kernel
theorem l241_1469 : (ax_dt (ax_T 241)).lookup 1469 = some (.aload_n 0, 1, 0, 0, 0) := by decide +kernel
theorem l241_1470 : (ax_dt (ax_T 241)).lookup 1470 = some (.iload 4, 2, 0, 0, 0) := by decide +kernel
theorem l241_1472 : (ax_dt (ax_T 241)).lookup 1472 = some (.iconst 2, 1, 0, 0, 0) := by decide +kernel
theorem l241_1473 : (ax_dt (ax_T 241)).lookup 1473 = some (.iadd, 1, 0, 0, 0) := by decide +kernel
theorem l241_1474 : (ax_dt (ax_T 241)).lookup 1474 = some (.iaload, 1, 0, 0, 0) := by decide +kernel
theorem l241_1475 : (ax_dt (ax_T 241)).lookup 1475 = some (.aload_n 0, 1, 0, 0, 0) := by decide +kernel
theorem l241_1476 : (ax_dt (ax_T 241)).lookup 1476 = some (.iload 4, 2, 0, 0, 0) := by decide +kernel
theorem l241_1478 : (ax_dt (ax_T 241)).lookup 1478 = some (.iconst 3, 1, 0, 0, 0) := by decide +kernel
theorem l241_1479 : (ax_dt (ax_T 241)).lookup 1479 = some (.iadd, 1, 0, 0, 0) := by decide +kernel
theorem l241_1480 : (ax_dt (ax_T 241)).lookup 1480 = some (.iaload, 1, 0, 0, 0) := by decide +kernel
theorem l241_1481 : (ax_dt (ax_T 241)).lookup 1481 = some (.aload_n 3, 1, 0, 0, 0) := by decide +kernel
theorem l241_1482 : (ax_dt (ax_T 241)).lookup 1482 = some (.invokestatic 170, 3, 239, 5, 0) := by decide +kernel
theorem l241_1485 : (ax_dt (ax_T 241)).lookup 1485 = some (.istore 5, 2, 0, 0, 0) := by decide +kernel
theorem l241_1487 : (ax_dt (ax_T 241)).lookup 1487 = some (.aload_n 2, 1, 0, 0, 0) := by decide +kernel
theorem l241_1488 : (ax_dt (ax_T 241)).lookup 1488 = some (.aload_n 0, 1, 0, 0, 0) := by decide +kernel
theorem l241_1489 : (ax_dt (ax_T 241)).lookup 1489 = some (.iload 4, 2, 0, 0, 0) := by decide +kernel
theorem l241_1491 : (ax_dt (ax_T 241)).lookup 1491 = some (.iconst 1, 1, 0, 0, 0) := by decide +kernel
theorem l241_1492 : (ax_dt (ax_T 241)).lookup 1492 = some (.iadd, 1, 0, 0, 0) := by decide +kernel
theorem l241_1493 : (ax_dt (ax_T 241)).lookup 1493 = some (.iaload, 1, 0, 0, 0) := by decide +kernel
theorem l241_1494 : (ax_dt (ax_T 241)).lookup 1494 = some (.aload_n 0, 1, 0, 0, 0) := by decide +kernel
theorem l241_1495 : (ax_dt (ax_T 241)).lookup 1495 = some (.iload 4, 2, 0, 0, 0) := by decide +kernel
theorem l241_1497 : (ax_dt (ax_T 241)).lookup 1497 = some (.iconst 2, 1, 0, 0, 0) := by decide +kernel
theorem l241_1498 : (ax_dt (ax_T 241)).lookup 1498 = some (.iadd, 1, 0, 0, 0) := by decide +kernel
theorem l241_1499 : (ax_dt (ax_T 241)).lookup 1499 = some (.iaload, 1, 0, 0, 0) := by decide +kernel
theorem l241_1500 : (ax_dt (ax_T 241)).lookup 1500 = some (.aload_n 0, 1, 0, 0, 0) := by decide +kernel
theorem l241_1501 : (ax_dt (ax_T 241)).lookup 1501 = some (.iload 4, 2, 0, 0, 0) := by decide +kernel
theorem l241_1503 : (ax_dt (ax_T 241)).lookup 1503 = some (.iconst 3, 1, 0, 0, 0) := by decide +kernel
theorem l241_1504 : (ax_dt (ax_T 241)).lookup 1504 = some (.iadd, 1, 0, 0, 0) := by decide +kernel
theorem l241_1505 : (ax_dt (ax_T 241)).lookup 1505 = some (.iaload, 1, 0, 0, 0) := by decide +kernel
theorem l241_1506 : (ax_dt (ax_T 241)).lookup 1506 = some (.invokevirtual 172, 3, 214, 3, 0) := by decide +kernel
theorem l241_1509 : (ax_dt (ax_T 241)).lookup 1509 = some (.istore 6, 2, 0, 0, 0) := by decide +kernel
theorem l241_1511 : (ax_dt (ax_T 241)).lookup 1511 = some (.aload_n 2, 1, 0, 0, 0) := by decide +kernel
theorem l241_1512 : (ax_dt (ax_T 241)).lookup 1512 = some (.invokevirtual 95, 3, 133, 0, 0) := by decide +kernel
theorem l241_1515 : (ax_dt (ax_T 241)).lookup 1515 = some (.iload 5, 2, 0, 0, 0) := by decide +kernel
theorem l241_1517 : (ax_dt (ax_T 241)).lookup 1517 = some (.if_icmp .eq 5, 3, 0, 0, 0) := by decide +kernel
theorem l241_1520 : (ax_dt (ax_T 241)).lookup 1520 = some (.iconst 0, 1, 0, 0, 0) := by decide +kernel
theorem l241_1521 : (ax_dt (ax_T 241)).lookup 1521 = some (.ireturn, 1, 0, 0, 0) := by decide +kernel
theorem l241_1522 : (ax_dt (ax_T 241)).lookup 1522 = some (.iload 5, 2, 0, 0, 0) := by decide +kernel
theorem l241_1524 : (ax_dt (ax_T 241)).lookup 1524 = some (.ifCond .ne 15, 3, 0, 0, 0) := by decide +kernel
theorem l241_1527 : (ax_dt (ax_T 241)).lookup 1527 = some (.aload_n 3, 1, 0, 0, 0) := by decide +kernel
theorem l241_1528 : (ax_dt (ax_T 241)).lookup 1528 = some (.iconst 0, 1, 0, 0, 0) := by decide +kernel
theorem l241_1529 : (ax_dt (ax_T 241)).lookup 1529 = some (.laload, 1, 0, 0, 0) := by decide +kernel
theorem l241_1530 : (ax_dt (ax_T 241)).lookup 1530 = some (.iload 6, 2, 0, 0, 0) := by decide +kernel
theorem l241_1532 : (ax_dt (ax_T 241)).lookup 1532 = some (.i2l, 1, 0, 0, 0) := by decide +kernel
theorem l241_1533 : (ax_dt (ax_T 241)).lookup 1533 = some (.lcmp, 1, 0, 0, 0) := by decide +kernel
theorem l241_1534 : (ax_dt (ax_T 241)).lookup 1534 = some (.ifCond .eq 5, 3, 0, 0, 0) := by decide +kernel
theorem l241_1537 : (ax_dt (ax_T 241)).lookup 1537 = some (.iconst 0, 1, 0, 0, 0) := by decide +kernel
theorem l241_1538 : (ax_dt (ax_T 241)).lookup 1538 = some (.ireturn, 1, 0, 0, 0) := by decide +kernel
theorem l241_1539 : (ax_dt (ax_T 241)).lookup 1539 = some (.goto 116, 3, 0, 0, 0) := by decide +kernel
theorem l241_1542 : (ax_dt (ax_T 241)).lookup 1542 = some (.aload_n 1, 1, 0, 0, 0) := by decide +kernel
theorem l241_1543 : (ax_dt (ax_T 241)).lookup 1543 = some (.aload_n 0, 1, 0, 0, 0) := by decide +kernel
theorem l241_1544 : (ax_dt (ax_T 241)).lookup 1544 = some (.iload 4, 2, 0, 0, 0) := by decide +kernel
theorem l241_1546 : (ax_dt (ax_T 241)).lookup 1546 = some (.iconst 1, 1, 0, 0, 0) := by decide +kernel
theorem l241_1547 : (ax_dt (ax_T 241)).lookup 1547 = some (.iadd, 1, 0, 0, 0) := by decide +kernel
theorem l241_1548 : (ax_dt (ax_T 241)).lookup 1548 = some (.iaload, 1, 0, 0, 0) := by decide +kernel
theorem l241_1549 : (ax_dt (ax_T 241)).lookup 1549 = some (.aload_n 3, 1, 0, 0, 0) := by decide +kernel
theorem l241_1550 : (ax_dt (ax_T 241)).lookup 1550 = some (.invokestatic 173, 3, 240, 3, 0) := by decide +kernel
theorem l241_1553 : (ax_dt (ax_T 241)).lookup 1553 = some (.istore 5, 2, 0, 0, 0) := by decide +kernel
theorem l241_1555 : (ax_dt (ax_T 241)).lookup 1555 = some (.aload_n 2, 1, 0, 0, 0) := by decide +kernel
theorem l241_1556 : (ax_dt (ax_T 241)).lookup 1556 = some (.aload_n 0, 1, 0, 0, 0) := by decide +kernel
theorem l241_1557 : (ax_dt (ax_T 241)).lookup 1557 = some (.iload 4, 2, 0, 0, 0) := by decide +kernel
theorem l241_1559 : (ax_dt (ax_T 241)).lookup 1559 = some (.iconst 1, 1, 0, 0, 0) := by decide +kernel
theorem l241_1560 : (ax_dt (ax_T 241)).lookup 1560 = some (.iadd, 1, 0, 0, 0) := by decide +kernel
theorem l241_1561 : (ax_dt (ax_T 241)).lookup 1561 = some (.iaload, 1, 0, 0, 0) := by decide +kernel
theorem l241_1562 : (ax_dt (ax_T 241)).lookup 1562 = some (.invokevirtual 175, 3, 216, 1, 0) := by decide +kernel
theorem l241_1565 : (ax_dt (ax_T 241)).lookup 1565 = some (.istore 6, 2, 0, 0, 0) := by decide +kernel
theorem l241_1567 : (ax_dt (ax_T 241)).lookup 1567 = some (.aload_n 2, 1, 0, 0, 0) := by decide +kernel
theorem l241_1568 : (ax_dt (ax_T 241)).lookup 1568 = some (.invokevirtual 95, 3, 133, 0, 0) := by decide +kernel
theorem l241_1571 : (ax_dt (ax_T 241)).lookup 1571 = some (.iload 5, 2, 0, 0, 0) := by decide +kernel
theorem l241_1573 : (ax_dt (ax_T 241)).lookup 1573 = some (.if_icmp .eq 5, 3, 0, 0, 0) := by decide +kernel
theorem l241_1576 : (ax_dt (ax_T 241)).lookup 1576 = some (.iconst 0, 1, 0, 0, 0) := by decide +kernel
theorem l241_1577 : (ax_dt (ax_T 241)).lookup 1577 = some (.ireturn, 1, 0, 0, 0) := by decide +kernel
theorem l241_1578 : (ax_dt (ax_T 241)).lookup 1578 = some (.iload 5, 2, 0, 0, 0) := by decide +kernel
theorem l241_1580 : (ax_dt (ax_T 241)).lookup 1580 = some (.ifCond .ne 15, 3, 0, 0, 0) := by decide +kernel
theorem l241_1583 : (ax_dt (ax_T 241)).lookup 1583 = some (.aload_n 3, 1, 0, 0, 0) := by decide +kernel
theorem l241_1584 : (ax_dt (ax_T 241)).lookup 1584 = some (.iconst 0, 1, 0, 0, 0) := by decide +kernel
theorem l241_1585 : (ax_dt (ax_T 241)).lookup 1585 = some (.laload, 1, 0, 0, 0) := by decide +kernel
theorem l241_1586 : (ax_dt (ax_T 241)).lookup 1586 = some (.iload 6, 2, 0, 0, 0) := by decide +kernel
theorem l241_1588 : (ax_dt (ax_T 241)).lookup 1588 = some (.i2l, 1, 0, 0, 0) := by decide +kernel
theorem l241_1589 : (ax_dt (ax_T 241)).lookup 1589 = some (.lcmp, 1, 0, 0, 0) := by decide +kernel
theorem l241_1590 : (ax_dt (ax_T 241)).lookup 1590 = some (.ifCond .eq 5, 3, 0, 0, 0) := by decide +kernel
theorem l241_1593 : (ax_dt (ax_T 241)).lookup 1593 = some (.iconst 0, 1, 0, 0, 0) := by decide +kernel
theorem l241_1594 : (ax_dt (ax_T 241)).lookup 1594 = some (.ireturn, 1, 0, 0, 0) := by decide +kernel
theorem l241_1595 : (ax_dt (ax_T 241)).lookup 1595 = some (.goto 60, 3, 0, 0, 0) := by decide +kernel
theorem l241_1598 : (ax_dt (ax_T 241)).lookup 1598 = some (.aload_n 1, 1, 0, 0, 0) := by decide +kernel
theorem l241_1599 : (ax_dt (ax_T 241)).lookup 1599 = some (.aload_n 0, 1, 0, 0, 0) := by decide +kernel
theorem l241_1600 : (ax_dt (ax_T 241)).lookup 1600 = some (.iload 4, 2, 0, 0, 0) := by decide +kernel
theorem l241_1602 : (ax_dt (ax_T 241)).lookup 1602 = some (.iconst 1, 1, 0, 0, 0) := by decide +kernel
theorem l241_1603 : (ax_dt (ax_T 241)).lookup 1603 = some (.iadd, 1, 0, 0, 0) := by decide +kernel
theorem l241_1604 : (ax_dt (ax_T 241)).lookup 1604 = some (.iaload, 1, 0, 0, 0) := by decide +kernel
theorem l241_1605 : (ax_dt (ax_T 241)).lookup 1605 = some (.i2l, 1, 0, 0, 0) := by decide +kernel
theorem l241_1606 : (ax_dt (ax_T 241)).lookup 1606 = some (.bipush 32, 2, 0, 0, 0) := by decide +kernel
theorem l241_1608 : (ax_dt (ax_T 241)).lookup 1608 = some (.lshl, 1, 0, 0, 0) := by decide +kernel
theorem l241_1609 : (ax_dt (ax_T 241)).lookup 1609 = some (.aload_n 0, 1, 0, 0, 0) := by decide +kernel
theorem l241_1610 : (ax_dt (ax_T 241)).lookup 1610 = some (.iload 4, 2, 0, 0, 0) := by decide +kernel
theorem l241_1612 : (ax_dt (ax_T 241)).lookup 1612 = some (.iconst 2, 1, 0, 0, 0) := by decide +kernel
theorem l241_1613 : (ax_dt (ax_T 241)).lookup 1613 = some (.iadd, 1, 0, 0, 0) := by decide +kernel
theorem l241_1614 : (ax_dt (ax_T 241)).lookup 1614 = some (.iaload, 1, 0, 0, 0) := by decide +kernel
theorem l241_1615 : (ax_dt (ax_T 241)).lookup 1615 = some (.i2l, 1, 0, 0, 0) := by decide +kernel
theorem l241_1616 : (ax_dt (ax_T 241)).lookup 1616 = some (.ldc2_w 111, 3, 0, 0, 4294967295) := by decide +kernel
theorem l241_1619 : (ax_dt (ax_T 241)).lookup 1619 = some (.land, 1, 0, 0, 0) := by decide +kernel
theorem l241_1620 : (ax_dt (ax_T 241)).lookup 1620 = some (.lor, 1, 0, 0, 0) := by decide +kernel
theorem l241_1621 : (ax_dt (ax_T 241)).lookup 1621 = some (.invokevirtual 176, 3, 116, 1, 0) := by decide +kernel
theorem l241_1624 : (ax_dt (ax_T 241)).lookup 1624 = some (.aload_n 2, 1, 0, 0, 0) := by decide +kernel
theorem l241_1625 : (ax_dt (ax_T 241)).lookup 1625 = some (.aload_n 0, 1, 0, 0, 0) := by decide +kernel
theorem l241_1626 : (ax_dt (ax_T 241)).lookup 1626 = some (.iload 4, 2, 0, 0, 0) := by decide +kernel
theorem l241_1628 : (ax_dt (ax_T 241)).lookup 1628 = some (.iconst 1, 1, 0, 0, 0) := by decide +kernel
theorem l241_1629 : (ax_dt (ax_T 241)).lookup 1629 = some (.iadd, 1, 0, 0, 0) := by decide +kernel
theorem l241_1630 : (ax_dt (ax_T 241)).lookup 1630 = some (.iaload, 1, 0, 0, 0) := by decide +kernel
theorem l241_1631 : (ax_dt (ax_T 241)).lookup 1631 = some (.i2l, 1, 0, 0, 0) := by decide +kernel
theorem l241_1632 : (ax_dt (ax_T 241)).lookup 1632 = some (.bipush 32, 2, 0, 0, 0) := by decide +kernel
theorem l241_1634 : (ax_dt (ax_T 241)).lookup 1634 = some (.lshl, 1, 0, 0, 0) := by decide +kernel
theorem l241_1635 : (ax_dt (ax_T 241)).lookup 1635 = some (.aload_n 0, 1, 0, 0, 0) := by decide +kernel
theorem l241_1636 : (ax_dt (ax_T 241)).lookup 1636 = some (.iload 4, 2, 0, 0, 0) := by decide +kernel
theorem l241_1638 : (ax_dt (ax_T 241)).lookup 1638 = some (.iconst 2, 1, 0, 0, 0) := by decide +kernel
theorem l241_1639 : (ax_dt (ax_T 241)).lookup 1639 = some (.iadd, 1, 0, 0, 0) := by decide +kernel
theorem l241_1640 : (ax_dt (ax_T 241)).lookup 1640 = some (.iaload, 1, 0, 0, 0) := by decide +kernel
theorem l241_1641 : (ax_dt (ax_T 241)).lookup 1641 = some (.i2l, 1, 0, 0, 0) := by decide +kernel
theorem l241_1642 : (ax_dt (ax_T 241)).lookup 1642 = some (.ldc2_w 111, 3, 0, 0, 4294967295) := by decide +kernel
theorem l241_1645 : (ax_dt (ax_T 241)).lookup 1645 = some (.land, 1, 0, 0, 0) := by decide +kernel
theorem l241_1646 : (ax_dt (ax_T 241)).lookup 1646 = some (.lor, 1, 0, 0, 0) := by decide +kernel
theorem l241_1647 : (ax_dt (ax_T 241)).lookup 1647 = some (.invokevirtual 180, 3, 219, 1, 0) := by decide +kernel
theorem l241_1650 : (ax_dt (ax_T 241)).lookup 1650 = some (.if_icmp .eq 5, 3, 0, 0, 0) := by decide +kernel
theorem l241_1653 : (ax_dt (ax_T 241)).lookup 1653 = some (.iconst 0, 1, 0, 0, 0) := by decide +kernel
theorem l241_1654 : (ax_dt (ax_T 241)).lookup 1654 = some (.ireturn, 1, 0, 0, 0) := by decide +kernel
theorem l241_1655 : (ax_dt (ax_T 241)).lookup 1655 = some (.iinc 4 6, 3, 0, 0, 0) := by decide +kernel
theorem l241_1658 : (ax_dt (ax_T 241)).lookup 1658 = some (.goto (-1635), 3, 0, 0, 0) := by decide +kernel
theorem l241_1661 : (ax_dt (ax_T 241)).lookup 1661 = some (.iconst 1, 1, 0, 0, 0) := by decide +kernel
theorem l241_1662 : (ax_dt (ax_T 241)).lookup 1662 = some (.ireturn, 1, 0, 0, 0) := by decide +kernel
end
