theorem d_A_law_0 : decode b_A_law 0 = .ok (.new 7, 3) := by decide +kernel
theorem d_A_law_3 : decode b_A_law 3 = .ok (.dup, 1) := by decide +kernel
theorem d_A_law_4 : decode b_A_law 4 = .ok (.invokespecial 9, 3) := by decide +kernel
theorem d_A_law_7 : decode b_A_law 7 = .ok (.astore_n 1, 1) := by decide +kernel
theorem d_A_law_8 : decode b_A_law 8 = .ok (.new 10, 3) := by decide +kernel
theorem d_A_law_11 : decode b_A_law 11 = .ok (.dup, 1) := by decide +kernel
theorem d_A_law_12 : decode b_A_law 12 = .ok (.invokespecial 12, 3) := by decide +kernel
theorem d_A_law_15 : decode b_A_law 15 = .ok (.astore_n 2, 1) := by decide +kernel
theorem d_A_law_16 : decode b_A_law 16 = .ok (.iconst 0, 1) := by decide +kernel
theorem d_A_law_17 : decode b_A_law 17 = .ok (.istore_n 3, 1) := by decide +kernel
theorem d_A_law_18 : decode b_A_law 18 = .ok (.iload_n 3, 1) := by decide +kernel
theorem d_A_law_19 : decode b_A_law 19 = .ok (.aload_n 0, 1) := by decide +kernel
theorem d_A_law_20 : decode b_A_law 20 = .ok (.arraylength, 1) := by decide +kernel
theorem d_A_law_21 : decode b_A_law 21 = .ok (.iconst 3, 1) := by decide +kernel
theorem d_A_law_22 : decode b_A_law 22 = .ok (.isub, 1) := by decide +kernel
theorem d_A_law_23 : decode b_A_law 23 = .ok (.if_icmp .gt 468, 3) := by decide +kernel
theorem d_A_law_26 : decode b_A_law 26 = .ok (.aload_n 0, 1) := by decide +kernel
theorem d_A_law_27 : decode b_A_law 27 = .ok (.iload_n 3, 1) := by decide +kernel
theorem d_A_law_28 : decode b_A_law 28 = .ok (.iaload, 1) := by decide +kernel
theorem d_A_law_29 : decode b_A_law 29 = .ok (.bipush 31, 2) := by decide +kernel
theorem d_A_law_31 : decode b_A_law 31 = .ok (.iand, 1) := by decide +kernel
theorem d_A_law_32 : decode b_A_law 32 = .ok (.tableswitch 453 0 16 #[84, 107, 120, 131, 144, 167, 190, 213, 226, 259, 282, 295, 318, 341, 374, 397, 430], 84) := by decide +kernel
theorem d_A_law_116 : decode b_A_law 116 = .ok (.aload_n 1, 1) := by decide +kernel
theorem d_A_law_117 : decode b_A_law 117 = .ok (.aload_n 0, 1) := by decide +kernel
theorem d_A_law_118 : decode b_A_law 118 = .ok (.iload_n 3, 1) := by decide +kernel
theorem d_A_law_119 : decode b_A_law 119 = .ok (.iconst 1, 1) := by decide +kernel
theorem d_A_law_120 : decode b_A_law 120 = .ok (.iadd, 1) := by decide +kernel
theorem d_A_law_121 : decode b_A_law 121 = .ok (.iaload, 1) := by decide +kernel
theorem d_A_law_122 : decode b_A_law 122 = .ok (.invokevirtual 13, 3) := by decide +kernel
theorem d_A_law_125 : decode b_A_law 125 = .ok (.aload_n 2, 1) := by decide +kernel
theorem d_A_law_126 : decode b_A_law 126 = .ok (.aload_n 0, 1) := by decide +kernel
theorem d_A_law_127 : decode b_A_law 127 = .ok (.iload_n 3, 1) := by decide +kernel
theorem d_A_law_128 : decode b_A_law 128 = .ok (.iconst 1, 1) := by decide +kernel
theorem d_A_law_129 : decode b_A_law 129 = .ok (.iadd, 1) := by decide +kernel
theorem d_A_law_130 : decode b_A_law 130 = .ok (.iaload, 1) := by decide +kernel
theorem d_A_law_131 : decode b_A_law 131 = .ok (.invokevirtual 17, 3) := by decide +kernel
theorem d_A_law_134 : decode b_A_law 134 = .ok (.if_icmp .eq 351, 3) := by decide +kernel
theorem d_A_law_137 : decode b_A_law 137 = .ok (.iconst 0, 1) := by decide +kernel
theorem d_A_law_138 : decode b_A_law 138 = .ok (.ireturn, 1) := by decide +kernel
theorem d_A_law_139 : decode b_A_law 139 = .ok (.aload_n 1, 1) := by decide +kernel
theorem d_A_law_140 : decode b_A_law 140 = .ok (.invokevirtual 18, 3) := by decide +kernel
theorem d_A_law_143 : decode b_A_law 143 = .ok (.aload_n 2, 1) := by decide +kernel
theorem d_A_law_144 : decode b_A_law 144 = .ok (.invokevirtual 22, 3) := by decide +kernel
theorem d_A_law_147 : decode b_A_law 147 = .ok (.if_icmp .eq 338, 3) := by decide +kernel
theorem d_A_law_150 : decode b_A_law 150 = .ok (.iconst 0, 1) := by decide +kernel
theorem d_A_law_151 : decode b_A_law 151 = .ok (.ireturn, 1) := by decide +kernel
theorem d_A_law_152 : decode b_A_law 152 = .ok (.aload_n 1, 1) := by decide +kernel
theorem d_A_law_153 : decode b_A_law 153 = .ok (.invokevirtual 23, 3) := by decide +kernel
theorem d_A_law_156 : decode b_A_law 156 = .ok (.aload_n 2, 1) := by decide +kernel
theorem d_A_law_157 : decode b_A_law 157 = .ok (.invokevirtual 26, 3) := by decide +kernel
theorem d_A_law_160 : decode b_A_law 160 = .ok (.goto 325, 3) := by decide +kernel
theorem d_A_law_163 : decode b_A_law 163 = .ok (.aload_n 1, 1) := by decide +kernel
theorem d_A_law_164 : decode b_A_law 164 = .ok (.invokevirtual 27, 3) := by decide +kernel
theorem d_A_law_167 : decode b_A_law 167 = .ok (.aload_n 2, 1) := by decide +kernel
theorem d_A_law_168 : decode b_A_law 168 = .ok (.invokevirtual 31, 3) := by decide +kernel
theorem d_A_law_171 : decode b_A_law 171 = .ok (.if_icmp .eq 314, 3) := by decide +kernel
theorem d_A_law_174 : decode b_A_law 174 = .ok (.iconst 0, 1) := by decide +kernel
theorem d_A_law_175 : decode b_A_law 175 = .ok (.ireturn, 1) := by decide +kernel
theorem d_A_law_176 : decode b_A_law 176 = .ok (.aload_n 1, 1) := by decide +kernel
theorem d_A_law_177 : decode b_A_law 177 = .ok (.aload_n 0, 1) := by decide +kernel
theorem d_A_law_178 : decode b_A_law 178 = .ok (.iload_n 3, 1) := by decide +kernel
theorem d_A_law_179 : decode b_A_law 179 = .ok (.iconst 1, 1) := by decide +kernel
theorem d_A_law_180 : decode b_A_law 180 = .ok (.iadd, 1) := by decide +kernel
theorem d_A_law_181 : decode b_A_law 181 = .ok (.iaload, 1) := by decide +kernel
theorem d_A_law_182 : decode b_A_law 182 = .ok (.invokevirtual 32, 3) := by decide +kernel
theorem d_A_law_185 : decode b_A_law 185 = .ok (.aload_n 2, 1) := by decide +kernel
theorem d_A_law_186 : decode b_A_law 186 = .ok (.aload_n 0, 1) := by decide +kernel
theorem d_A_law_187 : decode b_A_law 187 = .ok (.iload_n 3, 1) := by decide +kernel
theorem d_A_law_188 : decode b_A_law 188 = .ok (.iconst 1, 1) := by decide +kernel
theorem d_A_law_189 : decode b_A_law 189 = .ok (.iadd, 1) := by decide +kernel
theorem d_A_law_190 : decode b_A_law 190 = .ok (.iaload, 1) := by decide +kernel
theorem d_A_law_191 : decode b_A_law 191 = .ok (.invokevirtual 36, 3) := by decide +kernel
theorem d_A_law_194 : decode b_A_law 194 = .ok (.if_icmp .eq 291, 3) := by decide +kernel
theorem d_A_law_197 : decode b_A_law 197 = .ok (.iconst 0, 1) := by decide +kernel
theorem d_A_law_198 : decode b_A_law 198 = .ok (.ireturn, 1) := by decide +kernel
theorem d_A_law_199 : decode b_A_law 199 = .ok (.aload_n 1, 1) := by decide +kernel
theorem d_A_law_200 : decode b_A_law 200 = .ok (.aload_n 0, 1) := by decide +kernel
theorem d_A_law_201 : decode b_A_law 201 = .ok (.iload_n 3, 1) := by decide +kernel
theorem d_A_law_202 : decode b_A_law 202 = .ok (.iconst 1, 1) := by decide +kernel
theorem d_A_law_203 : decode b_A_law 203 = .ok (.iadd, 1) := by decide +kernel
theorem d_A_law_204 : decode b_A_law 204 = .ok (.iaload, 1) := by decide +kernel
theorem d_A_law_205 : decode b_A_law 205 = .ok (.invokevirtual 37, 3) := by decide +kernel
theorem d_A_law_208 : decode b_A_law 208 = .ok (.aload_n 2, 1) := by decide +kernel
theorem d_A_law_209 : decode b_A_law 209 = .ok (.aload_n 0, 1) := by decide +kernel
theorem d_A_law_210 : decode b_A_law 210 = .ok (.iload_n 3, 1) := by decide +kernel
theorem d_A_law_211 : decode b_A_law 211 = .ok (.iconst 1, 1) := by decide +kernel
theorem d_A_law_212 : decode b_A_law 212 = .ok (.iadd, 1) := by decide +kernel
theorem d_A_law_213 : decode b_A_law 213 = .ok (.iaload, 1) := by decide +kernel
theorem d_A_law_214 : decode b_A_law 214 = .ok (.invokevirtual 40, 3) := by decide +kernel
theorem d_A_law_217 : decode b_A_law 217 = .ok (.if_icmp .eq 268, 3) := by decide +kernel
theorem d_A_law_220 : decode b_A_law 220 = .ok (.iconst 0, 1) := by decide +kernel
theorem d_A_law_221 : decode b_A_law 221 = .ok (.ireturn, 1) := by decide +kernel
theorem d_A_law_222 : decode b_A_law 222 = .ok (.aload_n 1, 1) := by decide +kernel
theorem d_A_law_223 : decode b_A_law 223 = .ok (.aload_n 0, 1) := by decide +kernel
theorem d_A_law_224 : decode b_A_law 224 = .ok (.iload_n 3, 1) := by decide +kernel
theorem d_A_law_225 : decode b_A_law 225 = .ok (.iconst 1, 1) := by decide +kernel
theorem d_A_law_226 : decode b_A_law 226 = .ok (.iadd, 1) := by decide +kernel
theorem d_A_law_227 : decode b_A_law 227 = .ok (.iaload, 1) := by decide +kernel
theorem d_A_law_228 : decode b_A_law 228 = .ok (.invokevirtual 41, 3) := by decide +kernel
theorem d_A_law_231 : decode b_A_law 231 = .ok (.aload_n 2, 1) := by decide +kernel
theorem d_A_law_232 : decode b_A_law 232 = .ok (.aload_n 0, 1) := by decide +kernel
theorem d_A_law_233 : decode b_A_law 233 = .ok (.iload_n 3, 1) := by decide +kernel
theorem d_A_law_234 : decode b_A_law 234 = .ok (.iconst 1, 1) := by decide +kernel
theorem d_A_law_235 : decode b_A_law 235 = .ok (.iadd, 1) := by decide +kernel
theorem d_A_law_236 : decode b_A_law 236 = .ok (.iaload, 1) := by decide +kernel
theorem d_A_law_237 : decode b_A_law 237 = .ok (.invokevirtual 44, 3) := by decide +kernel
theorem d_A_law_240 : decode b_A_law 240 = .ok (.if_icmp .eq 245, 3) := by decide +kernel
theorem d_A_law_243 : decode b_A_law 243 = .ok (.iconst 0, 1) := by decide +kernel
theorem d_A_law_244 : decode b_A_law 244 = .ok (.ireturn, 1) := by decide +kernel
theorem d_A_law_245 : decode b_A_law 245 = .ok (.aload_n 1, 1) := by decide +kernel
theorem d_A_law_246 : decode b_A_law 246 = .ok (.invokevirtual 45, 3) := by decide +kernel
theorem d_A_law_249 : decode b_A_law 249 = .ok (.aload_n 2, 1) := by decide +kernel
theorem d_A_law_250 : decode b_A_law 250 = .ok (.invokevirtual 48, 3) := by decide +kernel
theorem d_A_law_253 : decode b_A_law 253 = .ok (.if_icmp .eq 232, 3) := by decide +kernel
theorem d_A_law_256 : decode b_A_law 256 = .ok (.iconst 0, 1) := by decide +kernel
theorem d_A_law_257 : decode b_A_law 257 = .ok (.ireturn, 1) := by decide +kernel
theorem d_A_law_258 : decode b_A_law 258 = .ok (.aload_n 1, 1) := by decide +kernel
theorem d_A_law_259 : decode b_A_law 259 = .ok (.aload_n 0, 1) := by decide +kernel
theorem d_A_law_260 : decode b_A_law 260 = .ok (.iload_n 3, 1) := by decide +kernel
theorem d_A_law_261 : decode b_A_law 261 = .ok (.iconst 1, 1) := by decide +kernel
theorem d_A_law_262 : decode b_A_law 262 = .ok (.iadd, 1) := by decide +kernel
theorem d_A_law_263 : decode b_A_law 263 = .ok (.iaload, 1) := by decide +kernel
theorem d_A_law_264 : decode b_A_law 264 = .ok (.aload_n 0, 1) := by decide +kernel
theorem d_A_law_265 : decode b_A_law 265 = .ok (.iload_n 3, 1) := by decide +kernel
theorem d_A_law_266 : decode b_A_law 266 = .ok (.iconst 2, 1) := by decide +kernel
theorem d_A_law_267 : decode b_A_law 267 = .ok (.iadd, 1) := by decide +kernel
theorem d_A_law_268 : decode b_A_law 268 = .ok (.iaload, 1) := by decide +kernel
theorem d_A_law_269 : decode b_A_law 269 = .ok (.invokevirtual 49, 3) := by decide +kernel
theorem d_A_law_272 : decode b_A_law 272 = .ok (.aload_n 2, 1) := by decide +kernel
theorem d_A_law_273 : decode b_A_law 273 = .ok (.aload_n 0, 1) := by decide +kernel
theorem d_A_law_274 : decode b_A_law 274 = .ok (.iload_n 3, 1) := by decide +kernel
theorem d_A_law_275 : decode b_A_law 275 = .ok (.iconst 1, 1) := by decide +kernel
theorem d_A_law_276 : decode b_A_law 276 = .ok (.iadd, 1) := by decide +kernel
theorem d_A_law_277 : decode b_A_law 277 = .ok (.iaload, 1) := by decide +kernel
theorem d_A_law_278 : decode b_A_law 278 = .ok (.aload_n 0, 1) := by decide +kernel
theorem d_A_law_279 : decode b_A_law 279 = .ok (.iload_n 3, 1) := by decide +kernel
theorem d_A_law_280 : decode b_A_law 280 = .ok (.iconst 2, 1) := by decide +kernel
theorem d_A_law_281 : decode b_A_law 281 = .ok (.iadd, 1) := by decide +kernel
theorem d_A_law_282 : decode b_A_law 282 = .ok (.iaload, 1) := by decide +kernel
theorem d_A_law_283 : decode b_A_law 283 = .ok (.invokevirtual 53, 3) := by decide +kernel
theorem d_A_law_286 : decode b_A_law 286 = .ok (.if_icmp .eq 199, 3) := by decide +kernel
theorem d_A_law_289 : decode b_A_law 289 = .ok (.iconst 0, 1) := by decide +kernel
theorem d_A_law_290 : decode b_A_law 290 = .ok (.ireturn, 1) := by decide +kernel
theorem d_A_law_291 : decode b_A_law 291 = .ok (.aload_n 1, 1) := by decide +kernel
theorem d_A_law_292 : decode b_A_law 292 = .ok (.aload_n 0, 1) := by decide +kernel
theorem d_A_law_293 : decode b_A_law 293 = .ok (.iload_n 3, 1) := by decide +kernel
theorem d_A_law_294 : decode b_A_law 294 = .ok (.iconst 1, 1) := by decide +kernel
theorem d_A_law_295 : decode b_A_law 295 = .ok (.iadd, 1) := by decide +kernel
theorem d_A_law_296 : decode b_A_law 296 = .ok (.iaload, 1) := by decide +kernel
theorem d_A_law_297 : decode b_A_law 297 = .ok (.invokevirtual 54, 3) := by decide +kernel
theorem d_A_law_300 : decode b_A_law 300 = .ok (.aload_n 2, 1) := by decide +kernel
theorem d_A_law_301 : decode b_A_law 301 = .ok (.aload_n 0, 1) := by decide +kernel
theorem d_A_law_302 : decode b_A_law 302 = .ok (.iload_n 3, 1) := by decide +kernel
theorem d_A_law_303 : decode b_A_law 303 = .ok (.iconst 1, 1) := by decide +kernel
theorem d_A_law_304 : decode b_A_law 304 = .ok (.iadd, 1) := by decide +kernel
theorem d_A_law_305 : decode b_A_law 305 = .ok (.iaload, 1) := by decide +kernel
theorem d_A_law_306 : decode b_A_law 306 = .ok (.invokevirtual 57, 3) := by decide +kernel
theorem d_A_law_309 : decode b_A_law 309 = .ok (.if_icmp .eq 176, 3) := by decide +kernel
theorem d_A_law_312 : decode b_A_law 312 = .ok (.iconst 0, 1) := by decide +kernel
theorem d_A_law_313 : decode b_A_law 313 = .ok (.ireturn, 1) := by decide +kernel
theorem d_A_law_314 : decode b_A_law 314 = .ok (.aload_n 1, 1) := by decide +kernel
theorem d_A_law_315 : decode b_A_law 315 = .ok (.invokevirtual 58, 3) := by decide +kernel
theorem d_A_law_318 : decode b_A_law 318 = .ok (.aload_n 2, 1) := by decide +kernel
theorem d_A_law_319 : decode b_A_law 319 = .ok (.invokevirtual 61, 3) := by decide +kernel
theorem d_A_law_322 : decode b_A_law 322 = .ok (.if_icmp .eq 163, 3) := by decide +kernel
theorem d_A_law_325 : decode b_A_law 325 = .ok (.iconst 0, 1) := by decide +kernel
theorem d_A_law_326 : decode b_A_law 326 = .ok (.ireturn, 1) := by decide +kernel
theorem d_A_law_327 : decode b_A_law 327 = .ok (.aload_n 1, 1) := by decide +kernel
theorem d_A_law_328 : decode b_A_law 328 = .ok (.aload_n 0, 1) := by decide +kernel
theorem d_A_law_329 : decode b_A_law 329 = .ok (.iload_n 3, 1) := by decide +kernel
theorem d_A_law_330 : decode b_A_law 330 = .ok (.iconst 1, 1) := by decide +kernel
theorem d_A_law_331 : decode b_A_law 331 = .ok (.iadd, 1) := by decide +kernel
theorem d_A_law_332 : decode b_A_law 332 = .ok (.iaload, 1) := by decide +kernel
theorem d_A_law_333 : decode b_A_law 333 = .ok (.invokevirtual 62, 3) := by decide +kernel
theorem d_A_law_336 : decode b_A_law 336 = .ok (.aload_n 2, 1) := by decide +kernel
theorem d_A_law_337 : decode b_A_law 337 = .ok (.aload_n 0, 1) := by decide +kernel
theorem d_A_law_338 : decode b_A_law 338 = .ok (.iload_n 3, 1) := by decide +kernel
theorem d_A_law_339 : decode b_A_law 339 = .ok (.iconst 1, 1) := by decide +kernel
theorem d_A_law_340 : decode b_A_law 340 = .ok (.iadd, 1) := by decide +kernel
theorem d_A_law_341 : decode b_A_law 341 = .ok (.iaload, 1) := by decide +kernel
theorem d_A_law_342 : decode b_A_law 342 = .ok (.invokevirtual 65, 3) := by decide +kernel
theorem d_A_law_345 : decode b_A_law 345 = .ok (.if_icmp .eq 140, 3) := by decide +kernel
theorem d_A_law_348 : decode b_A_law 348 = .ok (.iconst 0, 1) := by decide +kernel
theorem d_A_law_349 : decode b_A_law 349 = .ok (.ireturn, 1) := by decide +kernel
theorem d_A_law_350 : decode b_A_law 350 = .ok (.aload_n 1, 1) := by decide +kernel
theorem d_A_law_351 : decode b_A_law 351 = .ok (.aload_n 0, 1) := by decide +kernel
theorem d_A_law_352 : decode b_A_law 352 = .ok (.iload_n 3, 1) := by decide +kernel
theorem d_A_law_353 : decode b_A_law 353 = .ok (.iconst 1, 1) := by decide +kernel
theorem d_A_law_354 : decode b_A_law 354 = .ok (.iadd, 1) := by decide +kernel
theorem d_A_law_355 : decode b_A_law 355 = .ok (.iaload, 1) := by decide +kernel
theorem d_A_law_356 : decode b_A_law 356 = .ok (.invokevirtual 66, 3) := by decide +kernel
theorem d_A_law_359 : decode b_A_law 359 = .ok (.aload_n 2, 1) := by decide +kernel
theorem d_A_law_360 : decode b_A_law 360 = .ok (.aload_n 0, 1) := by decide +kernel
theorem d_A_law_361 : decode b_A_law 361 = .ok (.iload_n 3, 1) := by decide +kernel
theorem d_A_law_362 : decode b_A_law 362 = .ok (.iconst 1, 1) := by decide +kernel
theorem d_A_law_363 : decode b_A_law 363 = .ok (.iadd, 1) := by decide +kernel
theorem d_A_law_364 : decode b_A_law 364 = .ok (.iaload, 1) := by decide +kernel
theorem d_A_law_365 : decode b_A_law 365 = .ok (.invokevirtual 69, 3) := by decide +kernel
theorem d_A_law_368 : decode b_A_law 368 = .ok (.if_icmp .eq 117, 3) := by decide +kernel
theorem d_A_law_371 : decode b_A_law 371 = .ok (.iconst 0, 1) := by decide +kernel
theorem d_A_law_372 : decode b_A_law 372 = .ok (.ireturn, 1) := by decide +kernel
theorem d_A_law_373 : decode b_A_law 373 = .ok (.aload_n 1, 1) := by decide +kernel
theorem d_A_law_374 : decode b_A_law 374 = .ok (.aload_n 0, 1) := by decide +kernel
theorem d_A_law_375 : decode b_A_law 375 = .ok (.iload_n 3, 1) := by decide +kernel
theorem d_A_law_376 : decode b_A_law 376 = .ok (.iconst 1, 1) := by decide +kernel
theorem d_A_law_377 : decode b_A_law 377 = .ok (.iadd, 1) := by decide +kernel
theorem d_A_law_378 : decode b_A_law 378 = .ok (.iaload, 1) := by decide +kernel
theorem d_A_law_379 : decode b_A_law 379 = .ok (.aload_n 0, 1) := by decide +kernel
theorem d_A_law_380 : decode b_A_law 380 = .ok (.iload_n 3, 1) := by decide +kernel
theorem d_A_law_381 : decode b_A_law 381 = .ok (.iconst 2, 1) := by decide +kernel
theorem d_A_law_382 : decode b_A_law 382 = .ok (.iadd, 1) := by decide +kernel
theorem d_A_law_383 : decode b_A_law 383 = .ok (.iaload, 1) := by decide +kernel
theorem d_A_law_384 : decode b_A_law 384 = .ok (.invokevirtual 70, 3) := by decide +kernel
theorem d_A_law_387 : decode b_A_law 387 = .ok (.aload_n 2, 1) := by decide +kernel
theorem d_A_law_388 : decode b_A_law 388 = .ok (.aload_n 0, 1) := by decide +kernel
theorem d_A_law_389 : decode b_A_law 389 = .ok (.iload_n 3, 1) := by decide +kernel
theorem d_A_law_390 : decode b_A_law 390 = .ok (.iconst 1, 1) := by decide +kernel
theorem d_A_law_391 : decode b_A_law 391 = .ok (.iadd, 1) := by decide +kernel
theorem d_A_law_392 : decode b_A_law 392 = .ok (.iaload, 1) := by decide +kernel
theorem d_A_law_393 : decode b_A_law 393 = .ok (.aload_n 0, 1) := by decide +kernel
theorem d_A_law_394 : decode b_A_law 394 = .ok (.iload_n 3, 1) := by decide +kernel
theorem d_A_law_395 : decode b_A_law 395 = .ok (.iconst 2, 1) := by decide +kernel
theorem d_A_law_396 : decode b_A_law 396 = .ok (.iadd, 1) := by decide +kernel
theorem d_A_law_397 : decode b_A_law 397 = .ok (.iaload, 1) := by decide +kernel
theorem d_A_law_398 : decode b_A_law 398 = .ok (.invokevirtual 73, 3) := by decide +kernel
theorem d_A_law_401 : decode b_A_law 401 = .ok (.if_icmp .eq 84, 3) := by decide +kernel
theorem d_A_law_404 : decode b_A_law 404 = .ok (.iconst 0, 1) := by decide +kernel
theorem d_A_law_405 : decode b_A_law 405 = .ok (.ireturn, 1) := by decide +kernel
theorem d_A_law_406 : decode b_A_law 406 = .ok (.aload_n 1, 1) := by decide +kernel
theorem d_A_law_407 : decode b_A_law 407 = .ok (.aload_n 0, 1) := by decide +kernel
theorem d_A_law_408 : decode b_A_law 408 = .ok (.iload_n 3, 1) := by decide +kernel
theorem d_A_law_409 : decode b_A_law 409 = .ok (.iconst 1, 1) := by decide +kernel
theorem d_A_law_410 : decode b_A_law 410 = .ok (.iadd, 1) := by decide +kernel
theorem d_A_law_411 : decode b_A_law 411 = .ok (.iaload, 1) := by decide +kernel
theorem d_A_law_412 : decode b_A_law 412 = .ok (.invokevirtual 74, 3) := by decide +kernel
theorem d_A_law_415 : decode b_A_law 415 = .ok (.aload_n 2, 1) := by decide +kernel
theorem d_A_law_416 : decode b_A_law 416 = .ok (.aload_n 0, 1) := by decide +kernel
theorem d_A_law_417 : decode b_A_law 417 = .ok (.iload_n 3, 1) := by decide +kernel
theorem d_A_law_418 : decode b_A_law 418 = .ok (.iconst 1, 1) := by decide +kernel
theorem d_A_law_419 : decode b_A_law 419 = .ok (.iadd, 1) := by decide +kernel
theorem d_A_law_420 : decode b_A_law 420 = .ok (.iaload, 1) := by decide +kernel
theorem d_A_law_421 : decode b_A_law 421 = .ok (.invokevirtual 77, 3) := by decide +kernel
theorem d_A_law_424 : decode b_A_law 424 = .ok (.if_icmp .eq 61, 3) := by decide +kernel
theorem d_A_law_427 : decode b_A_law 427 = .ok (.iconst 0, 1) := by decide +kernel
theorem d_A_law_428 : decode b_A_law 428 = .ok (.ireturn, 1) := by decide +kernel
theorem d_A_law_429 : decode b_A_law 429 = .ok (.aload_n 1, 1) := by decide +kernel
theorem d_A_law_430 : decode b_A_law 430 = .ok (.aload_n 0, 1) := by decide +kernel
theorem d_A_law_431 : decode b_A_law 431 = .ok (.iload_n 3, 1) := by decide +kernel
theorem d_A_law_432 : decode b_A_law 432 = .ok (.iconst 1, 1) := by decide +kernel
theorem d_A_law_433 : decode b_A_law 433 = .ok (.iadd, 1) := by decide +kernel
theorem d_A_law_434 : decode b_A_law 434 = .ok (.iaload, 1) := by decide +kernel
theorem d_A_law_435 : decode b_A_law 435 = .ok (.aload_n 0, 1) := by decide +kernel
theorem d_A_law_436 : decode b_A_law 436 = .ok (.iload_n 3, 1) := by decide +kernel
theorem d_A_law_437 : decode b_A_law 437 = .ok (.iconst 2, 1) := by decide +kernel
theorem d_A_law_438 : decode b_A_law 438 = .ok (.iadd, 1) := by decide +kernel
theorem d_A_law_439 : decode b_A_law 439 = .ok (.iaload, 1) := by decide +kernel
theorem d_A_law_440 : decode b_A_law 440 = .ok (.invokevirtual 78, 3) := by decide +kernel
theorem d_A_law_443 : decode b_A_law 443 = .ok (.aload_n 2, 1) := by decide +kernel
theorem d_A_law_444 : decode b_A_law 444 = .ok (.aload_n 0, 1) := by decide +kernel
theorem d_A_law_445 : decode b_A_law 445 = .ok (.iload_n 3, 1) := by decide +kernel
theorem d_A_law_446 : decode b_A_law 446 = .ok (.iconst 1, 1) := by decide +kernel
theorem d_A_law_447 : decode b_A_law 447 = .ok (.iadd, 1) := by decide +kernel
theorem d_A_law_448 : decode b_A_law 448 = .ok (.iaload, 1) := by decide +kernel
theorem d_A_law_449 : decode b_A_law 449 = .ok (.aload_n 0, 1) := by decide +kernel
theorem d_A_law_450 : decode b_A_law 450 = .ok (.iload_n 3, 1) := by decide +kernel
theorem d_A_law_451 : decode b_A_law 451 = .ok (.iconst 2, 1) := by decide +kernel
theorem d_A_law_452 : decode b_A_law 452 = .ok (.iadd, 1) := by decide +kernel
theorem d_A_law_453 : decode b_A_law 453 = .ok (.iaload, 1) := by decide +kernel
theorem d_A_law_454 : decode b_A_law 454 = .ok (.invokevirtual 81, 3) := by decide +kernel
theorem d_A_law_457 : decode b_A_law 457 = .ok (.if_icmp .eq 28, 3) := by decide +kernel
theorem d_A_law_460 : decode b_A_law 460 = .ok (.iconst 0, 1) := by decide +kernel
theorem d_A_law_461 : decode b_A_law 461 = .ok (.ireturn, 1) := by decide +kernel
theorem d_A_law_462 : decode b_A_law 462 = .ok (.aload_n 1, 1) := by decide +kernel
theorem d_A_law_463 : decode b_A_law 463 = .ok (.aload_n 0, 1) := by decide +kernel
theorem d_A_law_464 : decode b_A_law 464 = .ok (.iload_n 3, 1) := by decide +kernel
theorem d_A_law_465 : decode b_A_law 465 = .ok (.iconst 1, 1) := by decide +kernel
theorem d_A_law_466 : decode b_A_law 466 = .ok (.iadd, 1) := by decide +kernel
theorem d_A_law_467 : decode b_A_law 467 = .ok (.iaload, 1) := by decide +kernel
theorem d_A_law_468 : decode b_A_law 468 = .ok (.invokevirtual 82, 3) := by decide +kernel
theorem d_A_law_471 : decode b_A_law 471 = .ok (.aload_n 2, 1) := by decide +kernel
theorem d_A_law_472 : decode b_A_law 472 = .ok (.aload_n 0, 1) := by decide +kernel
theorem d_A_law_473 : decode b_A_law 473 = .ok (.iload_n 3, 1) := by decide +kernel
theorem d_A_law_474 : decode b_A_law 474 = .ok (.iconst 1, 1) := by decide +kernel
theorem d_A_law_475 : decode b_A_law 475 = .ok (.iadd, 1) := by decide +kernel
theorem d_A_law_476 : decode b_A_law 476 = .ok (.iaload, 1) := by decide +kernel
theorem d_A_law_477 : decode b_A_law 477 = .ok (.invokevirtual 85, 3) := by decide +kernel
theorem d_A_law_480 : decode b_A_law 480 = .ok (.if_icmp .eq 5, 3) := by decide +kernel
theorem d_A_law_483 : decode b_A_law 483 = .ok (.iconst 0, 1) := by decide +kernel
theorem d_A_law_484 : decode b_A_law 484 = .ok (.ireturn, 1) := by decide +kernel
theorem d_A_law_485 : decode b_A_law 485 = .ok (.iinc 3 3, 3) := by decide +kernel
theorem d_A_law_488 : decode b_A_law 488 = .ok (.goto (-470), 3) := by decide +kernel
theorem d_A_law_491 : decode b_A_law 491 = .ok (.iconst 1, 1) := by decide +kernel
theorem d_A_law_492 : decode b_A_law 492 = .ok (.ireturn, 1) := by decide +kernel
