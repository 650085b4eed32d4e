theorem dL_law_0 : decode cL_law 0 = .ok (.new 7, 3) := by decide +kernel
theorem dL_law_3 : decode cL_law 3 = .ok (.dup, 1) := by decide +kernel
theorem dL_law_4 : decode cL_law 4 = .ok (.invokespecial 9, 3) := by decide +kernel
theorem dL_law_7 : decode cL_law 7 = .ok (.astore_n 1, 1) := by decide +kernel
theorem dL_law_8 : decode cL_law 8 = .ok (.new 10, 3) := by decide +kernel
theorem dL_law_11 : decode cL_law 11 = .ok (.dup, 1) := by decide +kernel
theorem dL_law_12 : decode cL_law 12 = .ok (.invokespecial 12, 3) := by decide +kernel
theorem dL_law_15 : decode cL_law 15 = .ok (.astore_n 2, 1) := by decide +kernel
theorem dL_law_16 : decode cL_law 16 = .ok (.iconst 0, 1) := by decide +kernel
theorem dL_law_17 : decode cL_law 17 = .ok (.istore_n 3, 1) := by decide +kernel
theorem dL_law_18 : decode cL_law 18 = .ok (.iload_n 3, 1) := by decide +kernel
theorem dL_law_19 : decode cL_law 19 = .ok (.aload_n 0, 1) := by decide +kernel
theorem dL_law_20 : decode cL_law 20 = .ok (.arraylength, 1) := by decide +kernel
theorem dL_law_21 : decode cL_law 21 = .ok (.bipush 6, 2) := by decide +kernel
theorem dL_law_23 : decode cL_law 23 = .ok (.isub, 1) := by decide +kernel
theorem dL_law_24 : decode cL_law 24 = .ok (.if_icmp .gt 783, 3) := by decide +kernel
theorem dL_law_27 : decode cL_law 27 = .ok (.aload_n 0, 1) := by decide +kernel
theorem dL_law_28 : decode cL_law 28 = .ok (.iload_n 3, 1) := by decide +kernel
theorem dL_law_29 : decode cL_law 29 = .ok (.iaload, 1) := by decide +kernel
theorem dL_law_30 : decode cL_law 30 = .ok (.bipush 31, 2) := by decide +kernel
theorem dL_law_32 : decode cL_law 32 = .ok (.iand, 1) := by decide +kernel
theorem dL_law_33 : decode cL_law 33 = .ok (.tableswitch 768 0 18 #[91, 154, 177, 200, 213, 236, 269, 302, 355, 398, 431, 464, 517, 550, 573, 616, 649, 692, 725], 91) := by decide +kernel
theorem dL_law_124 : decode cL_law 124 = .ok (.aload_n 1, 1) := by decide +kernel
theorem dL_law_125 : decode cL_law 125 = .ok (.aload_n 0, 1) := by decide +kernel
theorem dL_law_126 : decode cL_law 126 = .ok (.iload_n 3, 1) := by decide +kernel
theorem dL_law_127 : decode cL_law 127 = .ok (.iconst 1, 1) := by decide +kernel
theorem dL_law_128 : decode cL_law 128 = .ok (.iadd, 1) := by decide +kernel
theorem dL_law_129 : decode cL_law 129 = .ok (.iaload, 1) := by decide +kernel
theorem dL_law_130 : decode cL_law 130 = .ok (.aload_n 0, 1) := by decide +kernel
theorem dL_law_131 : decode cL_law 131 = .ok (.iload_n 3, 1) := by decide +kernel
theorem dL_law_132 : decode cL_law 132 = .ok (.iconst 2, 1) := by decide +kernel
theorem dL_law_133 : decode cL_law 133 = .ok (.iadd, 1) := by decide +kernel
theorem dL_law_134 : decode cL_law 134 = .ok (.iaload, 1) := by decide +kernel
theorem dL_law_135 : decode cL_law 135 = .ok (.aload_n 0, 1) := by decide +kernel
theorem dL_law_136 : decode cL_law 136 = .ok (.iload_n 3, 1) := by decide +kernel
theorem dL_law_137 : decode cL_law 137 = .ok (.iconst 3, 1) := by decide +kernel
theorem dL_law_138 : decode cL_law 138 = .ok (.iadd, 1) := by decide +kernel
theorem dL_law_139 : decode cL_law 139 = .ok (.iaload, 1) := by decide +kernel
theorem dL_law_140 : decode cL_law 140 = .ok (.aload_n 0, 1) := by decide +kernel
theorem dL_law_141 : decode cL_law 141 = .ok (.iload_n 3, 1) := by decide +kernel
theorem dL_law_142 : decode cL_law 142 = .ok (.iconst 4, 1) := by decide +kernel
theorem dL_law_143 : decode cL_law 143 = .ok (.iadd, 1) := by decide +kernel
theorem dL_law_144 : decode cL_law 144 = .ok (.iaload, 1) := by decide +kernel
theorem dL_law_145 : decode cL_law 145 = .ok (.aload_n 0, 1) := by decide +kernel
theorem dL_law_146 : decode cL_law 146 = .ok (.iload_n 3, 1) := by decide +kernel
theorem dL_law_147 : decode cL_law 147 = .ok (.iconst 5, 1) := by decide +kernel
theorem dL_law_148 : decode cL_law 148 = .ok (.iadd, 1) := by decide +kernel
theorem dL_law_149 : decode cL_law 149 = .ok (.iaload, 1) := by decide +kernel
theorem dL_law_150 : decode cL_law 150 = .ok (.invokevirtual 13, 3) := by decide +kernel
theorem dL_law_153 : decode cL_law 153 = .ok (.aload_n 2, 1) := by decide +kernel
theorem dL_law_154 : decode cL_law 154 = .ok (.aload_n 0, 1) := by decide +kernel
theorem dL_law_155 : decode cL_law 155 = .ok (.iload_n 3, 1) := by decide +kernel
theorem dL_law_156 : decode cL_law 156 = .ok (.iconst 1, 1) := by decide +kernel
theorem dL_law_157 : decode cL_law 157 = .ok (.iadd, 1) := by decide +kernel
theorem dL_law_158 : decode cL_law 158 = .ok (.iaload, 1) := by decide +kernel
theorem dL_law_159 : decode cL_law 159 = .ok (.aload_n 0, 1) := by decide +kernel
theorem dL_law_160 : decode cL_law 160 = .ok (.iload_n 3, 1) := by decide +kernel
theorem dL_law_161 : decode cL_law 161 = .ok (.iconst 2, 1) := by decide +kernel
theorem dL_law_162 : decode cL_law 162 = .ok (.iadd, 1) := by decide +kernel
theorem dL_law_163 : decode cL_law 163 = .ok (.iaload, 1) := by decide +kernel
theorem dL_law_164 : decode cL_law 164 = .ok (.aload_n 0, 1) := by decide +kernel
theorem dL_law_165 : decode cL_law 165 = .ok (.iload_n 3, 1) := by decide +kernel
theorem dL_law_166 : decode cL_law 166 = .ok (.iconst 3, 1) := by decide +kernel
theorem dL_law_167 : decode cL_law 167 = .ok (.iadd, 1) := by decide +kernel
theorem dL_law_168 : decode cL_law 168 = .ok (.iaload, 1) := by decide +kernel
theorem dL_law_169 : decode cL_law 169 = .ok (.aload_n 0, 1) := by decide +kernel
theorem dL_law_170 : decode cL_law 170 = .ok (.iload_n 3, 1) := by decide +kernel
theorem dL_law_171 : decode cL_law 171 = .ok (.iconst 4, 1) := by decide +kernel
theorem dL_law_172 : decode cL_law 172 = .ok (.iadd, 1) := by decide +kernel
theorem dL_law_173 : decode cL_law 173 = .ok (.iaload, 1) := by decide +kernel
theorem dL_law_174 : decode cL_law 174 = .ok (.aload_n 0, 1) := by decide +kernel
theorem dL_law_175 : decode cL_law 175 = .ok (.iload_n 3, 1) := by decide +kernel
theorem dL_law_176 : decode cL_law 176 = .ok (.iconst 5, 1) := by decide +kernel
theorem dL_law_177 : decode cL_law 177 = .ok (.iadd, 1) := by decide +kernel
theorem dL_law_178 : decode cL_law 178 = .ok (.iaload, 1) := by decide +kernel
theorem dL_law_179 : decode cL_law 179 = .ok (.invokevirtual 17, 3) := by decide +kernel
theorem dL_law_182 : decode cL_law 182 = .ok (.if_icmp .eq 619, 3) := by decide +kernel
theorem dL_law_187 : decode cL_law 187 = .ok (.aload_n 1, 1) := by decide +kernel
theorem dL_law_188 : decode cL_law 188 = .ok (.aload_n 0, 1) := by decide +kernel
theorem dL_law_189 : decode cL_law 189 = .ok (.iload_n 3, 1) := by decide +kernel
theorem dL_law_190 : decode cL_law 190 = .ok (.iconst 1, 1) := by decide +kernel
theorem dL_law_191 : decode cL_law 191 = .ok (.iadd, 1) := by decide +kernel
theorem dL_law_192 : decode cL_law 192 = .ok (.iaload, 1) := by decide +kernel
theorem dL_law_193 : decode cL_law 193 = .ok (.invokevirtual 18, 3) := by decide +kernel
theorem dL_law_196 : decode cL_law 196 = .ok (.aload_n 2, 1) := by decide +kernel
theorem dL_law_197 : decode cL_law 197 = .ok (.aload_n 0, 1) := by decide +kernel
theorem dL_law_198 : decode cL_law 198 = .ok (.iload_n 3, 1) := by decide +kernel
theorem dL_law_199 : decode cL_law 199 = .ok (.iconst 1, 1) := by decide +kernel
theorem dL_law_200 : decode cL_law 200 = .ok (.iadd, 1) := by decide +kernel
theorem dL_law_201 : decode cL_law 201 = .ok (.iaload, 1) := by decide +kernel
theorem dL_law_202 : decode cL_law 202 = .ok (.invokevirtual 22, 3) := by decide +kernel
theorem dL_law_205 : decode cL_law 205 = .ok (.if_icmp .eq 596, 3) := by decide +kernel
theorem dL_law_210 : decode cL_law 210 = .ok (.aload_n 1, 1) := by decide +kernel
theorem dL_law_211 : decode cL_law 211 = .ok (.aload_n 0, 1) := by decide +kernel
theorem dL_law_212 : decode cL_law 212 = .ok (.iload_n 3, 1) := by decide +kernel
theorem dL_law_213 : decode cL_law 213 = .ok (.iconst 1, 1) := by decide +kernel
theorem dL_law_214 : decode cL_law 214 = .ok (.iadd, 1) := by decide +kernel
theorem dL_law_215 : decode cL_law 215 = .ok (.iaload, 1) := by decide +kernel
theorem dL_law_216 : decode cL_law 216 = .ok (.invokevirtual 23, 3) := by decide +kernel
theorem dL_law_219 : decode cL_law 219 = .ok (.aload_n 2, 1) := by decide +kernel
theorem dL_law_220 : decode cL_law 220 = .ok (.aload_n 0, 1) := by decide +kernel
theorem dL_law_221 : decode cL_law 221 = .ok (.iload_n 3, 1) := by decide +kernel
theorem dL_law_222 : decode cL_law 222 = .ok (.iconst 1, 1) := by decide +kernel
theorem dL_law_223 : decode cL_law 223 = .ok (.iadd, 1) := by decide +kernel
theorem dL_law_224 : decode cL_law 224 = .ok (.iaload, 1) := by decide +kernel
theorem dL_law_225 : decode cL_law 225 = .ok (.invokevirtual 27, 3) := by decide +kernel
theorem dL_law_228 : decode cL_law 228 = .ok (.if_icmp .eq 573, 3) := by decide +kernel
theorem dL_law_233 : decode cL_law 233 = .ok (.aload_n 1, 1) := by decide +kernel
theorem dL_law_234 : decode cL_law 234 = .ok (.invokevirtual 28, 3) := by decide +kernel
theorem dL_law_237 : decode cL_law 237 = .ok (.aload_n 2, 1) := by decide +kernel
theorem dL_law_238 : decode cL_law 238 = .ok (.invokevirtual 32, 3) := by decide +kernel
theorem dL_law_241 : decode cL_law 241 = .ok (.if_icmp .eq 560, 3) := by decide +kernel
theorem dL_law_246 : decode cL_law 246 = .ok (.aload_n 1, 1) := by decide +kernel
theorem dL_law_247 : decode cL_law 247 = .ok (.aload_n 0, 1) := by decide +kernel
theorem dL_law_248 : decode cL_law 248 = .ok (.iload_n 3, 1) := by decide +kernel
theorem dL_law_249 : decode cL_law 249 = .ok (.iconst 1, 1) := by decide +kernel
theorem dL_law_250 : decode cL_law 250 = .ok (.iadd, 1) := by decide +kernel
theorem dL_law_251 : decode cL_law 251 = .ok (.iaload, 1) := by decide +kernel
theorem dL_law_252 : decode cL_law 252 = .ok (.invokevirtual 33, 3) := by decide +kernel
theorem dL_law_255 : decode cL_law 255 = .ok (.aload_n 2, 1) := by decide +kernel
theorem dL_law_256 : decode cL_law 256 = .ok (.aload_n 0, 1) := by decide +kernel
theorem dL_law_257 : decode cL_law 257 = .ok (.iload_n 3, 1) := by decide +kernel
theorem dL_law_258 : decode cL_law 258 = .ok (.iconst 1, 1) := by decide +kernel
theorem dL_law_259 : decode cL_law 259 = .ok (.iadd, 1) := by decide +kernel
theorem dL_law_260 : decode cL_law 260 = .ok (.iaload, 1) := by decide +kernel
theorem dL_law_261 : decode cL_law 261 = .ok (.invokevirtual 36, 3) := by decide +kernel
theorem dL_law_264 : decode cL_law 264 = .ok (.if_icmp .eq 537, 3) := by decide +kernel
theorem dL_law_269 : decode cL_law 269 = .ok (.aload_n 1, 1) := by decide +kernel
theorem dL_law_270 : decode cL_law 270 = .ok (.aload_n 0, 1) := by decide +kernel
theorem dL_law_271 : decode cL_law 271 = .ok (.iload_n 3, 1) := by decide +kernel
theorem dL_law_272 : decode cL_law 272 = .ok (.iconst 1, 1) := by decide +kernel
theorem dL_law_273 : decode cL_law 273 = .ok (.iadd, 1) := by decide +kernel
theorem dL_law_274 : decode cL_law 274 = .ok (.iaload, 1) := by decide +kernel
theorem dL_law_275 : decode cL_law 275 = .ok (.aload_n 0, 1) := by decide +kernel
theorem dL_law_276 : decode cL_law 276 = .ok (.iload_n 3, 1) := by decide +kernel
theorem dL_law_277 : decode cL_law 277 = .ok (.iconst 2, 1) := by decide +kernel
theorem dL_law_278 : decode cL_law 278 = .ok (.iadd, 1) := by decide +kernel
theorem dL_law_279 : decode cL_law 279 = .ok (.iaload, 1) := by decide +kernel
theorem dL_law_280 : decode cL_law 280 = .ok (.invokevirtual 37, 3) := by decide +kernel
theorem dL_law_283 : decode cL_law 283 = .ok (.aload_n 2, 1) := by decide +kernel
theorem dL_law_284 : decode cL_law 284 = .ok (.aload_n 0, 1) := by decide +kernel
theorem dL_law_285 : decode cL_law 285 = .ok (.iload_n 3, 1) := by decide +kernel
theorem dL_law_286 : decode cL_law 286 = .ok (.iconst 1, 1) := by decide +kernel
theorem dL_law_287 : decode cL_law 287 = .ok (.iadd, 1) := by decide +kernel
theorem dL_law_288 : decode cL_law 288 = .ok (.iaload, 1) := by decide +kernel
theorem dL_law_289 : decode cL_law 289 = .ok (.aload_n 0, 1) := by decide +kernel
theorem dL_law_290 : decode cL_law 290 = .ok (.iload_n 3, 1) := by decide +kernel
theorem dL_law_291 : decode cL_law 291 = .ok (.iconst 2, 1) := by decide +kernel
theorem dL_law_292 : decode cL_law 292 = .ok (.iadd, 1) := by decide +kernel
theorem dL_law_293 : decode cL_law 293 = .ok (.iaload, 1) := by decide +kernel
theorem dL_law_294 : decode cL_law 294 = .ok (.invokevirtual 41, 3) := by decide +kernel
theorem dL_law_297 : decode cL_law 297 = .ok (.if_icmp .eq 504, 3) := by decide +kernel
theorem dL_law_302 : decode cL_law 302 = .ok (.aload_n 1, 1) := by decide +kernel
theorem dL_law_303 : decode cL_law 303 = .ok (.aload_n 0, 1) := by decide +kernel
theorem dL_law_304 : decode cL_law 304 = .ok (.iload_n 3, 1) := by decide +kernel
theorem dL_law_305 : decode cL_law 305 = .ok (.iconst 1, 1) := by decide +kernel
theorem dL_law_306 : decode cL_law 306 = .ok (.iadd, 1) := by decide +kernel
theorem dL_law_307 : decode cL_law 307 = .ok (.iaload, 1) := by decide +kernel
theorem dL_law_308 : decode cL_law 308 = .ok (.aload_n 0, 1) := by decide +kernel
theorem dL_law_309 : decode cL_law 309 = .ok (.iload_n 3, 1) := by decide +kernel
theorem dL_law_310 : decode cL_law 310 = .ok (.iconst 2, 1) := by decide +kernel
theorem dL_law_311 : decode cL_law 311 = .ok (.iadd, 1) := by decide +kernel
theorem dL_law_312 : decode cL_law 312 = .ok (.iaload, 1) := by decide +kernel
theorem dL_law_313 : decode cL_law 313 = .ok (.invokevirtual 42, 3) := by decide +kernel
theorem dL_law_316 : decode cL_law 316 = .ok (.aload_n 2, 1) := by decide +kernel
theorem dL_law_317 : decode cL_law 317 = .ok (.aload_n 0, 1) := by decide +kernel
theorem dL_law_318 : decode cL_law 318 = .ok (.iload_n 3, 1) := by decide +kernel
theorem dL_law_319 : decode cL_law 319 = .ok (.iconst 1, 1) := by decide +kernel
theorem dL_law_320 : decode cL_law 320 = .ok (.iadd, 1) := by decide +kernel
theorem dL_law_321 : decode cL_law 321 = .ok (.iaload, 1) := by decide +kernel
theorem dL_law_322 : decode cL_law 322 = .ok (.aload_n 0, 1) := by decide +kernel
theorem dL_law_323 : decode cL_law 323 = .ok (.iload_n 3, 1) := by decide +kernel
theorem dL_law_324 : decode cL_law 324 = .ok (.iconst 2, 1) := by decide +kernel
theorem dL_law_325 : decode cL_law 325 = .ok (.iadd, 1) := by decide +kernel
theorem dL_law_326 : decode cL_law 326 = .ok (.iaload, 1) := by decide +kernel
theorem dL_law_327 : decode cL_law 327 = .ok (.invokevirtual 45, 3) := by decide +kernel
theorem dL_law_330 : decode cL_law 330 = .ok (.if_icmp .eq 471, 3) := by decide +kernel
theorem dL_law_335 : decode cL_law 335 = .ok (.aload_n 1, 1) := by decide +kernel
theorem dL_law_336 : decode cL_law 336 = .ok (.aload_n 0, 1) := by decide +kernel
theorem dL_law_337 : decode cL_law 337 = .ok (.iload_n 3, 1) := by decide +kernel
theorem dL_law_338 : decode cL_law 338 = .ok (.iconst 1, 1) := by decide +kernel
theorem dL_law_339 : decode cL_law 339 = .ok (.iadd, 1) := by decide +kernel
theorem dL_law_340 : decode cL_law 340 = .ok (.iaload, 1) := by decide +kernel
theorem dL_law_341 : decode cL_law 341 = .ok (.aload_n 0, 1) := by decide +kernel
theorem dL_law_342 : decode cL_law 342 = .ok (.iload_n 3, 1) := by decide +kernel
theorem dL_law_343 : decode cL_law 343 = .ok (.iconst 2, 1) := by decide +kernel
theorem dL_law_344 : decode cL_law 344 = .ok (.iadd, 1) := by decide +kernel
theorem dL_law_345 : decode cL_law 345 = .ok (.iaload, 1) := by decide +kernel
theorem dL_law_346 : decode cL_law 346 = .ok (.aload_n 0, 1) := by decide +kernel
theorem dL_law_347 : decode cL_law 347 = .ok (.iload_n 3, 1) := by decide +kernel
theorem dL_law_348 : decode cL_law 348 = .ok (.iconst 3, 1) := by decide +kernel
theorem dL_law_349 : decode cL_law 349 = .ok (.iadd, 1) := by decide +kernel
theorem dL_law_350 : decode cL_law 350 = .ok (.iaload, 1) := by decide +kernel
theorem dL_law_351 : decode cL_law 351 = .ok (.aload_n 0, 1) := by decide +kernel
theorem dL_law_352 : decode cL_law 352 = .ok (.iload_n 3, 1) := by decide +kernel
theorem dL_law_353 : decode cL_law 353 = .ok (.iconst 4, 1) := by decide +kernel
theorem dL_law_354 : decode cL_law 354 = .ok (.iadd, 1) := by decide +kernel
theorem dL_law_355 : decode cL_law 355 = .ok (.iaload, 1) := by decide +kernel
theorem dL_law_356 : decode cL_law 356 = .ok (.invokevirtual 46, 3) := by decide +kernel
theorem dL_law_359 : decode cL_law 359 = .ok (.aload_n 2, 1) := by decide +kernel
theorem dL_law_360 : decode cL_law 360 = .ok (.aload_n 0, 1) := by decide +kernel
theorem dL_law_361 : decode cL_law 361 = .ok (.iload_n 3, 1) := by decide +kernel
theorem dL_law_362 : decode cL_law 362 = .ok (.iconst 1, 1) := by decide +kernel
theorem dL_law_363 : decode cL_law 363 = .ok (.iadd, 1) := by decide +kernel
theorem dL_law_364 : decode cL_law 364 = .ok (.iaload, 1) := by decide +kernel
theorem dL_law_365 : decode cL_law 365 = .ok (.aload_n 0, 1) := by decide +kernel
theorem dL_law_366 : decode cL_law 366 = .ok (.iload_n 3, 1) := by decide +kernel
theorem dL_law_367 : decode cL_law 367 = .ok (.iconst 2, 1) := by decide +kernel
theorem dL_law_368 : decode cL_law 368 = .ok (.iadd, 1) := by decide +kernel
theorem dL_law_369 : decode cL_law 369 = .ok (.iaload, 1) := by decide +kernel
theorem dL_law_370 : decode cL_law 370 = .ok (.aload_n 0, 1) := by decide +kernel
theorem dL_law_371 : decode cL_law 371 = .ok (.iload_n 3, 1) := by decide +kernel
theorem dL_law_372 : decode cL_law 372 = .ok (.iconst 3, 1) := by decide +kernel
theorem dL_law_373 : decode cL_law 373 = .ok (.iadd, 1) := by decide +kernel
theorem dL_law_374 : decode cL_law 374 = .ok (.iaload, 1) := by decide +kernel
theorem dL_law_375 : decode cL_law 375 = .ok (.aload_n 0, 1) := by decide +kernel
theorem dL_law_376 : decode cL_law 376 = .ok (.iload_n 3, 1) := by decide +kernel
theorem dL_law_377 : decode cL_law 377 = .ok (.iconst 4, 1) := by decide +kernel
theorem dL_law_378 : decode cL_law 378 = .ok (.iadd, 1) := by decide +kernel
theorem dL_law_379 : decode cL_law 379 = .ok (.iaload, 1) := by decide +kernel
theorem dL_law_380 : decode cL_law 380 = .ok (.invokevirtual 50, 3) := by decide +kernel
theorem dL_law_383 : decode cL_law 383 = .ok (.if_icmp .eq 418, 3) := by decide +kernel
theorem dL_law_388 : decode cL_law 388 = .ok (.aload_n 1, 1) := by decide +kernel
theorem dL_law_389 : decode cL_law 389 = .ok (.aload_n 0, 1) := by decide +kernel
theorem dL_law_390 : decode cL_law 390 = .ok (.iload_n 3, 1) := by decide +kernel
theorem dL_law_391 : decode cL_law 391 = .ok (.iconst 1, 1) := by decide +kernel
theorem dL_law_392 : decode cL_law 392 = .ok (.iadd, 1) := by decide +kernel
theorem dL_law_393 : decode cL_law 393 = .ok (.iaload, 1) := by decide +kernel
theorem dL_law_394 : decode cL_law 394 = .ok (.aload_n 0, 1) := by decide +kernel
theorem dL_law_395 : decode cL_law 395 = .ok (.iload_n 3, 1) := by decide +kernel
theorem dL_law_396 : decode cL_law 396 = .ok (.iconst 2, 1) := by decide +kernel
theorem dL_law_397 : decode cL_law 397 = .ok (.iadd, 1) := by decide +kernel
theorem dL_law_398 : decode cL_law 398 = .ok (.iaload, 1) := by decide +kernel
theorem dL_law_399 : decode cL_law 399 = .ok (.aload_n 0, 1) := by decide +kernel
theorem dL_law_400 : decode cL_law 400 = .ok (.iload_n 3, 1) := by decide +kernel
theorem dL_law_401 : decode cL_law 401 = .ok (.iconst 3, 1) := by decide +kernel
theorem dL_law_402 : decode cL_law 402 = .ok (.iadd, 1) := by decide +kernel
theorem dL_law_403 : decode cL_law 403 = .ok (.iaload, 1) := by decide +kernel
theorem dL_law_404 : decode cL_law 404 = .ok (.invokevirtual 51, 3) := by decide +kernel
theorem dL_law_407 : decode cL_law 407 = .ok (.aload_n 2, 1) := by decide +kernel
theorem dL_law_408 : decode cL_law 408 = .ok (.aload_n 0, 1) := by decide +kernel
theorem dL_law_409 : decode cL_law 409 = .ok (.iload_n 3, 1) := by decide +kernel
theorem dL_law_410 : decode cL_law 410 = .ok (.iconst 1, 1) := by decide +kernel
theorem dL_law_411 : decode cL_law 411 = .ok (.iadd, 1) := by decide +kernel
theorem dL_law_412 : decode cL_law 412 = .ok (.iaload, 1) := by decide +kernel
theorem dL_law_413 : decode cL_law 413 = .ok (.aload_n 0, 1) := by decide +kernel
theorem dL_law_414 : decode cL_law 414 = .ok (.iload_n 3, 1) := by decide +kernel
theorem dL_law_415 : decode cL_law 415 = .ok (.iconst 2, 1) := by decide +kernel
theorem dL_law_416 : decode cL_law 416 = .ok (.iadd, 1) := by decide +kernel
theorem dL_law_417 : decode cL_law 417 = .ok (.iaload, 1) := by decide +kernel
theorem dL_law_418 : decode cL_law 418 = .ok (.aload_n 0, 1) := by decide +kernel
theorem dL_law_419 : decode cL_law 419 = .ok (.iload_n 3, 1) := by decide +kernel
theorem dL_law_420 : decode cL_law 420 = .ok (.iconst 3, 1) := by decide +kernel
theorem dL_law_421 : decode cL_law 421 = .ok (.iadd, 1) := by decide +kernel
theorem dL_law_422 : decode cL_law 422 = .ok (.iaload, 1) := by decide +kernel
theorem dL_law_423 : decode cL_law 423 = .ok (.invokevirtual 55, 3) := by decide +kernel
theorem dL_law_426 : decode cL_law 426 = .ok (.if_icmp .eq 375, 3) := by decide +kernel
theorem dL_law_431 : decode cL_law 431 = .ok (.aload_n 1, 1) := by decide +kernel
theorem dL_law_432 : decode cL_law 432 = .ok (.aload_n 0, 1) := by decide +kernel
theorem dL_law_433 : decode cL_law 433 = .ok (.iload_n 3, 1) := by decide +kernel
theorem dL_law_434 : decode cL_law 434 = .ok (.iconst 1, 1) := by decide +kernel
theorem dL_law_435 : decode cL_law 435 = .ok (.iadd, 1) := by decide +kernel
theorem dL_law_436 : decode cL_law 436 = .ok (.iaload, 1) := by decide +kernel
theorem dL_law_437 : decode cL_law 437 = .ok (.aload_n 0, 1) := by decide +kernel
theorem dL_law_438 : decode cL_law 438 = .ok (.iload_n 3, 1) := by decide +kernel
theorem dL_law_439 : decode cL_law 439 = .ok (.iconst 2, 1) := by decide +kernel
theorem dL_law_440 : decode cL_law 440 = .ok (.iadd, 1) := by decide +kernel
theorem dL_law_441 : decode cL_law 441 = .ok (.iaload, 1) := by decide +kernel
theorem dL_law_442 : decode cL_law 442 = .ok (.invokevirtual 56, 3) := by decide +kernel
theorem dL_law_445 : decode cL_law 445 = .ok (.aload_n 2, 1) := by decide +kernel
theorem dL_law_446 : decode cL_law 446 = .ok (.aload_n 0, 1) := by decide +kernel
theorem dL_law_447 : decode cL_law 447 = .ok (.iload_n 3, 1) := by decide +kernel
theorem dL_law_448 : decode cL_law 448 = .ok (.iconst 1, 1) := by decide +kernel
theorem dL_law_449 : decode cL_law 449 = .ok (.iadd, 1) := by decide +kernel
theorem dL_law_450 : decode cL_law 450 = .ok (.iaload, 1) := by decide +kernel
theorem dL_law_451 : decode cL_law 451 = .ok (.aload_n 0, 1) := by decide +kernel
theorem dL_law_452 : decode cL_law 452 = .ok (.iload_n 3, 1) := by decide +kernel
theorem dL_law_453 : decode cL_law 453 = .ok (.iconst 2, 1) := by decide +kernel
theorem dL_law_454 : decode cL_law 454 = .ok (.iadd, 1) := by decide +kernel
theorem dL_law_455 : decode cL_law 455 = .ok (.iaload, 1) := by decide +kernel
theorem dL_law_456 : decode cL_law 456 = .ok (.invokevirtual 59, 3) := by decide +kernel
theorem dL_law_459 : decode cL_law 459 = .ok (.if_icmp .eq 342, 3) := by decide +kernel
theorem dL_law_464 : decode cL_law 464 = .ok (.aload_n 1, 1) := by decide +kernel
theorem dL_law_465 : decode cL_law 465 = .ok (.aload_n 0, 1) := by decide +kernel
theorem dL_law_466 : decode cL_law 466 = .ok (.iload_n 3, 1) := by decide +kernel
theorem dL_law_467 : decode cL_law 467 = .ok (.iconst 1, 1) := by decide +kernel
theorem dL_law_468 : decode cL_law 468 = .ok (.iadd, 1) := by decide +kernel
theorem dL_law_469 : decode cL_law 469 = .ok (.iaload, 1) := by decide +kernel
theorem dL_law_470 : decode cL_law 470 = .ok (.aload_n 0, 1) := by decide +kernel
theorem dL_law_471 : decode cL_law 471 = .ok (.iload_n 3, 1) := by decide +kernel
theorem dL_law_472 : decode cL_law 472 = .ok (.iconst 2, 1) := by decide +kernel
theorem dL_law_473 : decode cL_law 473 = .ok (.iadd, 1) := by decide +kernel
theorem dL_law_474 : decode cL_law 474 = .ok (.iaload, 1) := by decide +kernel
theorem dL_law_475 : decode cL_law 475 = .ok (.invokevirtual 60, 3) := by decide +kernel
theorem dL_law_478 : decode cL_law 478 = .ok (.aload_n 2, 1) := by decide +kernel
theorem dL_law_479 : decode cL_law 479 = .ok (.aload_n 0, 1) := by decide +kernel
theorem dL_law_480 : decode cL_law 480 = .ok (.iload_n 3, 1) := by decide +kernel
theorem dL_law_481 : decode cL_law 481 = .ok (.iconst 1, 1) := by decide +kernel
theorem dL_law_482 : decode cL_law 482 = .ok (.iadd, 1) := by decide +kernel
theorem dL_law_483 : decode cL_law 483 = .ok (.iaload, 1) := by decide +kernel
theorem dL_law_484 : decode cL_law 484 = .ok (.aload_n 0, 1) := by decide +kernel
theorem dL_law_485 : decode cL_law 485 = .ok (.iload_n 3, 1) := by decide +kernel
theorem dL_law_486 : decode cL_law 486 = .ok (.iconst 2, 1) := by decide +kernel
theorem dL_law_487 : decode cL_law 487 = .ok (.iadd, 1) := by decide +kernel
theorem dL_law_488 : decode cL_law 488 = .ok (.iaload, 1) := by decide +kernel
theorem dL_law_489 : decode cL_law 489 = .ok (.invokevirtual 63, 3) := by decide +kernel
theorem dL_law_492 : decode cL_law 492 = .ok (.if_icmp .eq 309, 3) := by decide +kernel
theorem dL_law_497 : decode cL_law 497 = .ok (.aload_n 1, 1) := by decide +kernel
theorem dL_law_498 : decode cL_law 498 = .ok (.aload_n 0, 1) := by decide +kernel
theorem dL_law_499 : decode cL_law 499 = .ok (.iload_n 3, 1) := by decide +kernel
theorem dL_law_500 : decode cL_law 500 = .ok (.iconst 1, 1) := by decide +kernel
theorem dL_law_501 : decode cL_law 501 = .ok (.iadd, 1) := by decide +kernel
theorem dL_law_502 : decode cL_law 502 = .ok (.iaload, 1) := by decide +kernel
theorem dL_law_503 : decode cL_law 503 = .ok (.aload_n 0, 1) := by decide +kernel
theorem dL_law_504 : decode cL_law 504 = .ok (.iload_n 3, 1) := by decide +kernel
theorem dL_law_505 : decode cL_law 505 = .ok (.iconst 2, 1) := by decide +kernel
theorem dL_law_506 : decode cL_law 506 = .ok (.iadd, 1) := by decide +kernel
theorem dL_law_507 : decode cL_law 507 = .ok (.iaload, 1) := by decide +kernel
theorem dL_law_508 : decode cL_law 508 = .ok (.aload_n 0, 1) := by decide +kernel
theorem dL_law_509 : decode cL_law 509 = .ok (.iload_n 3, 1) := by decide +kernel
theorem dL_law_510 : decode cL_law 510 = .ok (.iconst 3, 1) := by decide +kernel
theorem dL_law_511 : decode cL_law 511 = .ok (.iadd, 1) := by decide +kernel
theorem dL_law_512 : decode cL_law 512 = .ok (.iaload, 1) := by decide +kernel
theorem dL_law_513 : decode cL_law 513 = .ok (.aload_n 0, 1) := by decide +kernel
theorem dL_law_514 : decode cL_law 514 = .ok (.iload_n 3, 1) := by decide +kernel
theorem dL_law_515 : decode cL_law 515 = .ok (.iconst 4, 1) := by decide +kernel
theorem dL_law_516 : decode cL_law 516 = .ok (.iadd, 1) := by decide +kernel
theorem dL_law_517 : decode cL_law 517 = .ok (.iaload, 1) := by decide +kernel
theorem dL_law_518 : decode cL_law 518 = .ok (.invokevirtual 64, 3) := by decide +kernel
theorem dL_law_521 : decode cL_law 521 = .ok (.aload_n 2, 1) := by decide +kernel
theorem dL_law_522 : decode cL_law 522 = .ok (.aload_n 0, 1) := by decide +kernel
theorem dL_law_523 : decode cL_law 523 = .ok (.iload_n 3, 1) := by decide +kernel
theorem dL_law_524 : decode cL_law 524 = .ok (.iconst 1, 1) := by decide +kernel
theorem dL_law_525 : decode cL_law 525 = .ok (.iadd, 1) := by decide +kernel
theorem dL_law_526 : decode cL_law 526 = .ok (.iaload, 1) := by decide +kernel
theorem dL_law_527 : decode cL_law 527 = .ok (.aload_n 0, 1) := by decide +kernel
theorem dL_law_528 : decode cL_law 528 = .ok (.iload_n 3, 1) := by decide +kernel
theorem dL_law_529 : decode cL_law 529 = .ok (.iconst 2, 1) := by decide +kernel
theorem dL_law_530 : decode cL_law 530 = .ok (.iadd, 1) := by decide +kernel
theorem dL_law_531 : decode cL_law 531 = .ok (.iaload, 1) := by decide +kernel
theorem dL_law_532 : decode cL_law 532 = .ok (.aload_n 0, 1) := by decide +kernel
theorem dL_law_533 : decode cL_law 533 = .ok (.iload_n 3, 1) := by decide +kernel
theorem dL_law_534 : decode cL_law 534 = .ok (.iconst 3, 1) := by decide +kernel
theorem dL_law_535 : decode cL_law 535 = .ok (.iadd, 1) := by decide +kernel
theorem dL_law_536 : decode cL_law 536 = .ok (.iaload, 1) := by decide +kernel
theorem dL_law_537 : decode cL_law 537 = .ok (.aload_n 0, 1) := by decide +kernel
theorem dL_law_538 : decode cL_law 538 = .ok (.iload_n 3, 1) := by decide +kernel
theorem dL_law_539 : decode cL_law 539 = .ok (.iconst 4, 1) := by decide +kernel
theorem dL_law_540 : decode cL_law 540 = .ok (.iadd, 1) := by decide +kernel
theorem dL_law_541 : decode cL_law 541 = .ok (.iaload, 1) := by decide +kernel
theorem dL_law_542 : decode cL_law 542 = .ok (.invokevirtual 68, 3) := by decide +kernel
theorem dL_law_545 : decode cL_law 545 = .ok (.if_icmp .eq 256, 3) := by decide +kernel
theorem dL_law_550 : decode cL_law 550 = .ok (.aload_n 1, 1) := by decide +kernel
theorem dL_law_551 : decode cL_law 551 = .ok (.aload_n 0, 1) := by decide +kernel
theorem dL_law_552 : decode cL_law 552 = .ok (.iload_n 3, 1) := by decide +kernel
theorem dL_law_553 : decode cL_law 553 = .ok (.iconst 1, 1) := by decide +kernel
theorem dL_law_554 : decode cL_law 554 = .ok (.iadd, 1) := by decide +kernel
theorem dL_law_555 : decode cL_law 555 = .ok (.iaload, 1) := by decide +kernel
theorem dL_law_556 : decode cL_law 556 = .ok (.aload_n 0, 1) := by decide +kernel
theorem dL_law_557 : decode cL_law 557 = .ok (.iload_n 3, 1) := by decide +kernel
theorem dL_law_558 : decode cL_law 558 = .ok (.iconst 2, 1) := by decide +kernel
theorem dL_law_559 : decode cL_law 559 = .ok (.iadd, 1) := by decide +kernel
theorem dL_law_560 : decode cL_law 560 = .ok (.iaload, 1) := by decide +kernel
theorem dL_law_561 : decode cL_law 561 = .ok (.invokevirtual 69, 3) := by decide +kernel
theorem dL_law_564 : decode cL_law 564 = .ok (.aload_n 2, 1) := by decide +kernel
theorem dL_law_565 : decode cL_law 565 = .ok (.aload_n 0, 1) := by decide +kernel
theorem dL_law_566 : decode cL_law 566 = .ok (.iload_n 3, 1) := by decide +kernel
theorem dL_law_567 : decode cL_law 567 = .ok (.iconst 1, 1) := by decide +kernel
theorem dL_law_568 : decode cL_law 568 = .ok (.iadd, 1) := by decide +kernel
theorem dL_law_569 : decode cL_law 569 = .ok (.iaload, 1) := by decide +kernel
theorem dL_law_570 : decode cL_law 570 = .ok (.aload_n 0, 1) := by decide +kernel
theorem dL_law_571 : decode cL_law 571 = .ok (.iload_n 3, 1) := by decide +kernel
theorem dL_law_572 : decode cL_law 572 = .ok (.iconst 2, 1) := by decide +kernel
theorem dL_law_573 : decode cL_law 573 = .ok (.iadd, 1) := by decide +kernel
theorem dL_law_574 : decode cL_law 574 = .ok (.iaload, 1) := by decide +kernel
theorem dL_law_575 : decode cL_law 575 = .ok (.invokevirtual 72, 3) := by decide +kernel
theorem dL_law_578 : decode cL_law 578 = .ok (.if_icmp .eq 223, 3) := by decide +kernel
theorem dL_law_583 : decode cL_law 583 = .ok (.aload_n 1, 1) := by decide +kernel
theorem dL_law_584 : decode cL_law 584 = .ok (.aload_n 0, 1) := by decide +kernel
theorem dL_law_585 : decode cL_law 585 = .ok (.iload_n 3, 1) := by decide +kernel
theorem dL_law_586 : decode cL_law 586 = .ok (.iconst 1, 1) := by decide +kernel
theorem dL_law_587 : decode cL_law 587 = .ok (.iadd, 1) := by decide +kernel
theorem dL_law_588 : decode cL_law 588 = .ok (.iaload, 1) := by decide +kernel
theorem dL_law_589 : decode cL_law 589 = .ok (.invokevirtual 73, 3) := by decide +kernel
theorem dL_law_592 : decode cL_law 592 = .ok (.aload_n 2, 1) := by decide +kernel
theorem dL_law_593 : decode cL_law 593 = .ok (.aload_n 0, 1) := by decide +kernel
theorem dL_law_594 : decode cL_law 594 = .ok (.iload_n 3, 1) := by decide +kernel
theorem dL_law_595 : decode cL_law 595 = .ok (.iconst 1, 1) := by decide +kernel
theorem dL_law_596 : decode cL_law 596 = .ok (.iadd, 1) := by decide +kernel
theorem dL_law_597 : decode cL_law 597 = .ok (.iaload, 1) := by decide +kernel
theorem dL_law_598 : decode cL_law 598 = .ok (.invokevirtual 76, 3) := by decide +kernel
theorem dL_law_601 : decode cL_law 601 = .ok (.if_icmp .eq 200, 3) := by decide +kernel
theorem dL_law_606 : decode cL_law 606 = .ok (.aload_n 1, 1) := by decide +kernel
theorem dL_law_607 : decode cL_law 607 = .ok (.aload_n 0, 1) := by decide +kernel
theorem dL_law_608 : decode cL_law 608 = .ok (.iload_n 3, 1) := by decide +kernel
theorem dL_law_609 : decode cL_law 609 = .ok (.iconst 1, 1) := by decide +kernel
theorem dL_law_610 : decode cL_law 610 = .ok (.iadd, 1) := by decide +kernel
theorem dL_law_611 : decode cL_law 611 = .ok (.iaload, 1) := by decide +kernel
theorem dL_law_612 : decode cL_law 612 = .ok (.aload_n 0, 1) := by decide +kernel
theorem dL_law_613 : decode cL_law 613 = .ok (.iload_n 3, 1) := by decide +kernel
theorem dL_law_614 : decode cL_law 614 = .ok (.iconst 2, 1) := by decide +kernel
theorem dL_law_615 : decode cL_law 615 = .ok (.iadd, 1) := by decide +kernel
theorem dL_law_616 : decode cL_law 616 = .ok (.iaload, 1) := by decide +kernel
theorem dL_law_617 : decode cL_law 617 = .ok (.aload_n 0, 1) := by decide +kernel
theorem dL_law_618 : decode cL_law 618 = .ok (.iload_n 3, 1) := by decide +kernel
theorem dL_law_619 : decode cL_law 619 = .ok (.iconst 3, 1) := by decide +kernel
theorem dL_law_620 : decode cL_law 620 = .ok (.iadd, 1) := by decide +kernel
theorem dL_law_621 : decode cL_law 621 = .ok (.iaload, 1) := by decide +kernel
theorem dL_law_622 : decode cL_law 622 = .ok (.invokevirtual 77, 3) := by decide +kernel
theorem dL_law_625 : decode cL_law 625 = .ok (.aload_n 2, 1) := by decide +kernel
theorem dL_law_626 : decode cL_law 626 = .ok (.aload_n 0, 1) := by decide +kernel
theorem dL_law_627 : decode cL_law 627 = .ok (.iload_n 3, 1) := by decide +kernel
theorem dL_law_628 : decode cL_law 628 = .ok (.iconst 1, 1) := by decide +kernel
theorem dL_law_629 : decode cL_law 629 = .ok (.iadd, 1) := by decide +kernel
theorem dL_law_630 : decode cL_law 630 = .ok (.iaload, 1) := by decide +kernel
theorem dL_law_631 : decode cL_law 631 = .ok (.aload_n 0, 1) := by decide +kernel
theorem dL_law_632 : decode cL_law 632 = .ok (.iload_n 3, 1) := by decide +kernel
theorem dL_law_633 : decode cL_law 633 = .ok (.iconst 2, 1) := by decide +kernel
theorem dL_law_634 : decode cL_law 634 = .ok (.iadd, 1) := by decide +kernel
theorem dL_law_635 : decode cL_law 635 = .ok (.iaload, 1) := by decide +kernel
theorem dL_law_636 : decode cL_law 636 = .ok (.aload_n 0, 1) := by decide +kernel
theorem dL_law_637 : decode cL_law 637 = .ok (.iload_n 3, 1) := by decide +kernel
theorem dL_law_638 : decode cL_law 638 = .ok (.iconst 3, 1) := by decide +kernel
theorem dL_law_639 : decode cL_law 639 = .ok (.iadd, 1) := by decide +kernel
theorem dL_law_640 : decode cL_law 640 = .ok (.iaload, 1) := by decide +kernel
theorem dL_law_641 : decode cL_law 641 = .ok (.invokevirtual 80, 3) := by decide +kernel
theorem dL_law_644 : decode cL_law 644 = .ok (.if_icmp .eq 157, 3) := by decide +kernel
theorem dL_law_649 : decode cL_law 649 = .ok (.aload_n 1, 1) := by decide +kernel
theorem dL_law_650 : decode cL_law 650 = .ok (.aload_n 0, 1) := by decide +kernel
theorem dL_law_651 : decode cL_law 651 = .ok (.iload_n 3, 1) := by decide +kernel
theorem dL_law_652 : decode cL_law 652 = .ok (.iconst 1, 1) := by decide +kernel
theorem dL_law_653 : decode cL_law 653 = .ok (.iadd, 1) := by decide +kernel
theorem dL_law_654 : decode cL_law 654 = .ok (.iaload, 1) := by decide +kernel
theorem dL_law_655 : decode cL_law 655 = .ok (.aload_n 0, 1) := by decide +kernel
theorem dL_law_656 : decode cL_law 656 = .ok (.iload_n 3, 1) := by decide +kernel
theorem dL_law_657 : decode cL_law 657 = .ok (.iconst 2, 1) := by decide +kernel
theorem dL_law_658 : decode cL_law 658 = .ok (.iadd, 1) := by decide +kernel
theorem dL_law_659 : decode cL_law 659 = .ok (.iaload, 1) := by decide +kernel
theorem dL_law_660 : decode cL_law 660 = .ok (.invokevirtual 81, 3) := by decide +kernel
theorem dL_law_663 : decode cL_law 663 = .ok (.aload_n 2, 1) := by decide +kernel
theorem dL_law_664 : decode cL_law 664 = .ok (.aload_n 0, 1) := by decide +kernel
theorem dL_law_665 : decode cL_law 665 = .ok (.iload_n 3, 1) := by decide +kernel
theorem dL_law_666 : decode cL_law 666 = .ok (.iconst 1, 1) := by decide +kernel
theorem dL_law_667 : decode cL_law 667 = .ok (.iadd, 1) := by decide +kernel
theorem dL_law_668 : decode cL_law 668 = .ok (.iaload, 1) := by decide +kernel
theorem dL_law_669 : decode cL_law 669 = .ok (.aload_n 0, 1) := by decide +kernel
theorem dL_law_670 : decode cL_law 670 = .ok (.iload_n 3, 1) := by decide +kernel
theorem dL_law_671 : decode cL_law 671 = .ok (.iconst 2, 1) := by decide +kernel
theorem dL_law_672 : decode cL_law 672 = .ok (.iadd, 1) := by decide +kernel
theorem dL_law_673 : decode cL_law 673 = .ok (.iaload, 1) := by decide +kernel
theorem dL_law_674 : decode cL_law 674 = .ok (.invokevirtual 84, 3) := by decide +kernel
theorem dL_law_677 : decode cL_law 677 = .ok (.if_icmp .eq 124, 3) := by decide +kernel
theorem dL_law_682 : decode cL_law 682 = .ok (.aload_n 1, 1) := by decide +kernel
theorem dL_law_683 : decode cL_law 683 = .ok (.aload_n 0, 1) := by decide +kernel
theorem dL_law_684 : decode cL_law 684 = .ok (.iload_n 3, 1) := by decide +kernel
theorem dL_law_685 : decode cL_law 685 = .ok (.iconst 1, 1) := by decide +kernel
theorem dL_law_686 : decode cL_law 686 = .ok (.iadd, 1) := by decide +kernel
theorem dL_law_687 : decode cL_law 687 = .ok (.iaload, 1) := by decide +kernel
theorem dL_law_688 : decode cL_law 688 = .ok (.aload_n 0, 1) := by decide +kernel
theorem dL_law_689 : decode cL_law 689 = .ok (.iload_n 3, 1) := by decide +kernel
theorem dL_law_690 : decode cL_law 690 = .ok (.iconst 2, 1) := by decide +kernel
theorem dL_law_691 : decode cL_law 691 = .ok (.iadd, 1) := by decide +kernel
theorem dL_law_692 : decode cL_law 692 = .ok (.iaload, 1) := by decide +kernel
theorem dL_law_693 : decode cL_law 693 = .ok (.aload_n 0, 1) := by decide +kernel
theorem dL_law_694 : decode cL_law 694 = .ok (.iload_n 3, 1) := by decide +kernel
theorem dL_law_695 : decode cL_law 695 = .ok (.iconst 3, 1) := by decide +kernel
theorem dL_law_696 : decode cL_law 696 = .ok (.iadd, 1) := by decide +kernel
theorem dL_law_697 : decode cL_law 697 = .ok (.iaload, 1) := by decide +kernel
theorem dL_law_698 : decode cL_law 698 = .ok (.invokevirtual 85, 3) := by decide +kernel
theorem dL_law_701 : decode cL_law 701 = .ok (.aload_n 2, 1) := by decide +kernel
theorem dL_law_702 : decode cL_law 702 = .ok (.aload_n 0, 1) := by decide +kernel
theorem dL_law_703 : decode cL_law 703 = .ok (.iload_n 3, 1) := by decide +kernel
theorem dL_law_704 : decode cL_law 704 = .ok (.iconst 1, 1) := by decide +kernel
theorem dL_law_705 : decode cL_law 705 = .ok (.iadd, 1) := by decide +kernel
theorem dL_law_706 : decode cL_law 706 = .ok (.iaload, 1) := by decide +kernel
theorem dL_law_707 : decode cL_law 707 = .ok (.aload_n 0, 1) := by decide +kernel
theorem dL_law_708 : decode cL_law 708 = .ok (.iload_n 3, 1) := by decide +kernel
theorem dL_law_709 : decode cL_law 709 = .ok (.iconst 2, 1) := by decide +kernel
theorem dL_law_710 : decode cL_law 710 = .ok (.iadd, 1) := by decide +kernel
theorem dL_law_711 : decode cL_law 711 = .ok (.iaload, 1) := by decide +kernel
theorem dL_law_712 : decode cL_law 712 = .ok (.aload_n 0, 1) := by decide +kernel
theorem dL_law_713 : decode cL_law 713 = .ok (.iload_n 3, 1) := by decide +kernel
theorem dL_law_714 : decode cL_law 714 = .ok (.iconst 3, 1) := by decide +kernel
theorem dL_law_715 : decode cL_law 715 = .ok (.iadd, 1) := by decide +kernel
theorem dL_law_716 : decode cL_law 716 = .ok (.iaload, 1) := by decide +kernel
theorem dL_law_717 : decode cL_law 717 = .ok (.invokevirtual 88, 3) := by decide +kernel
theorem dL_law_720 : decode cL_law 720 = .ok (.if_icmp .eq 81, 3) := by decide +kernel
theorem dL_law_725 : decode cL_law 725 = .ok (.aload_n 1, 1) := by decide +kernel
theorem dL_law_726 : decode cL_law 726 = .ok (.aload_n 0, 1) := by decide +kernel
theorem dL_law_727 : decode cL_law 727 = .ok (.iload_n 3, 1) := by decide +kernel
theorem dL_law_728 : decode cL_law 728 = .ok (.iconst 1, 1) := by decide +kernel
theorem dL_law_729 : decode cL_law 729 = .ok (.iadd, 1) := by decide +kernel
theorem dL_law_730 : decode cL_law 730 = .ok (.iaload, 1) := by decide +kernel
theorem dL_law_731 : decode cL_law 731 = .ok (.aload_n 0, 1) := by decide +kernel
theorem dL_law_732 : decode cL_law 732 = .ok (.iload_n 3, 1) := by decide +kernel
theorem dL_law_733 : decode cL_law 733 = .ok (.iconst 2, 1) := by decide +kernel
theorem dL_law_734 : decode cL_law 734 = .ok (.iadd, 1) := by decide +kernel
theorem dL_law_735 : decode cL_law 735 = .ok (.iaload, 1) := by decide +kernel
theorem dL_law_736 : decode cL_law 736 = .ok (.invokevirtual 89, 3) := by decide +kernel
theorem dL_law_739 : decode cL_law 739 = .ok (.aload_n 2, 1) := by decide +kernel
theorem dL_law_740 : decode cL_law 740 = .ok (.aload_n 0, 1) := by decide +kernel
theorem dL_law_741 : decode cL_law 741 = .ok (.iload_n 3, 1) := by decide +kernel
theorem dL_law_742 : decode cL_law 742 = .ok (.iconst 1, 1) := by decide +kernel
theorem dL_law_743 : decode cL_law 743 = .ok (.iadd, 1) := by decide +kernel
theorem dL_law_744 : decode cL_law 744 = .ok (.iaload, 1) := by decide +kernel
theorem dL_law_745 : decode cL_law 745 = .ok (.aload_n 0, 1) := by decide +kernel
theorem dL_law_746 : decode cL_law 746 = .ok (.iload_n 3, 1) := by decide +kernel
theorem dL_law_747 : decode cL_law 747 = .ok (.iconst 2, 1) := by decide +kernel
theorem dL_law_748 : decode cL_law 748 = .ok (.iadd, 1) := by decide +kernel
theorem dL_law_749 : decode cL_law 749 = .ok (.iaload, 1) := by decide +kernel
theorem dL_law_750 : decode cL_law 750 = .ok (.invokevirtual 92, 3) := by decide +kernel
theorem dL_law_753 : decode cL_law 753 = .ok (.if_icmp .eq 48, 3) := by decide +kernel
theorem dL_law_758 : decode cL_law 758 = .ok (.aload_n 1, 1) := by decide +kernel
theorem dL_law_759 : decode cL_law 759 = .ok (.aload_n 0, 1) := by decide +kernel
theorem dL_law_760 : decode cL_law 760 = .ok (.iload_n 3, 1) := by decide +kernel
theorem dL_law_761 : decode cL_law 761 = .ok (.iconst 1, 1) := by decide +kernel
theorem dL_law_762 : decode cL_law 762 = .ok (.iadd, 1) := by decide +kernel
theorem dL_law_763 : decode cL_law 763 = .ok (.iaload, 1) := by decide +kernel
theorem dL_law_764 : decode cL_law 764 = .ok (.aload_n 0, 1) := by decide +kernel
theorem dL_law_765 : decode cL_law 765 = .ok (.iload_n 3, 1) := by decide +kernel
theorem dL_law_766 : decode cL_law 766 = .ok (.iconst 2, 1) := by decide +kernel
theorem dL_law_767 : decode cL_law 767 = .ok (.iadd, 1) := by decide +kernel
theorem dL_law_768 : decode cL_law 768 = .ok (.iaload, 1) := by decide +kernel
theorem dL_law_769 : decode cL_law 769 = .ok (.aload_n 0, 1) := by decide +kernel
theorem dL_law_770 : decode cL_law 770 = .ok (.iload_n 3, 1) := by decide +kernel
theorem dL_law_771 : decode cL_law 771 = .ok (.iconst 3, 1) := by decide +kernel
theorem dL_law_772 : decode cL_law 772 = .ok (.iadd, 1) := by decide +kernel
theorem dL_law_773 : decode cL_law 773 = .ok (.iaload, 1) := by decide +kernel
theorem dL_law_774 : decode cL_law 774 = .ok (.invokevirtual 93, 3) := by decide +kernel
theorem dL_law_777 : decode cL_law 777 = .ok (.aload_n 2, 1) := by decide +kernel
theorem dL_law_778 : decode cL_law 778 = .ok (.aload_n 0, 1) := by decide +kernel
theorem dL_law_779 : decode cL_law 779 = .ok (.iload_n 3, 1) := by decide +kernel
theorem dL_law_780 : decode cL_law 780 = .ok (.iconst 1, 1) := by decide +kernel
theorem dL_law_781 : decode cL_law 781 = .ok (.iadd, 1) := by decide +kernel
theorem dL_law_782 : decode cL_law 782 = .ok (.iaload, 1) := by decide +kernel
theorem dL_law_783 : decode cL_law 783 = .ok (.aload_n 0, 1) := by decide +kernel
theorem dL_law_784 : decode cL_law 784 = .ok (.iload_n 3, 1) := by decide +kernel
theorem dL_law_785 : decode cL_law 785 = .ok (.iconst 2, 1) := by decide +kernel
theorem dL_law_786 : decode cL_law 786 = .ok (.iadd, 1) := by decide +kernel
theorem dL_law_787 : decode cL_law 787 = .ok (.iaload, 1) := by decide +kernel
theorem dL_law_788 : decode cL_law 788 = .ok (.aload_n 0, 1) := by decide +kernel
theorem dL_law_789 : decode cL_law 789 = .ok (.iload_n 3, 1) := by decide +kernel
theorem dL_law_790 : decode cL_law 790 = .ok (.iconst 3, 1) := by decide +kernel
theorem dL_law_791 : decode cL_law 791 = .ok (.iadd, 1) := by decide +kernel
theorem dL_law_792 : decode cL_law 792 = .ok (.iaload, 1) := by decide +kernel
theorem dL_law_793 : decode cL_law 793 = .ok (.invokevirtual 96, 3) := by decide +kernel
theorem dL_law_796 : decode cL_law 796 = .ok (.if_icmp .eq 5, 3) := by decide +kernel
theorem dL_law_801 : decode cL_law 801 = .ok (.iinc 3 6, 3) := by decide +kernel
theorem dL_law_804 : decode cL_law 804 = .ok (.goto (-786), 3) := by decide +kernel
theorem dL_law_807 : decode cL_law 807 = .ok (.iconst 1, 1) := by decide +kernel
theorem dL_law_808 : decode cL_law 808 = .ok (.ireturn, 1) := by decide +kernel
theorem dX0_init_0 : decode cX0_init 0 = .ok (.aload_n 0, 1) := by decide +kernel
theorem dX0_init_1 : decode cX0_init 1 = .ok (.invokespecial 3, 3) := by decide +kernel
theorem dX0_init_4 : decode cX0_init 4 = .ok (.aload_n 0, 1) := by decide +kernel
theorem dX0_init_5 : decode cX0_init 5 = .ok (.new 9, 3) := by decide +kernel
theorem dX0_init_8 : decode cX0_init 8 = .ok (.dup, 1) := by decide +kernel
theorem dX0_init_9 : decode cX0_init 9 = .ok (.sipush 1000, 3) := by decide +kernel
theorem dX0_init_12 : decode cX0_init 12 = .ok (.invokespecial 11, 3) := by decide +kernel
theorem dX0_init_15 : decode cX0_init 15 = .ok (.putfield 14, 3) := by decide +kernel
theorem dX0_init_18 : decode cX0_init 18 = .ok (.aload_n 0, 1) := by decide +kernel
theorem dX0_init_19 : decode cX0_init 19 = .ok (.new 20, 3) := by decide +kernel
theorem dX0_init_22 : decode cX0_init 22 = .ok (.dup, 1) := by decide +kernel
theorem dX0_init_23 : decode cX0_init 23 = .ok (.invokespecial 22, 3) := by decide +kernel
theorem dX0_init_26 : decode cX0_init 26 = .ok (.putfield 23, 3) := by decide +kernel
theorem dX0_init_29 : decode cX0_init 29 = .ok (.return_, 1) := by decide +kernel
theorem dX10_advance_0 : decode cX10_advance 0 = .ok (.aload_n 0, 1) := by decide +kernel
theorem dX10_advance_1 : decode cX10_advance 1 = .ok (.aload_n 0, 1) := by decide +kernel
theorem dX10_advance_2 : decode cX10_advance 2 = .ok (.getfield 19, 3) := by decide +kernel
theorem dX10_advance_5 : decode cX10_advance 5 = .ok (.putfield 22, 3) := by decide +kernel
theorem dX10_advance_8 : decode cX10_advance 8 = .ok (.aload_n 0, 1) := by decide +kernel
theorem dX10_advance_9 : decode cX10_advance 9 = .ok (.getfield 19, 3) := by decide +kernel
theorem dX10_advance_12 : decode cX10_advance 12 = .ok (.istore_n 2, 1) := by decide +kernel
theorem dX10_advance_13 : decode cX10_advance 13 = .ok (.iload_n 2, 1) := by decide +kernel
theorem dX10_advance_14 : decode cX10_advance 14 = .ok (.aload_n 0, 1) := by decide +kernel
theorem dX10_advance_15 : decode cX10_advance 15 = .ok (.getfield 15, 3) := by decide +kernel
theorem dX10_advance_18 : decode cX10_advance 18 = .ok (.if_icmp .ge 36, 3) := by decide +kernel
theorem dX10_advance_54 : decode cX10_advance 54 = .ok (.aload_n 0, 1) := by decide +kernel
theorem dX10_advance_55 : decode cX10_advance 55 = .ok (.aload_n 0, 1) := by decide +kernel
theorem dX10_advance_56 : decode cX10_advance 56 = .ok (.getfield 22, 3) := by decide +kernel
theorem dX10_advance_59 : decode cX10_advance 59 = .ok (.invokevirtual 31, 3) := by decide +kernel
theorem dX10_advance_62 : decode cX10_advance 62 = .ok (.istore_n 2, 1) := by decide +kernel
theorem dX10_advance_63 : decode cX10_advance 63 = .ok (.iload_n 2, 1) := by decide +kernel
theorem dX10_advance_64 : decode cX10_advance 64 = .ok (.invokestatic 35, 3) := by decide +kernel
theorem dX10_advance_67 : decode cX10_advance 67 = .ok (.ifCond .eq 10, 3) := by decide +kernel
theorem dX10_advance_77 : decode cX10_advance 77 = .ok (.iload_n 2, 1) := by decide +kernel
theorem dX10_advance_78 : decode cX10_advance 78 = .ok (.invokestatic 42, 3) := by decide +kernel
theorem dX10_advance_81 : decode cX10_advance 81 = .ok (.ifCond .eq 10, 3) := by decide +kernel
theorem dX10_advance_91 : decode cX10_advance 91 = .ok (.aload_n 0, 1) := by decide +kernel
theorem dX10_advance_92 : decode cX10_advance 92 = .ok (.iload_n 2, 1) := by decide +kernel
theorem dX10_advance_93 : decode cX10_advance 93 = .ok (.iload_n 1, 1) := by decide +kernel
theorem dX10_advance_94 : decode cX10_advance 94 = .ok (.invokevirtual 48, 3) := by decide +kernel
theorem dX10_advance_97 : decode cX10_advance 97 = .ok (.return_, 1) := by decide +kernel
theorem dX10_byteAt_0 : decode cX10_byteAt 0 = .ok (.iload_n 1, 1) := by decide +kernel
theorem dX10_byteAt_1 : decode cX10_byteAt 1 = .ok (.ifCond .lt 20, 3) := by decide +kernel
theorem dX10_byteAt_4 : decode cX10_byteAt 4 = .ok (.iload_n 1, 1) := by decide +kernel
theorem dX10_byteAt_5 : decode cX10_byteAt 5 = .ok (.aload_n 0, 1) := by decide +kernel
theorem dX10_byteAt_6 : decode cX10_byteAt 6 = .ok (.getfield 15, 3) := by decide +kernel
theorem dX10_byteAt_9 : decode cX10_byteAt 9 = .ok (.if_icmp .ge 12, 3) := by decide +kernel
theorem dX10_byteAt_21 : decode cX10_byteAt 21 = .ok (.iconst (-1), 1) := by decide +kernel
theorem dX10_byteAt_22 : decode cX10_byteAt 22 = .ok (.ireturn, 1) := by decide +kernel
theorem dX10_init_0 : decode cX10_init 0 = .ok (.aload_n 0, 1) := by decide +kernel
theorem dX10_init_1 : decode cX10_init 1 = .ok (.invokespecial 3, 3) := by decide +kernel
theorem dX10_init_4 : decode cX10_init 4 = .ok (.aload_n 0, 1) := by decide +kernel
theorem dX10_init_5 : decode cX10_init 5 = .ok (.sipush 800, 3) := by decide +kernel
theorem dX10_init_8 : decode cX10_init 8 = .ok (.newarray .int, 2) := by decide +kernel
theorem dX10_init_10 : decode cX10_init 10 = .ok (.putfield 11, 3) := by decide +kernel
theorem dX10_init_13 : decode cX10_init 13 = .ok (.aload_n 0, 1) := by decide +kernel
theorem dX10_init_14 : decode cX10_init 14 = .ok (.iconst 0, 1) := by decide +kernel
theorem dX10_init_15 : decode cX10_init 15 = .ok (.putfield 15, 3) := by decide +kernel
theorem dX10_init_18 : decode cX10_init 18 = .ok (.return_, 1) := by decide +kernel
theorem dX10_isDigit_0 : decode cX10_isDigit 0 = .ok (.iload_n 0, 1) := by decide +kernel
theorem dX10_isDigit_1 : decode cX10_isDigit 1 = .ok (.bipush 48, 2) := by decide +kernel
theorem dX10_isDigit_3 : decode cX10_isDigit 3 = .ok (.if_icmp .lt 13, 3) := by decide +kernel
theorem dX10_isDigit_6 : decode cX10_isDigit 6 = .ok (.iload_n 0, 1) := by decide +kernel
theorem dX10_isDigit_7 : decode cX10_isDigit 7 = .ok (.bipush 57, 2) := by decide +kernel
theorem dX10_isDigit_9 : decode cX10_isDigit 9 = .ok (.if_icmp .gt 7, 3) := by decide +kernel
theorem dX10_isDigit_12 : decode cX10_isDigit 12 = .ok (.iconst 1, 1) := by decide +kernel
theorem dX10_isDigit_13 : decode cX10_isDigit 13 = .ok (.goto 4, 3) := by decide +kernel
theorem dX10_isDigit_16 : decode cX10_isDigit 16 = .ok (.iconst 0, 1) := by decide +kernel
theorem dX10_isDigit_17 : decode cX10_isDigit 17 = .ok (.ireturn, 1) := by decide +kernel
theorem dX10_isLetter_0 : decode cX10_isLetter 0 = .ok (.iload_n 0, 1) := by decide +kernel
theorem dX10_isLetter_1 : decode cX10_isLetter 1 = .ok (.invokestatic 52, 3) := by decide +kernel
theorem dX10_isLetter_4 : decode cX10_isLetter 4 = .ok (.ifCond .ne 15, 3) := by decide +kernel
theorem dX10_isLetter_7 : decode cX10_isLetter 7 = .ok (.iload_n 0, 1) := by decide +kernel
theorem dX10_isLetter_8 : decode cX10_isLetter 8 = .ok (.bipush 65, 2) := by decide +kernel
theorem dX10_isLetter_10 : decode cX10_isLetter 10 = .ok (.if_icmp .lt 13, 3) := by decide +kernel
theorem dX10_isLetter_13 : decode cX10_isLetter 13 = .ok (.iload_n 0, 1) := by decide +kernel
theorem dX10_isLetter_14 : decode cX10_isLetter 14 = .ok (.bipush 90, 2) := by decide +kernel
theorem dX10_isLetter_16 : decode cX10_isLetter 16 = .ok (.if_icmp .gt 7, 3) := by decide +kernel
theorem dX10_isLetter_19 : decode cX10_isLetter 19 = .ok (.iconst 1, 1) := by decide +kernel
theorem dX10_isLetter_20 : decode cX10_isLetter 20 = .ok (.goto 4, 3) := by decide +kernel
theorem dX10_isLetter_23 : decode cX10_isLetter 23 = .ok (.iconst 0, 1) := by decide +kernel
theorem dX10_isLetter_24 : decode cX10_isLetter 24 = .ok (.ireturn, 1) := by decide +kernel
theorem dX10_isSmallLetter_0 : decode cX10_isSmallLetter 0 = .ok (.iload_n 0, 1) := by decide +kernel
theorem dX10_isSmallLetter_1 : decode cX10_isSmallLetter 1 = .ok (.bipush 97, 2) := by decide +kernel
theorem dX10_isSmallLetter_3 : decode cX10_isSmallLetter 3 = .ok (.if_icmp .lt 13, 3) := by decide +kernel
theorem dX10_isSmallLetter_6 : decode cX10_isSmallLetter 6 = .ok (.iload_n 0, 1) := by decide +kernel
theorem dX10_isSmallLetter_7 : decode cX10_isSmallLetter 7 = .ok (.bipush 122, 2) := by decide +kernel
theorem dX10_isSmallLetter_9 : decode cX10_isSmallLetter 9 = .ok (.if_icmp .gt 7, 3) := by decide +kernel
theorem dX10_isSmallLetter_12 : decode cX10_isSmallLetter 12 = .ok (.iconst 1, 1) := by decide +kernel
theorem dX10_isSmallLetter_13 : decode cX10_isSmallLetter 13 = .ok (.goto 4, 3) := by decide +kernel
theorem dX10_isSmallLetter_16 : decode cX10_isSmallLetter 16 = .ok (.iconst 0, 1) := by decide +kernel
theorem dX10_isSmallLetter_17 : decode cX10_isSmallLetter 17 = .ok (.ireturn, 1) := by decide +kernel
theorem dX10_put_0 : decode cX10_put 0 = .ok (.bipush 24, 2) := by decide +kernel
theorem dX10_put_2 : decode cX10_put 2 = .ok (.istore_n 2, 1) := by decide +kernel
theorem dX10_put_3 : decode cX10_put 3 = .ok (.iload_n 2, 1) := by decide +kernel
theorem dX10_put_4 : decode cX10_put 4 = .ok (.ifCond .lt 47, 3) := by decide +kernel
theorem dX10_put_7 : decode cX10_put 7 = .ok (.aload_n 0, 1) := by decide +kernel
theorem dX10_put_8 : decode cX10_put 8 = .ok (.getfield 15, 3) := by decide +kernel
theorem dX10_put_11 : decode cX10_put 11 = .ok (.aload_n 0, 1) := by decide +kernel
theorem dX10_put_12 : decode cX10_put 12 = .ok (.getfield 11, 3) := by decide +kernel
theorem dX10_put_15 : decode cX10_put 15 = .ok (.arraylength, 1) := by decide +kernel
theorem dX10_put_16 : decode cX10_put 16 = .ok (.if_icmp .ge 35, 3) := by decide +kernel
theorem dX10_put_19 : decode cX10_put 19 = .ok (.aload_n 0, 1) := by decide +kernel
theorem dX10_put_20 : decode cX10_put 20 = .ok (.getfield 11, 3) := by decide +kernel
theorem dX10_put_23 : decode cX10_put 23 = .ok (.aload_n 0, 1) := by decide +kernel
theorem dX10_put_24 : decode cX10_put 24 = .ok (.getfield 15, 3) := by decide +kernel
theorem dX10_put_27 : decode cX10_put 27 = .ok (.iload_n 1, 1) := by decide +kernel
theorem dX10_put_28 : decode cX10_put 28 = .ok (.iload_n 2, 1) := by decide +kernel
theorem dX10_put_29 : decode cX10_put 29 = .ok (.iushr, 1) := by decide +kernel
theorem dX10_put_30 : decode cX10_put 30 = .ok (.sipush 255, 3) := by decide +kernel
theorem dX10_put_33 : decode cX10_put 33 = .ok (.iand, 1) := by decide +kernel
theorem dX10_put_34 : decode cX10_put 34 = .ok (.iastore, 1) := by decide +kernel
theorem dX10_put_35 : decode cX10_put 35 = .ok (.aload_n 0, 1) := by decide +kernel
theorem dX10_put_36 : decode cX10_put 36 = .ok (.dup, 1) := by decide +kernel
theorem dX10_put_37 : decode cX10_put 37 = .ok (.getfield 15, 3) := by decide +kernel
theorem dX10_put_40 : decode cX10_put 40 = .ok (.iconst 1, 1) := by decide +kernel
theorem dX10_put_41 : decode cX10_put 41 = .ok (.iadd, 1) := by decide +kernel
theorem dX10_put_42 : decode cX10_put 42 = .ok (.putfield 15, 3) := by decide +kernel
theorem dX10_put_45 : decode cX10_put 45 = .ok (.iinc 2 (-8), 3) := by decide +kernel
theorem dX10_put_48 : decode cX10_put 48 = .ok (.goto (-45), 3) := by decide +kernel
theorem dX10_put_51 : decode cX10_put 51 = .ok (.return_, 1) := by decide +kernel
theorem dX10_rewind_0 : decode cX10_rewind 0 = .ok (.aload_n 0, 1) := by decide +kernel
theorem dX10_rewind_1 : decode cX10_rewind 1 = .ok (.iconst 0, 1) := by decide +kernel
theorem dX10_rewind_2 : decode cX10_rewind 2 = .ok (.putfield 19, 3) := by decide +kernel
theorem dX10_rewind_5 : decode cX10_rewind 5 = .ok (.aload_n 0, 1) := by decide +kernel
theorem dX10_rewind_6 : decode cX10_rewind 6 = .ok (.iconst 0, 1) := by decide +kernel
theorem dX10_rewind_7 : decode cX10_rewind 7 = .ok (.putfield 22, 3) := by decide +kernel
theorem dX10_rewind_10 : decode cX10_rewind 10 = .ok (.aload_n 0, 1) := by decide +kernel
theorem dX10_rewind_11 : decode cX10_rewind 11 = .ok (.iconst 0, 1) := by decide +kernel
theorem dX10_rewind_12 : decode cX10_rewind 12 = .ok (.putfield 25, 3) := by decide +kernel
theorem dX10_rewind_15 : decode cX10_rewind 15 = .ok (.aload_n 0, 1) := by decide +kernel
theorem dX10_rewind_16 : decode cX10_rewind 16 = .ok (.iconst 0, 1) := by decide +kernel
theorem dX10_rewind_17 : decode cX10_rewind 17 = .ok (.putfield 28, 3) := by decide +kernel
theorem dX10_rewind_20 : decode cX10_rewind 20 = .ok (.return_, 1) := by decide +kernel
theorem dX10_shorten_0 : decode cX10_shorten 0 = .ok (.iload_n 1, 1) := by decide +kernel
theorem dX10_shorten_1 : decode cX10_shorten 1 = .ok (.ifCond .lt 11, 3) := by decide +kernel
theorem dX10_shorten_4 : decode cX10_shorten 4 = .ok (.iload_n 1, 1) := by decide +kernel
theorem dX10_shorten_5 : decode cX10_shorten 5 = .ok (.aload_n 0, 1) := by decide +kernel
theorem dX10_shorten_6 : decode cX10_shorten 6 = .ok (.getfield 15, 3) := by decide +kernel
theorem dX10_shorten_9 : decode cX10_shorten 9 = .ok (.if_icmp .le 5, 3) := by decide +kernel
theorem dX10_shorten_12 : decode cX10_shorten 12 = .ok (.iconst 0, 1) := by decide +kernel
theorem dX10_shorten_13 : decode cX10_shorten 13 = .ok (.ireturn, 1) := by decide +kernel
theorem dX10_shorten_14 : decode cX10_shorten 14 = .ok (.aload_n 0, 1) := by decide +kernel
theorem dX10_shorten_15 : decode cX10_shorten 15 = .ok (.iload_n 1, 1) := by decide +kernel
theorem dX10_shorten_16 : decode cX10_shorten 16 = .ok (.putfield 15, 3) := by decide +kernel
theorem dX10_shorten_19 : decode cX10_shorten 19 = .ok (.iconst 1, 1) := by decide +kernel
theorem dX10_shorten_20 : decode cX10_shorten 20 = .ok (.ireturn, 1) := by decide +kernel
theorem dX10_takeSign_0 : decode cX10_takeSign 0 = .ok (.aload_n 0, 1) := by decide +kernel
theorem dX10_takeSign_1 : decode cX10_takeSign 1 = .ok (.aload_n 0, 1) := by decide +kernel
theorem dX10_takeSign_2 : decode cX10_takeSign 2 = .ok (.getfield 22, 3) := by decide +kernel
theorem dX10_takeSign_5 : decode cX10_takeSign 5 = .ok (.iconst 1, 1) := by decide +kernel
theorem dX10_takeSign_6 : decode cX10_takeSign 6 = .ok (.iadd, 1) := by decide +kernel
theorem dX10_takeSign_7 : decode cX10_takeSign 7 = .ok (.putfield 19, 3) := by decide +kernel
theorem dX10_takeSign_10 : decode cX10_takeSign 10 = .ok (.iload_n 1, 1) := by decide +kernel
theorem dX10_takeSign_11 : decode cX10_takeSign 11 = .ok (.iconst (-1), 1) := by decide +kernel
theorem dX10_takeSign_12 : decode cX10_takeSign 12 = .ok (.if_icmp .ne 19, 3) := by decide +kernel
theorem dX10_takeSign_15 : decode cX10_takeSign 15 = .ok (.aload_n 0, 1) := by decide +kernel
theorem dX10_takeSign_16 : decode cX10_takeSign 16 = .ok (.iconst 1, 1) := by decide +kernel
theorem dX10_takeSign_17 : decode cX10_takeSign 17 = .ok (.putfield 25, 3) := by decide +kernel
theorem dX10_takeSign_20 : decode cX10_takeSign 20 = .ok (.aload_n 0, 1) := by decide +kernel
theorem dX10_takeSign_21 : decode cX10_takeSign 21 = .ok (.aload_n 0, 1) := by decide +kernel
theorem dX10_takeSign_22 : decode cX10_takeSign 22 = .ok (.getfield 22, 3) := by decide +kernel
theorem dX10_takeSign_25 : decode cX10_takeSign 25 = .ok (.putfield 19, 3) := by decide +kernel
theorem dX10_takeSign_28 : decode cX10_takeSign 28 = .ok (.goto 63, 3) := by decide +kernel
theorem dX10_takeSign_91 : decode cX10_takeSign 91 = .ok (.return_, 1) := by decide +kernel
theorem dX11_apply_0 : decode cX11_apply 0 = .ok (.aload_n 0, 1) := by decide +kernel
theorem dX11_apply_1 : decode cX11_apply 1 = .ok (.iload_n 1, 1) := by decide +kernel
theorem dX11_apply_2 : decode cX11_apply 2 = .ok (.invokevirtual 165, 3) := by decide +kernel
theorem dX11_apply_5 : decode cX11_apply 5 = .ok (.astore 5, 2) := by decide +kernel
theorem dX11_apply_7 : decode cX11_apply 7 = .ok (.aload_n 0, 1) := by decide +kernel
theorem dX11_apply_8 : decode cX11_apply 8 = .ok (.iload_n 2, 1) := by decide +kernel
theorem dX11_apply_9 : decode cX11_apply 9 = .ok (.invokevirtual 77, 3) := by decide +kernel
theorem dX11_apply_12 : decode cX11_apply 12 = .ok (.astore 6, 2) := by decide +kernel
theorem dX11_apply_14 : decode cX11_apply 14 = .ok (.aload_n 0, 1) := by decide +kernel
theorem dX11_apply_15 : decode cX11_apply 15 = .ok (.iload 4, 2) := by decide +kernel
theorem dX11_apply_17 : decode cX11_apply 17 = .ok (.invokevirtual 77, 3) := by decide +kernel
theorem dX11_apply_20 : decode cX11_apply 20 = .ok (.astore 7, 2) := by decide +kernel
theorem dX11_apply_22 : decode cX11_apply 22 = .ok (.aload 5, 2) := by decide +kernel
theorem dX11_apply_24 : decode cX11_apply 24 = .ok (.ifnull 13, 3) := by decide +kernel
theorem dX11_apply_37 : decode cX11_apply 37 = .ok (.iconst 0, 1) := by decide +kernel
theorem dX11_apply_38 : decode cX11_apply 38 = .ok (.ireturn, 1) := by decide +kernel
theorem dX11_at_0 : decode cX11_at 0 = .ok (.aload_n 0, 1) := by decide +kernel
theorem dX11_at_1 : decode cX11_at 1 = .ok (.iload_n 1, 1) := by decide +kernel
theorem dX11_at_2 : decode cX11_at 2 = .ok (.invokevirtual 77, 3) := by decide +kernel
theorem dX11_at_5 : decode cX11_at 5 = .ok (.astore_n 3, 1) := by decide +kernel
theorem dX11_at_6 : decode cX11_at 6 = .ok (.aload_n 3, 1) := by decide +kernel
theorem dX11_at_7 : decode cX11_at 7 = .ok (.ifnonnull 7, 3) := by decide +kernel
theorem dX11_at_10 : decode cX11_at 10 = .ok (.iconst (-1), 1) := by decide +kernel
theorem dX11_at_11 : decode cX11_at 11 = .ok (.goto 8, 3) := by decide +kernel
theorem dX11_at_14 : decode cX11_at 14 = .ok (.aload_n 3, 1) := by decide +kernel
theorem dX11_at_15 : decode cX11_at 15 = .ok (.iload_n 2, 1) := by decide +kernel
theorem dX11_at_16 : decode cX11_at 16 = .ok (.invokevirtual 113, 3) := by decide +kernel
theorem dX11_at_19 : decode cX11_at 19 = .ok (.ireturn, 1) := by decide +kernel
theorem dX11_blame_0 : decode cX11_blame 0 = .ok (.aload_n 0, 1) := by decide +kernel
theorem dX11_blame_1 : decode cX11_blame 1 = .ok (.iload_n 1, 1) := by decide +kernel
theorem dX11_blame_2 : decode cX11_blame 2 = .ok (.invokevirtual 77, 3) := by decide +kernel
theorem dX11_blame_5 : decode cX11_blame 5 = .ok (.astore_n 3, 1) := by decide +kernel
theorem dX11_blame_6 : decode cX11_blame 6 = .ok (.aload_n 3, 1) := by decide +kernel
theorem dX11_blame_7 : decode cX11_blame 7 = .ok (.ifnull 12, 3) := by decide +kernel
theorem dX11_blame_10 : decode cX11_blame 10 = .ok (.iload_n 2, 1) := by decide +kernel
theorem dX11_blame_11 : decode cX11_blame 11 = .ok (.ifCond .lt 8, 3) := by decide +kernel
theorem dX11_blame_14 : decode cX11_blame 14 = .ok (.iload_n 2, 1) := by decide +kernel
theorem dX11_blame_15 : decode cX11_blame 15 = .ok (.iconst 1, 1) := by decide +kernel
theorem dX11_blame_16 : decode cX11_blame 16 = .ok (.if_icmp .le 5, 3) := by decide +kernel
theorem dX11_blame_19 : decode cX11_blame 19 = .ok (.iconst (-1), 1) := by decide +kernel
theorem dX11_blame_20 : decode cX11_blame 20 = .ok (.ireturn, 1) := by decide +kernel
theorem dX11_blame_21 : decode cX11_blame 21 = .ok (.aload_n 0, 1) := by decide +kernel
theorem dX11_blame_22 : decode cX11_blame 22 = .ok (.getfield 50, 3) := by decide +kernel
theorem dX11_blame_25 : decode cX11_blame 25 = .ok (.aload_n 3, 1) := by decide +kernel
theorem dX11_blame_26 : decode cX11_blame 26 = .ok (.invokevirtual 205, 3) := by decide +kernel
theorem dX11_blame_29 : decode cX11_blame 29 = .ok (.iload_n 2, 1) := by decide +kernel
theorem dX11_blame_30 : decode cX11_blame 30 = .ok (.ifCond .ne 13, 3) := by decide +kernel
theorem dX11_blame_33 : decode cX11_blame 33 = .ok (.aload_n 0, 1) := by decide +kernel
theorem dX11_blame_34 : decode cX11_blame 34 = .ok (.getfield 50, 3) := by decide +kernel
theorem dX11_blame_37 : decode cX11_blame 37 = .ok (.getfield 208, 3) := by decide +kernel
theorem dX11_blame_40 : decode cX11_blame 40 = .ok (.goto 10, 3) := by decide +kernel
theorem dX11_blame_43 : decode cX11_blame 43 = .ok (.aload_n 0, 1) := by decide +kernel
theorem dX11_blame_44 : decode cX11_blame 44 = .ok (.getfield 50, 3) := by decide +kernel
theorem dX11_blame_47 : decode cX11_blame 47 = .ok (.getfield 211, 3) := by decide +kernel
theorem dX11_blame_50 : decode cX11_blame 50 = .ok (.ireturn, 1) := by decide +kernel
theorem dX11_clash_0 : decode cX11_clash 0 = .ok (.aload_n 0, 1) := by decide +kernel
theorem dX11_clash_1 : decode cX11_clash 1 = .ok (.iload_n 1, 1) := by decide +kernel
theorem dX11_clash_2 : decode cX11_clash 2 = .ok (.invokevirtual 77, 3) := by decide +kernel
theorem dX11_clash_5 : decode cX11_clash 5 = .ok (.astore 4, 2) := by decide +kernel
theorem dX11_clash_7 : decode cX11_clash 7 = .ok (.aload 4, 2) := by decide +kernel
theorem dX11_clash_9 : decode cX11_clash 9 = .ok (.ifnull 22, 3) := by decide +kernel
theorem dX11_clash_12 : decode cX11_clash 12 = .ok (.iload_n 2, 1) := by decide +kernel
theorem dX11_clash_13 : decode cX11_clash 13 = .ok (.invokestatic 232, 3) := by decide +kernel
theorem dX11_clash_16 : decode cX11_clash 16 = .ok (.ifCond .eq 15, 3) := by decide +kernel
theorem dX11_clash_19 : decode cX11_clash 19 = .ok (.iload_n 3, 1) := by decide +kernel
theorem dX11_clash_20 : decode cX11_clash 20 = .ok (.invokestatic 232, 3) := by decide +kernel
theorem dX11_clash_23 : decode cX11_clash 23 = .ok (.ifCond .eq 8, 3) := by decide +kernel
theorem dX11_clash_26 : decode cX11_clash 26 = .ok (.iload_n 2, 1) := by decide +kernel
theorem dX11_clash_27 : decode cX11_clash 27 = .ok (.iload_n 3, 1) := by decide +kernel
theorem dX11_clash_28 : decode cX11_clash 28 = .ok (.if_icmp .ne 5, 3) := by decide +kernel
theorem dX11_clash_31 : decode cX11_clash 31 = .ok (.iconst (-1), 1) := by decide +kernel
theorem dX11_clash_32 : decode cX11_clash 32 = .ok (.ireturn, 1) := by decide +kernel
theorem dX11_clash_33 : decode cX11_clash 33 = .ok (.aload_n 0, 1) := by decide +kernel
theorem dX11_clash_34 : decode cX11_clash 34 = .ok (.getfield 57, 3) := by decide +kernel
theorem dX11_clash_37 : decode cX11_clash 37 = .ok (.aload 4, 2) := by decide +kernel
theorem dX11_clash_39 : decode cX11_clash 39 = .ok (.invokevirtual 220, 3) := by decide +kernel
theorem dX11_clash_42 : decode cX11_clash 42 = .ok (.aload_n 0, 1) := by decide +kernel
theorem dX11_clash_43 : decode cX11_clash 43 = .ok (.getfield 57, 3) := by decide +kernel
theorem dX11_clash_46 : decode cX11_clash 46 = .ok (.iload_n 2, 1) := by decide +kernel
theorem dX11_clash_47 : decode cX11_clash 47 = .ok (.iload_n 3, 1) := by decide +kernel
theorem dX11_clash_48 : decode cX11_clash 48 = .ok (.invokevirtual 235, 3) := by decide +kernel
theorem dX11_clash_51 : decode cX11_clash 51 = .ok (.ifCond .eq 7, 3) := by decide +kernel
theorem dX11_clash_58 : decode cX11_clash 58 = .ok (.iconst 0, 1) := by decide +kernel
theorem dX11_clash_59 : decode cX11_clash 59 = .ok (.ireturn, 1) := by decide +kernel
theorem dX11_clear_0 : decode cX11_clear 0 = .ok (.aload_n 0, 1) := by decide +kernel
theorem dX11_clear_1 : decode cX11_clear 1 = .ok (.getfield 50, 3) := by decide +kernel
theorem dX11_clear_4 : decode cX11_clear 4 = .ok (.iload_n 1, 1) := by decide +kernel
theorem dX11_clear_5 : decode cX11_clear 5 = .ok (.invokevirtual 195, 3) := by decide +kernel
theorem dX11_clear_8 : decode cX11_clear 8 = .ok (.ireturn, 1) := by decide +kernel
theorem dX11_cut_0 : decode cX11_cut 0 = .ok (.aload_n 0, 1) := by decide +kernel
theorem dX11_cut_1 : decode cX11_cut 1 = .ok (.iload_n 2, 1) := by decide +kernel
theorem dX11_cut_2 : decode cX11_cut 2 = .ok (.invokevirtual 77, 3) := by decide +kernel
theorem dX11_cut_5 : decode cX11_cut 5 = .ok (.astore 4, 2) := by decide +kernel
theorem dX11_cut_7 : decode cX11_cut 7 = .ok (.aload_n 0, 1) := by decide +kernel
theorem dX11_cut_8 : decode cX11_cut 8 = .ok (.iload_n 3, 1) := by decide +kernel
theorem dX11_cut_9 : decode cX11_cut 9 = .ok (.invokevirtual 77, 3) := by decide +kernel
theorem dX11_cut_12 : decode cX11_cut 12 = .ok (.astore 5, 2) := by decide +kernel
theorem dX11_cut_14 : decode cX11_cut 14 = .ok (.aload 4, 2) := by decide +kernel
theorem dX11_cut_16 : decode cX11_cut 16 = .ok (.ifnull 21, 3) := by decide +kernel
theorem dX11_cut_19 : decode cX11_cut 19 = .ok (.aload 5, 2) := by decide +kernel
theorem dX11_cut_21 : decode cX11_cut 21 = .ok (.ifnull 16, 3) := by decide +kernel
theorem dX11_cut_24 : decode cX11_cut 24 = .ok (.aload_n 0, 1) := by decide +kernel
theorem dX11_cut_25 : decode cX11_cut 25 = .ok (.getfield 50, 3) := by decide +kernel
theorem dX11_cut_28 : decode cX11_cut 28 = .ok (.iload_n 1, 1) := by decide +kernel
theorem dX11_cut_29 : decode cX11_cut 29 = .ok (.aload 4, 2) := by decide +kernel
theorem dX11_cut_31 : decode cX11_cut 31 = .ok (.invokevirtual 214, 3) := by decide +kernel
theorem dX11_cut_34 : decode cX11_cut 34 = .ok (.ifCond .ne 5, 3) := by decide +kernel
theorem dX11_cut_37 : decode cX11_cut 37 = .ok (.iconst (-1), 1) := by decide +kernel
theorem dX11_cut_38 : decode cX11_cut 38 = .ok (.ireturn, 1) := by decide +kernel
theorem dX11_end_0 : decode cX11_end 0 = .ok (.aload_n 0, 1) := by decide +kernel
theorem dX11_end_1 : decode cX11_end 1 = .ok (.getfield 29, 3) := by decide +kernel
theorem dX11_end_4 : decode cX11_end 4 = .ok (.getfield 61, 3) := by decide +kernel
theorem dX11_end_7 : decode cX11_end 7 = .ok (.iload_n 1, 1) := by decide +kernel
theorem dX11_end_8 : decode cX11_end 8 = .ok (.invokevirtual 73, 3) := by decide +kernel
theorem dX11_end_11 : decode cX11_end 11 = .ok (.ireturn, 1) := by decide +kernel
theorem dX11_fault_0 : decode cX11_fault 0 = .ok (.iload_n 1, 1) := by decide +kernel
theorem dX11_fault_1 : decode cX11_fault 1 = .ok (.ifCond .ne 11, 3) := by decide +kernel
theorem dX11_fault_4 : decode cX11_fault 4 = .ok (.aload_n 0, 1) := by decide +kernel
theorem dX11_fault_5 : decode cX11_fault 5 = .ok (.getfield 29, 3) := by decide +kernel
theorem dX11_fault_8 : decode cX11_fault 8 = .ok (.getfield 107, 3) := by decide +kernel
theorem dX11_fault_11 : decode cX11_fault 11 = .ok (.ireturn, 1) := by decide +kernel
theorem dX11_fault_12 : decode cX11_fault 12 = .ok (.iload_n 1, 1) := by decide +kernel
theorem dX11_fault_13 : decode cX11_fault 13 = .ok (.iconst 1, 1) := by decide +kernel
theorem dX11_fault_14 : decode cX11_fault 14 = .ok (.if_icmp .ne 13, 3) := by decide +kernel
theorem dX11_fault_17 : decode cX11_fault 17 = .ok (.aload_n 0, 1) := by decide +kernel
theorem dX11_fault_18 : decode cX11_fault 18 = .ok (.getfield 29, 3) := by decide +kernel
theorem dX11_fault_21 : decode cX11_fault 21 = .ok (.getfield 110, 3) := by decide +kernel
theorem dX11_fault_24 : decode cX11_fault 24 = .ok (.goto 4, 3) := by decide +kernel
theorem dX11_fault_27 : decode cX11_fault 27 = .ok (.iconst (-1), 1) := by decide +kernel
theorem dX11_fault_28 : decode cX11_fault 28 = .ok (.ireturn, 1) := by decide +kernel
theorem dX11_feed_0 : decode cX11_feed 0 = .ok (.aload_n 0, 1) := by decide +kernel
theorem dX11_feed_1 : decode cX11_feed 1 = .ok (.getfield 29, 3) := by decide +kernel
theorem dX11_feed_4 : decode cX11_feed 4 = .ok (.getfield 61, 3) := by decide +kernel
theorem dX11_feed_7 : decode cX11_feed 7 = .ok (.astore 6, 2) := by decide +kernel
theorem dX11_feed_9 : decode cX11_feed 9 = .ok (.aload 6, 2) := by decide +kernel
theorem dX11_feed_11 : decode cX11_feed 11 = .ok (.getfield 65, 3) := by decide +kernel
theorem dX11_feed_14 : decode cX11_feed 14 = .ok (.bipush 20, 2) := by decide +kernel
theorem dX11_feed_16 : decode cX11_feed 16 = .ok (.iadd, 1) := by decide +kernel
theorem dX11_feed_17 : decode cX11_feed 17 = .ok (.sipush 800, 3) := by decide +kernel
theorem dX11_feed_20 : decode cX11_feed 20 = .ok (.if_icmp .le 5, 3) := by decide +kernel
theorem dX11_feed_25 : decode cX11_feed 25 = .ok (.aload 6, 2) := by decide +kernel
theorem dX11_feed_27 : decode cX11_feed 27 = .ok (.iload_n 1, 1) := by decide +kernel
theorem dX11_feed_28 : decode cX11_feed 28 = .ok (.invokevirtual 70, 3) := by decide +kernel
theorem dX11_feed_31 : decode cX11_feed 31 = .ok (.aload 6, 2) := by decide +kernel
theorem dX11_feed_33 : decode cX11_feed 33 = .ok (.iload_n 2, 1) := by decide +kernel
theorem dX11_feed_34 : decode cX11_feed 34 = .ok (.invokevirtual 70, 3) := by decide +kernel
theorem dX11_feed_37 : decode cX11_feed 37 = .ok (.aload 6, 2) := by decide +kernel
theorem dX11_feed_39 : decode cX11_feed 39 = .ok (.iload_n 3, 1) := by decide +kernel
theorem dX11_feed_40 : decode cX11_feed 40 = .ok (.invokevirtual 70, 3) := by decide +kernel
theorem dX11_feed_43 : decode cX11_feed 43 = .ok (.aload 6, 2) := by decide +kernel
theorem dX11_feed_45 : decode cX11_feed 45 = .ok (.iload 4, 2) := by decide +kernel
theorem dX11_feed_47 : decode cX11_feed 47 = .ok (.invokevirtual 70, 3) := by decide +kernel
theorem dX11_feed_50 : decode cX11_feed 50 = .ok (.aload 6, 2) := by decide +kernel
theorem dX11_feed_52 : decode cX11_feed 52 = .ok (.iload 5, 2) := by decide +kernel
theorem dX11_feed_54 : decode cX11_feed 54 = .ok (.invokevirtual 70, 3) := by decide +kernel
theorem dX11_feed_57 : decode cX11_feed 57 = .ok (.aload 6, 2) := by decide +kernel
theorem dX11_feed_59 : decode cX11_feed 59 = .ok (.getfield 65, 3) := by decide +kernel
theorem dX11_feed_62 : decode cX11_feed 62 = .ok (.ireturn, 1) := by decide +kernel
theorem dX11_init_0 : decode cX11_init 0 = .ok (.aload_n 0, 1) := by decide +kernel
theorem dX11_init_1 : decode cX11_init 1 = .ok (.invokespecial 1, 3) := by decide +kernel
theorem dX11_init_4 : decode cX11_init 4 = .ok (.aload_n 0, 1) := by decide +kernel
theorem dX11_init_5 : decode cX11_init 5 = .ok (.bipush 6, 2) := by decide +kernel
theorem dX11_init_7 : decode cX11_init 7 = .ok (.anewarray 9, 3) := by decide +kernel
theorem dX11_init_10 : decode cX11_init 10 = .ok (.putfield 11, 3) := by decide +kernel
theorem dX11_init_13 : decode cX11_init 13 = .ok (.iconst 0, 1) := by decide +kernel
theorem dX11_init_14 : decode cX11_init 14 = .ok (.istore_n 1, 1) := by decide +kernel
theorem dX11_init_15 : decode cX11_init 15 = .ok (.iload_n 1, 1) := by decide +kernel
theorem dX11_init_16 : decode cX11_init 16 = .ok (.bipush 6, 2) := by decide +kernel
theorem dX11_init_18 : decode cX11_init 18 = .ok (.if_icmp .ge 25, 3) := by decide +kernel
theorem dX11_init_21 : decode cX11_init 21 = .ok (.aload_n 0, 1) := by decide +kernel
theorem dX11_init_22 : decode cX11_init 22 = .ok (.getfield 11, 3) := by decide +kernel
theorem dX11_init_25 : decode cX11_init 25 = .ok (.iload_n 1, 1) := by decide +kernel
theorem dX11_init_26 : decode cX11_init 26 = .ok (.new 9, 3) := by decide +kernel
theorem dX11_init_29 : decode cX11_init 29 = .ok (.dup, 1) := by decide +kernel
theorem dX11_init_30 : decode cX11_init 30 = .ok (.sipush 480, 3) := by decide +kernel
theorem dX11_init_33 : decode cX11_init 33 = .ok (.invokespecial 15, 3) := by decide +kernel
theorem dX11_init_36 : decode cX11_init 36 = .ok (.aastore, 1) := by decide +kernel
theorem dX11_init_37 : decode cX11_init 37 = .ok (.iinc 1 1, 3) := by decide +kernel
theorem dX11_init_40 : decode cX11_init 40 = .ok (.goto (-25), 3) := by decide +kernel
theorem dX11_init_43 : decode cX11_init 43 = .ok (.aload_n 0, 1) := by decide +kernel
theorem dX11_init_44 : decode cX11_init 44 = .ok (.iconst 0, 1) := by decide +kernel
theorem dX11_init_45 : decode cX11_init 45 = .ok (.putfield 18, 3) := by decide +kernel
theorem dX11_init_48 : decode cX11_init 48 = .ok (.aload_n 0, 1) := by decide +kernel
theorem dX11_init_49 : decode cX11_init 49 = .ok (.new 9, 3) := by decide +kernel
theorem dX11_init_52 : decode cX11_init 52 = .ok (.dup, 1) := by decide +kernel
theorem dX11_init_53 : decode cX11_init 53 = .ok (.sipush 1000, 3) := by decide +kernel
theorem dX11_init_56 : decode cX11_init 56 = .ok (.invokespecial 15, 3) := by decide +kernel
theorem dX11_init_59 : decode cX11_init 59 = .ok (.putfield 22, 3) := by decide +kernel
theorem dX11_init_62 : decode cX11_init 62 = .ok (.aload_n 0, 1) := by decide +kernel
theorem dX11_init_63 : decode cX11_init 63 = .ok (.new 26, 3) := by decide +kernel
theorem dX11_init_66 : decode cX11_init 66 = .ok (.dup, 1) := by decide +kernel
theorem dX11_init_67 : decode cX11_init 67 = .ok (.invokespecial 28, 3) := by decide +kernel
theorem dX11_init_70 : decode cX11_init 70 = .ok (.putfield 29, 3) := by decide +kernel
theorem dX11_init_73 : decode cX11_init 73 = .ok (.aload_n 0, 1) := by decide +kernel
theorem dX11_init_74 : decode cX11_init 74 = .ok (.new 33, 3) := by decide +kernel
theorem dX11_init_77 : decode cX11_init 77 = .ok (.dup, 1) := by decide +kernel
theorem dX11_init_78 : decode cX11_init 78 = .ok (.invokespecial 35, 3) := by decide +kernel
theorem dX11_init_81 : decode cX11_init 81 = .ok (.putfield 36, 3) := by decide +kernel
theorem dX11_init_84 : decode cX11_init 84 = .ok (.aload_n 0, 1) := by decide +kernel
theorem dX11_init_85 : decode cX11_init 85 = .ok (.new 40, 3) := by decide +kernel
theorem dX11_init_88 : decode cX11_init 88 = .ok (.dup, 1) := by decide +kernel
theorem dX11_init_89 : decode cX11_init 89 = .ok (.invokespecial 42, 3) := by decide +kernel
theorem dX11_init_92 : decode cX11_init 92 = .ok (.putfield 43, 3) := by decide +kernel
theorem dX11_init_95 : decode cX11_init 95 = .ok (.aload_n 0, 1) := by decide +kernel
theorem dX11_init_96 : decode cX11_init 96 = .ok (.new 47, 3) := by decide +kernel
theorem dX11_init_99 : decode cX11_init 99 = .ok (.dup, 1) := by decide +kernel
theorem dX11_init_100 : decode cX11_init 100 = .ok (.invokespecial 49, 3) := by decide +kernel
theorem dX11_init_103 : decode cX11_init 103 = .ok (.putfield 50, 3) := by decide +kernel
theorem dX11_init_106 : decode cX11_init 106 = .ok (.aload_n 0, 1) := by decide +kernel
theorem dX11_init_107 : decode cX11_init 107 = .ok (.new 54, 3) := by decide +kernel
theorem dX11_init_110 : decode cX11_init 110 = .ok (.dup, 1) := by decide +kernel
theorem dX11_init_111 : decode cX11_init 111 = .ok (.invokespecial 56, 3) := by decide +kernel
theorem dX11_init_114 : decode cX11_init 114 = .ok (.putfield 57, 3) := by decide +kernel
theorem dX11_init_117 : decode cX11_init 117 = .ok (.return_, 1) := by decide +kernel
theorem dX11_isVariable_0 : decode cX11_isVariable 0 = .ok (.iload_n 0, 1) := by decide +kernel
theorem dX11_isVariable_1 : decode cX11_isVariable 1 = .ok (.ifCond .lt 13, 3) := by decide +kernel
theorem dX11_isVariable_4 : decode cX11_isVariable 4 = .ok (.iload_n 0, 1) := by decide +kernel
theorem dX11_isVariable_5 : decode cX11_isVariable 5 = .ok (.bipush 6, 2) := by decide +kernel
theorem dX11_isVariable_7 : decode cX11_isVariable 7 = .ok (.if_icmp .ge 7, 3) := by decide +kernel
theorem dX11_isVariable_10 : decode cX11_isVariable 10 = .ok (.iconst 1, 1) := by decide +kernel
theorem dX11_isVariable_11 : decode cX11_isVariable 11 = .ok (.goto 4, 3) := by decide +kernel
theorem dX11_isVariable_14 : decode cX11_isVariable 14 = .ok (.iconst 0, 1) := by decide +kernel
theorem dX11_isVariable_15 : decode cX11_isVariable 15 = .ok (.ireturn, 1) := by decide +kernel
theorem dX11_isWord_0 : decode cX11_isWord 0 = .ok (.iload_n 0, 1) := by decide +kernel
theorem dX11_isWord_1 : decode cX11_isWord 1 = .ok (.ifCond .lt 13, 3) := by decide +kernel
theorem dX11_isWord_4 : decode cX11_isWord 4 = .ok (.iload_n 0, 1) := by decide +kernel
theorem dX11_isWord_5 : decode cX11_isWord 5 = .ok (.bipush 16, 2) := by decide +kernel
theorem dX11_isWord_7 : decode cX11_isWord 7 = .ok (.if_icmp .ge 7, 3) := by decide +kernel
theorem dX11_isWord_10 : decode cX11_isWord 10 = .ok (.iconst 1, 1) := by decide +kernel
theorem dX11_isWord_11 : decode cX11_isWord 11 = .ok (.goto 4, 3) := by decide +kernel
theorem dX11_isWord_14 : decode cX11_isWord 14 = .ok (.iconst 0, 1) := by decide +kernel
theorem dX11_isWord_15 : decode cX11_isWord 15 = .ok (.ireturn, 1) := by decide +kernel
theorem dX11_item_0 : decode cX11_item 0 = .ok (.iload_n 2, 1) := by decide +kernel
theorem dX11_item_1 : decode cX11_item 1 = .ok (.ifCond .lt 15, 3) := by decide +kernel
theorem dX11_item_4 : decode cX11_item 4 = .ok (.iload_n 2, 1) := by decide +kernel
theorem dX11_item_5 : decode cX11_item 5 = .ok (.aload_n 0, 1) := by decide +kernel
theorem dX11_item_6 : decode cX11_item 6 = .ok (.getfield 18, 3) := by decide +kernel
theorem dX11_item_9 : decode cX11_item 9 = .ok (.if_icmp .ge 7, 3) := by decide +kernel
theorem dX11_item_16 : decode cX11_item 16 = .ok (.iconst 0, 1) := by decide +kernel
theorem dX11_item_17 : decode cX11_item 17 = .ok (.istore_n 3, 1) := by decide +kernel
theorem dX11_item_18 : decode cX11_item 18 = .ok (.iload_n 2, 1) := by decide +kernel
theorem dX11_item_19 : decode cX11_item 19 = .ok (.bipush 20, 2) := by decide +kernel
theorem dX11_item_21 : decode cX11_item 21 = .ok (.if_icmp .lt 13, 3) := by decide +kernel
theorem dX11_item_24 : decode cX11_item 24 = .ok (.iload_n 2, 1) := by decide +kernel
theorem dX11_item_25 : decode cX11_item 25 = .ok (.bipush 24, 2) := by decide +kernel
theorem dX11_item_27 : decode cX11_item 27 = .ok (.if_icmp .gt 7, 3) := by decide +kernel
theorem dX11_item_30 : decode cX11_item 30 = .ok (.iconst 1, 1) := by decide +kernel
theorem dX11_item_31 : decode cX11_item 31 = .ok (.goto 4, 3) := by decide +kernel
theorem dX11_item_34 : decode cX11_item 34 = .ok (.iconst 0, 1) := by decide +kernel
theorem dX11_item_35 : decode cX11_item 35 = .ok (.istore 4, 2) := by decide +kernel
theorem dX11_item_37 : decode cX11_item 37 = .ok (.iload_n 3, 1) := by decide +kernel
theorem dX11_item_38 : decode cX11_item 38 = .ok (.ifCond .ne 10, 3) := by decide +kernel
theorem dX11_item_41 : decode cX11_item 41 = .ok (.iload 4, 2) := by decide +kernel
theorem dX11_item_43 : decode cX11_item 43 = .ok (.ifCond .ne 5, 3) := by decide +kernel
theorem dX11_item_46 : decode cX11_item 46 = .ok (.iconst (-1), 1) := by decide +kernel
theorem dX11_item_47 : decode cX11_item 47 = .ok (.ireturn, 1) := by decide +kernel
theorem dX11_item_48 : decode cX11_item 48 = .ok (.aload_n 0, 1) := by decide +kernel
theorem dX11_item_49 : decode cX11_item 49 = .ok (.getfield 50, 3) := by decide +kernel
theorem dX11_item_52 : decode cX11_item 52 = .ok (.iload_n 1, 1) := by decide +kernel
theorem dX11_item_53 : decode cX11_item 53 = .ok (.iload_n 2, 1) := by decide +kernel
theorem dX11_item_54 : decode cX11_item 54 = .ok (.invokevirtual 191, 3) := by decide +kernel
theorem dX11_item_57 : decode cX11_item 57 = .ok (.ireturn, 1) := by decide +kernel
theorem dX11_judge_0 : decode cX11_judge 0 = .ok (.aload_n 0, 1) := by decide +kernel
theorem dX11_judge_1 : decode cX11_judge 1 = .ok (.iload_n 1, 1) := by decide +kernel
theorem dX11_judge_2 : decode cX11_judge 2 = .ok (.invokevirtual 77, 3) := by decide +kernel
theorem dX11_judge_5 : decode cX11_judge 5 = .ok (.astore 4, 2) := by decide +kernel
theorem dX11_judge_7 : decode cX11_judge 7 = .ok (.aload_n 0, 1) := by decide +kernel
theorem dX11_judge_8 : decode cX11_judge 8 = .ok (.iload_n 2, 1) := by decide +kernel
theorem dX11_judge_9 : decode cX11_judge 9 = .ok (.invokevirtual 77, 3) := by decide +kernel
theorem dX11_judge_12 : decode cX11_judge 12 = .ok (.astore 5, 2) := by decide +kernel
theorem dX11_judge_14 : decode cX11_judge 14 = .ok (.aload 4, 2) := by decide +kernel
theorem dX11_judge_16 : decode cX11_judge 16 = .ok (.ifnull 17, 3) := by decide +kernel
theorem dX11_judge_19 : decode cX11_judge 19 = .ok (.aload 5, 2) := by decide +kernel
theorem dX11_judge_21 : decode cX11_judge 21 = .ok (.ifnull 12, 3) := by decide +kernel
theorem dX11_judge_24 : decode cX11_judge 24 = .ok (.iload_n 3, 1) := by decide +kernel
theorem dX11_judge_25 : decode cX11_judge 25 = .ok (.ifCond .lt 8, 3) := by decide +kernel
theorem dX11_judge_28 : decode cX11_judge 28 = .ok (.iload_n 3, 1) := by decide +kernel
theorem dX11_judge_29 : decode cX11_judge 29 = .ok (.iconst 3, 1) := by decide +kernel
theorem dX11_judge_30 : decode cX11_judge 30 = .ok (.if_icmp .le 5, 3) := by decide +kernel
theorem dX11_judge_33 : decode cX11_judge 33 = .ok (.iconst (-1), 1) := by decide +kernel
theorem dX11_judge_34 : decode cX11_judge 34 = .ok (.ireturn, 1) := by decide +kernel
theorem dX11_judge_35 : decode cX11_judge 35 = .ok (.aload_n 0, 1) := by decide +kernel
theorem dX11_judge_36 : decode cX11_judge 36 = .ok (.getfield 50, 3) := by decide +kernel
theorem dX11_judge_39 : decode cX11_judge 39 = .ok (.getfield 143, 3) := by decide +kernel
theorem dX11_judge_42 : decode cX11_judge 42 = .ok (.astore 6, 2) := by decide +kernel
theorem dX11_judge_44 : decode cX11_judge 44 = .ok (.aload 6, 2) := by decide +kernel
theorem dX11_judge_46 : decode cX11_judge 46 = .ok (.aload 4, 2) := by decide +kernel
theorem dX11_judge_48 : decode cX11_judge 48 = .ok (.aload 5, 2) := by decide +kernel
theorem dX11_judge_50 : decode cX11_judge 50 = .ok (.iconst 0, 1) := by decide +kernel
theorem dX11_judge_51 : decode cX11_judge 51 = .ok (.invokevirtual 147, 3) := by decide +kernel
theorem dX11_judge_54 : decode cX11_judge 54 = .ok (.pop, 1) := by decide +kernel
theorem dX11_judge_55 : decode cX11_judge 55 = .ok (.iload_n 3, 1) := by decide +kernel
theorem dX11_judge_56 : decode cX11_judge 56 = .ok (.tableswitch 46 0 2 #[28, 34, 40], 28) := by decide +kernel
theorem dX11_judge_84 : decode cX11_judge 84 = .ok (.aload 6, 2) := by decide +kernel
theorem dX11_judge_86 : decode cX11_judge 86 = .ok (.invokevirtual 153, 3) := by decide +kernel
theorem dX11_judge_89 : decode cX11_judge 89 = .ok (.ireturn, 1) := by decide +kernel
theorem dX11_judge_90 : decode cX11_judge 90 = .ok (.aload 6, 2) := by decide +kernel
theorem dX11_judge_92 : decode cX11_judge 92 = .ok (.getfield 156, 3) := by decide +kernel
theorem dX11_judge_95 : decode cX11_judge 95 = .ok (.ireturn, 1) := by decide +kernel
theorem dX11_judge_96 : decode cX11_judge 96 = .ok (.aload 6, 2) := by decide +kernel
theorem dX11_judge_98 : decode cX11_judge 98 = .ok (.getfield 159, 3) := by decide +kernel
theorem dX11_judge_101 : decode cX11_judge 101 = .ok (.ireturn, 1) := by decide +kernel
theorem dX11_judge_102 : decode cX11_judge 102 = .ok (.aload 6, 2) := by decide +kernel
theorem dX11_judge_104 : decode cX11_judge 104 = .ok (.getfield 162, 3) := by decide +kernel
theorem dX11_judge_107 : decode cX11_judge 107 = .ok (.ireturn, 1) := by decide +kernel
theorem dX11_make_0 : decode cX11_make 0 = .ok (.aload_n 0, 1) := by decide +kernel
theorem dX11_make_1 : decode cX11_make 1 = .ok (.iload_n 2, 1) := by decide +kernel
theorem dX11_make_2 : decode cX11_make 2 = .ok (.invokevirtual 77, 3) := by decide +kernel
theorem dX11_make_5 : decode cX11_make 5 = .ok (.astore 4, 2) := by decide +kernel
theorem dX11_make_7 : decode cX11_make 7 = .ok (.aload_n 0, 1) := by decide +kernel
theorem dX11_make_8 : decode cX11_make 8 = .ok (.iload_n 3, 1) := by decide +kernel
theorem dX11_make_9 : decode cX11_make 9 = .ok (.invokevirtual 77, 3) := by decide +kernel
theorem dX11_make_12 : decode cX11_make 12 = .ok (.astore 5, 2) := by decide +kernel
theorem dX11_make_14 : decode cX11_make 14 = .ok (.aload 4, 2) := by decide +kernel
theorem dX11_make_16 : decode cX11_make 16 = .ok (.ifnull 21, 3) := by decide +kernel
theorem dX11_make_19 : decode cX11_make 19 = .ok (.aload 5, 2) := by decide +kernel
theorem dX11_make_21 : decode cX11_make 21 = .ok (.ifnull 16, 3) := by decide +kernel
theorem dX11_make_24 : decode cX11_make 24 = .ok (.aload_n 0, 1) := by decide +kernel
theorem dX11_make_25 : decode cX11_make 25 = .ok (.getfield 50, 3) := by decide +kernel
theorem dX11_make_28 : decode cX11_make 28 = .ok (.iload_n 1, 1) := by decide +kernel
theorem dX11_make_29 : decode cX11_make 29 = .ok (.aload 4, 2) := by decide +kernel
theorem dX11_make_31 : decode cX11_make 31 = .ok (.invokevirtual 198, 3) := by decide +kernel
theorem dX11_make_34 : decode cX11_make 34 = .ok (.ifCond .ne 5, 3) := by decide +kernel
theorem dX11_make_37 : decode cX11_make 37 = .ok (.iconst (-1), 1) := by decide +kernel
theorem dX11_make_38 : decode cX11_make 38 = .ok (.ireturn, 1) := by decide +kernel
theorem dX11_make_39 : decode cX11_make 39 = .ok (.aload 5, 2) := by decide +kernel
theorem dX11_make_41 : decode cX11_make 41 = .ok (.aload_n 0, 1) := by decide +kernel
theorem dX11_make_42 : decode cX11_make 42 = .ok (.getfield 50, 3) := by decide +kernel
theorem dX11_make_45 : decode cX11_make 45 = .ok (.getfield 202, 3) := by decide +kernel
theorem dX11_make_48 : decode cX11_make 48 = .ok (.invokevirtual 92, 3) := by decide +kernel
theorem dX11_make_51 : decode cX11_make 51 = .ok (.aload 5, 2) := by decide +kernel
theorem dX11_make_53 : decode cX11_make 53 = .ok (.invokevirtual 95, 3) := by decide +kernel
theorem dX11_make_56 : decode cX11_make 56 = .ok (.ireturn, 1) := by decide +kernel
theorem dX11_places_0 : decode cX11_places 0 = .ok (.aload_n 0, 1) := by decide +kernel
theorem dX11_places_1 : decode cX11_places 1 = .ok (.iload_n 1, 1) := by decide +kernel
theorem dX11_places_2 : decode cX11_places 2 = .ok (.invokevirtual 165, 3) := by decide +kernel
theorem dX11_places_5 : decode cX11_places 5 = .ok (.astore_n 3, 1) := by decide +kernel
theorem dX11_places_6 : decode cX11_places 6 = .ok (.aload_n 0, 1) := by decide +kernel
theorem dX11_places_7 : decode cX11_places 7 = .ok (.iload_n 2, 1) := by decide +kernel
theorem dX11_places_8 : decode cX11_places 8 = .ok (.invokevirtual 77, 3) := by decide +kernel
theorem dX11_places_11 : decode cX11_places 11 = .ok (.astore 4, 2) := by decide +kernel
theorem dX11_places_13 : decode cX11_places 13 = .ok (.aload_n 3, 1) := by decide +kernel
theorem dX11_places_14 : decode cX11_places 14 = .ok (.ifnull 8, 3) := by decide +kernel
theorem dX11_places_22 : decode cX11_places 22 = .ok (.iconst (-1), 1) := by decide +kernel
theorem dX11_places_23 : decode cX11_places 23 = .ok (.goto 9, 3) := by decide +kernel
theorem dX11_places_32 : decode cX11_places 32 = .ok (.ireturn, 1) := by decide +kernel
theorem dX11_program_0 : decode cX11_program 0 = .ok (.aload_n 0, 1) := by decide +kernel
theorem dX11_program_1 : decode cX11_program 1 = .ok (.iload_n 1, 1) := by decide +kernel
theorem dX11_program_2 : decode cX11_program 2 = .ok (.invokevirtual 77, 3) := by decide +kernel
theorem dX11_program_5 : decode cX11_program 5 = .ok (.astore_n 2, 1) := by decide +kernel
theorem dX11_program_6 : decode cX11_program 6 = .ok (.aload_n 2, 1) := by decide +kernel
theorem dX11_program_7 : decode cX11_program 7 = .ok (.ifnonnull 12, 3) := by decide +kernel
theorem dX11_program_10 : decode cX11_program 10 = .ok (.aload_n 0, 1) := by decide +kernel
theorem dX11_program_11 : decode cX11_program 11 = .ok (.getfield 29, 3) := by decide +kernel
theorem dX11_program_14 : decode cX11_program 14 = .ok (.invokevirtual 81, 3) := by decide +kernel
theorem dX11_program_17 : decode cX11_program 17 = .ok (.iconst (-1), 1) := by decide +kernel
theorem dX11_program_18 : decode cX11_program 18 = .ok (.ireturn, 1) := by decide +kernel
theorem dX11_program_19 : decode cX11_program 19 = .ok (.aload_n 0, 1) := by decide +kernel
theorem dX11_program_20 : decode cX11_program 20 = .ok (.getfield 29, 3) := by decide +kernel
theorem dX11_program_23 : decode cX11_program 23 = .ok (.aload_n 0, 1) := by decide +kernel
theorem dX11_program_24 : decode cX11_program 24 = .ok (.getfield 22, 3) := by decide +kernel
theorem dX11_program_27 : decode cX11_program 27 = .ok (.invokevirtual 84, 3) := by decide +kernel
theorem dX11_program_30 : decode cX11_program 30 = .ok (.aload_n 0, 1) := by decide +kernel
theorem dX11_program_31 : decode cX11_program 31 = .ok (.getfield 29, 3) := by decide +kernel
theorem dX11_program_34 : decode cX11_program 34 = .ok (.invokevirtual 88, 3) := by decide +kernel
theorem dX11_program_37 : decode cX11_program 37 = .ok (.ifCond .ne 5, 3) := by decide +kernel
theorem dX11_program_42 : decode cX11_program 42 = .ok (.aload_n 2, 1) := by decide +kernel
theorem dX11_program_43 : decode cX11_program 43 = .ok (.aload_n 0, 1) := by decide +kernel
theorem dX11_program_44 : decode cX11_program 44 = .ok (.getfield 22, 3) := by decide +kernel
theorem dX11_program_47 : decode cX11_program 47 = .ok (.invokevirtual 92, 3) := by decide +kernel
theorem dX11_program_50 : decode cX11_program 50 = .ok (.aload_n 2, 1) := by decide +kernel
theorem dX11_program_51 : decode cX11_program 51 = .ok (.invokevirtual 95, 3) := by decide +kernel
theorem dX11_program_54 : decode cX11_program 54 = .ok (.ireturn, 1) := by decide +kernel
theorem dX11_registers_0 : decode cX11_registers 0 = .ok (.aload_n 0, 1) := by decide +kernel
theorem dX11_registers_1 : decode cX11_registers 1 = .ok (.iload_n 1, 1) := by decide +kernel
theorem dX11_registers_2 : decode cX11_registers 2 = .ok (.invokevirtual 77, 3) := by decide +kernel
theorem dX11_registers_5 : decode cX11_registers 5 = .ok (.astore_n 3, 1) := by decide +kernel
theorem dX11_registers_6 : decode cX11_registers 6 = .ok (.aload_n 3, 1) := by decide +kernel
theorem dX11_registers_7 : decode cX11_registers 7 = .ok (.ifnonnull 5, 3) := by decide +kernel
theorem dX11_registers_10 : decode cX11_registers 10 = .ok (.iconst (-1), 1) := by decide +kernel
theorem dX11_registers_11 : decode cX11_registers 11 = .ok (.ireturn, 1) := by decide +kernel
theorem dX11_registers_12 : decode cX11_registers 12 = .ok (.aload_n 0, 1) := by decide +kernel
theorem dX11_registers_13 : decode cX11_registers 13 = .ok (.getfield 57, 3) := by decide +kernel
theorem dX11_registers_16 : decode cX11_registers 16 = .ok (.aload_n 3, 1) := by decide +kernel
theorem dX11_registers_17 : decode cX11_registers 17 = .ok (.invokevirtual 220, 3) := by decide +kernel
theorem dX11_registers_20 : decode cX11_registers 20 = .ok (.iload_n 2, 1) := by decide +kernel
theorem dX11_registers_21 : decode cX11_registers 21 = .ok (.ifCond .ne 11, 3) := by decide +kernel
theorem dX11_registers_24 : decode cX11_registers 24 = .ok (.aload_n 0, 1) := by decide +kernel
theorem dX11_registers_25 : decode cX11_registers 25 = .ok (.getfield 57, 3) := by decide +kernel
theorem dX11_registers_28 : decode cX11_registers 28 = .ok (.invokevirtual 223, 3) := by decide +kernel
theorem dX11_registers_31 : decode cX11_registers 31 = .ok (.ireturn, 1) := by decide +kernel
theorem dX11_registers_32 : decode cX11_registers 32 = .ok (.iload_n 2, 1) := by decide +kernel
theorem dX11_registers_33 : decode cX11_registers 33 = .ok (.bipush 10, 2) := by decide +kernel
theorem dX11_registers_35 : decode cX11_registers 35 = .ok (.if_icmp .lt 21, 3) := by decide +kernel
theorem dX11_registers_38 : decode cX11_registers 38 = .ok (.iload_n 2, 1) := by decide +kernel
theorem dX11_registers_39 : decode cX11_registers 39 = .ok (.bipush 16, 2) := by decide +kernel
theorem dX11_registers_41 : decode cX11_registers 41 = .ok (.if_icmp .ge 15, 3) := by decide +kernel
theorem dX11_registers_44 : decode cX11_registers 44 = .ok (.aload_n 0, 1) := by decide +kernel
theorem dX11_registers_45 : decode cX11_registers 45 = .ok (.getfield 57, 3) := by decide +kernel
theorem dX11_registers_48 : decode cX11_registers 48 = .ok (.iload_n 2, 1) := by decide +kernel
theorem dX11_registers_49 : decode cX11_registers 49 = .ok (.bipush 10, 2) := by decide +kernel
theorem dX11_registers_51 : decode cX11_registers 51 = .ok (.isub, 1) := by decide +kernel
theorem dX11_registers_52 : decode cX11_registers 52 = .ok (.invokevirtual 226, 3) := by decide +kernel
theorem dX11_registers_55 : decode cX11_registers 55 = .ok (.ireturn, 1) := by decide +kernel
theorem dX11_registers_56 : decode cX11_registers 56 = .ok (.iload_n 2, 1) := by decide +kernel
theorem dX11_registers_57 : decode cX11_registers 57 = .ok (.bipush 20, 2) := by decide +kernel
theorem dX11_registers_59 : decode cX11_registers 59 = .ok (.if_icmp .lt 23, 3) := by decide +kernel
theorem dX11_registers_62 : decode cX11_registers 62 = .ok (.iload_n 2, 1) := by decide +kernel
theorem dX11_registers_63 : decode cX11_registers 63 = .ok (.bipush 26, 2) := by decide +kernel
theorem dX11_registers_65 : decode cX11_registers 65 = .ok (.if_icmp .gt 17, 3) := by decide +kernel
theorem dX11_registers_68 : decode cX11_registers 68 = .ok (.aload_n 0, 1) := by decide +kernel
theorem dX11_registers_69 : decode cX11_registers 69 = .ok (.getfield 57, 3) := by decide +kernel
theorem dX11_registers_72 : decode cX11_registers 72 = .ok (.iload_n 2, 1) := by decide +kernel
theorem dX11_registers_73 : decode cX11_registers 73 = .ok (.bipush 20, 2) := by decide +kernel
theorem dX11_registers_75 : decode cX11_registers 75 = .ok (.isub, 1) := by decide +kernel
theorem dX11_registers_76 : decode cX11_registers 76 = .ok (.invokevirtual 229, 3) := by decide +kernel
theorem dX11_registers_79 : decode cX11_registers 79 = .ok (.goto 4, 3) := by decide +kernel
theorem dX11_registers_82 : decode cX11_registers 82 = .ok (.iconst (-1), 1) := by decide +kernel
theorem dX11_registers_83 : decode cX11_registers 83 = .ok (.ireturn, 1) := by decide +kernel
theorem dX11_rule_0 : decode cX11_rule 0 = .ok (.aload_n 0, 1) := by decide +kernel
theorem dX11_rule_1 : decode cX11_rule 1 = .ok (.getfield 50, 3) := by decide +kernel
theorem dX11_rule_4 : decode cX11_rule 4 = .ok (.aload_n 0, 1) := by decide +kernel
theorem dX11_rule_5 : decode cX11_rule 5 = .ok (.getfield 18, 3) := by decide +kernel
theorem dX11_rule_8 : decode cX11_rule 8 = .ok (.invokevirtual 99, 3) := by decide +kernel
theorem dX11_rule_11 : decode cX11_rule 11 = .ok (.astore_n 1, 1) := by decide +kernel
theorem dX11_rule_12 : decode cX11_rule 12 = .ok (.aload_n 1, 1) := by decide +kernel
theorem dX11_rule_13 : decode cX11_rule 13 = .ok (.ifnonnull 12, 3) := by decide +kernel
theorem dX11_rule_25 : decode cX11_rule 25 = .ok (.aload_n 0, 1) := by decide +kernel
theorem dX11_rule_26 : decode cX11_rule 26 = .ok (.getfield 29, 3) := by decide +kernel
theorem dX11_rule_29 : decode cX11_rule 29 = .ok (.aload_n 1, 1) := by decide +kernel
theorem dX11_rule_30 : decode cX11_rule 30 = .ok (.invokevirtual 103, 3) := by decide +kernel
theorem dX11_rule_33 : decode cX11_rule 33 = .ok (.aload_n 0, 1) := by decide +kernel
theorem dX11_rule_34 : decode cX11_rule 34 = .ok (.getfield 29, 3) := by decide +kernel
theorem dX11_rule_37 : decode cX11_rule 37 = .ok (.invokevirtual 88, 3) := by decide +kernel
theorem dX11_rule_40 : decode cX11_rule 40 = .ok (.ifCond .ne 5, 3) := by decide +kernel
theorem dX11_rule_43 : decode cX11_rule 43 = .ok (.iconst (-1), 1) := by decide +kernel
theorem dX11_rule_44 : decode cX11_rule 44 = .ok (.ireturn, 1) := by decide +kernel
theorem dX11_ruleAt_0 : decode cX11_ruleAt 0 = .ok (.iload_n 1, 1) := by decide +kernel
theorem dX11_ruleAt_1 : decode cX11_ruleAt 1 = .ok (.aload_n 0, 1) := by decide +kernel
theorem dX11_ruleAt_2 : decode cX11_ruleAt 2 = .ok (.getfield 18, 3) := by decide +kernel
theorem dX11_ruleAt_5 : decode cX11_ruleAt 5 = .ok (.if_icmp .ge 14, 3) := by decide +kernel
theorem dX11_ruleAt_8 : decode cX11_ruleAt 8 = .ok (.aload_n 0, 1) := by decide +kernel
theorem dX11_ruleAt_9 : decode cX11_ruleAt 9 = .ok (.getfield 50, 3) := by decide +kernel
theorem dX11_ruleAt_12 : decode cX11_ruleAt 12 = .ok (.iload_n 1, 1) := by decide +kernel
theorem dX11_ruleAt_13 : decode cX11_ruleAt 13 = .ok (.invokevirtual 99, 3) := by decide +kernel
theorem dX11_ruleAt_16 : decode cX11_ruleAt 16 = .ok (.goto 4, 3) := by decide +kernel
theorem dX11_ruleAt_19 : decode cX11_ruleAt 19 = .ok (.aconst_null, 1) := by decide +kernel
theorem dX11_ruleAt_20 : decode cX11_ruleAt 20 = .ok (.areturn, 1) := by decide +kernel
theorem dX11_ruleOf_0 : decode cX11_ruleOf 0 = .ok (.aload_n 0, 1) := by decide +kernel
theorem dX11_ruleOf_1 : decode cX11_ruleOf 1 = .ok (.iload_n 1, 1) := by decide +kernel
theorem dX11_ruleOf_2 : decode cX11_ruleOf 2 = .ok (.invokevirtual 165, 3) := by decide +kernel
theorem dX11_ruleOf_5 : decode cX11_ruleOf 5 = .ok (.astore_n 3, 1) := by decide +kernel
theorem dX11_ruleOf_6 : decode cX11_ruleOf 6 = .ok (.aload_n 3, 1) := by decide +kernel
theorem dX11_ruleOf_7 : decode cX11_ruleOf 7 = .ok (.ifnonnull 6, 3) := by decide +kernel
theorem dX11_ruleOf_10 : decode cX11_ruleOf 10 = .ok (.bipush (-2), 2) := by decide +kernel
theorem dX11_ruleOf_12 : decode cX11_ruleOf 12 = .ok (.ireturn, 1) := by decide +kernel
theorem dX11_run_0 : decode cX11_run 0 = .ok (.aload_n 0, 1) := by decide +kernel
theorem dX11_run_1 : decode cX11_run 1 = .ok (.iload_n 1, 1) := by decide +kernel
theorem dX11_run_2 : decode cX11_run 2 = .ok (.invokevirtual 77, 3) := by decide +kernel
theorem dX11_run_5 : decode cX11_run 5 = .ok (.astore 5, 2) := by decide +kernel
theorem dX11_run_7 : decode cX11_run 7 = .ok (.aload 5, 2) := by decide +kernel
theorem dX11_run_9 : decode cX11_run 9 = .ok (.ifnull 17, 3) := by decide +kernel
theorem dX11_run_12 : decode cX11_run 12 = .ok (.iload_n 2, 1) := by decide +kernel
theorem dX11_run_13 : decode cX11_run 13 = .ok (.invokestatic 133, 3) := by decide +kernel
theorem dX11_run_16 : decode cX11_run 16 = .ok (.ifCond .eq 10, 3) := by decide +kernel
theorem dX11_run_19 : decode cX11_run 19 = .ok (.iload_n 3, 1) := by decide +kernel
theorem dX11_run_20 : decode cX11_run 20 = .ok (.invokestatic 133, 3) := by decide +kernel
theorem dX11_run_23 : decode cX11_run 23 = .ok (.ifCond .ne 5, 3) := by decide +kernel
theorem dX11_run_26 : decode cX11_run 26 = .ok (.iconst (-1), 1) := by decide +kernel
theorem dX11_run_27 : decode cX11_run 27 = .ok (.ireturn, 1) := by decide +kernel
theorem dX11_run_28 : decode cX11_run 28 = .ok (.aload_n 0, 1) := by decide +kernel
theorem dX11_run_29 : decode cX11_run 29 = .ok (.getfield 36, 3) := by decide +kernel
theorem dX11_run_32 : decode cX11_run 32 = .ok (.getfield 121, 3) := by decide +kernel
theorem dX11_run_35 : decode cX11_run 35 = .ok (.aload 5, 2) := by decide +kernel
theorem dX11_run_37 : decode cX11_run 37 = .ok (.invokevirtual 125, 3) := by decide +kernel
theorem dX11_run_40 : decode cX11_run 40 = .ok (.aload_n 0, 1) := by decide +kernel
theorem dX11_run_41 : decode cX11_run 41 = .ok (.getfield 36, 3) := by decide +kernel
theorem dX11_run_44 : decode cX11_run 44 = .ok (.iload_n 2, 1) := by decide +kernel
theorem dX11_run_45 : decode cX11_run 45 = .ok (.iload_n 3, 1) := by decide +kernel
theorem dX11_run_46 : decode cX11_run 46 = .ok (.invokevirtual 136, 3) := by decide +kernel
theorem dX11_run_49 : decode cX11_run 49 = .ok (.aload_n 0, 1) := by decide +kernel
theorem dX11_run_50 : decode cX11_run 50 = .ok (.getfield 36, 3) := by decide +kernel
theorem dX11_run_53 : decode cX11_run 53 = .ok (.iload 4, 2) := by decide +kernel
theorem dX11_run_55 : decode cX11_run 55 = .ok (.invokevirtual 140, 3) := by decide +kernel
