theorem dX12_next0_40 : decode cX12_next0 40 = .ok (.aload_n 0, 1) := by decide +kernel
theorem dX12_next0_41 : decode cX12_next0 41 = .ok (.getfield 127, 3) := by decide +kernel
theorem dX12_next0_44 : decode cX12_next0 44 = .ok (.putfield 130, 3) := by decide +kernel
theorem dX12_next0_47 : decode cX12_next0 47 = .ok (.aload_n 0, 1) := by decide +kernel
theorem dX12_next0_48 : decode cX12_next0 48 = .ok (.aload_n 0, 1) := by decide +kernel
theorem dX12_next0_49 : decode cX12_next0 49 = .ok (.getfield 127, 3) := by decide +kernel
theorem dX12_next0_52 : decode cX12_next0 52 = .ok (.invokevirtual 161, 3) := by decide +kernel
theorem dX12_next0_55 : decode cX12_next0 55 = .ok (.istore_n 1, 1) := by decide +kernel
theorem dX12_next0_56 : decode cX12_next0 56 = .ok (.iload_n 1, 1) := by decide +kernel
theorem dX12_next0_57 : decode cX12_next0 57 = .ok (.iconst (-1), 1) := by decide +kernel
theorem dX12_next0_58 : decode cX12_next0 58 = .ok (.if_icmp .ne 11, 3) := by decide +kernel
theorem dX12_next0_61 : decode cX12_next0 61 = .ok (.aload_n 0, 1) := by decide +kernel
theorem dX12_next0_62 : decode cX12_next0 62 = .ok (.iconst 0, 1) := by decide +kernel
theorem dX12_next0_63 : decode cX12_next0 63 = .ok (.putfield 164, 3) := by decide +kernel
theorem dX12_next0_66 : decode cX12_next0 66 = .ok (.goto 285, 3) := by decide +kernel
theorem dX12_next0_69 : decode cX12_next0 69 = .ok (.iload_n 1, 1) := by decide +kernel
theorem dX12_next0_70 : decode cX12_next0 70 = .ok (.invokestatic 167, 3) := by decide +kernel
theorem dX12_next0_73 : decode cX12_next0 73 = .ok (.ifCond .eq 41, 3) := by decide +kernel
theorem dX12_next0_76 : decode cX12_next0 76 = .ok (.aload_n 0, 1) := by decide +kernel
theorem dX12_next0_77 : decode cX12_next0 77 = .ok (.aload_n 0, 1) := by decide +kernel
theorem dX12_next0_78 : decode cX12_next0 78 = .ok (.getfield 127, 3) := by decide +kernel
theorem dX12_next0_81 : decode cX12_next0 81 = .ok (.invokevirtual 161, 3) := by decide +kernel
theorem dX12_next0_84 : decode cX12_next0 84 = .ok (.invokestatic 167, 3) := by decide +kernel
theorem dX12_next0_87 : decode cX12_next0 87 = .ok (.ifCond .eq 16, 3) := by decide +kernel
theorem dX12_next0_90 : decode cX12_next0 90 = .ok (.aload_n 0, 1) := by decide +kernel
theorem dX12_next0_91 : decode cX12_next0 91 = .ok (.dup, 1) := by decide +kernel
theorem dX12_next0_92 : decode cX12_next0 92 = .ok (.getfield 127, 3) := by decide +kernel
theorem dX12_next0_95 : decode cX12_next0 95 = .ok (.iconst 1, 1) := by decide +kernel
theorem dX12_next0_96 : decode cX12_next0 96 = .ok (.iadd, 1) := by decide +kernel
theorem dX12_next0_97 : decode cX12_next0 97 = .ok (.putfield 127, 3) := by decide +kernel
theorem dX12_next0_100 : decode cX12_next0 100 = .ok (.goto (-24), 3) := by decide +kernel
theorem dX12_next0_103 : decode cX12_next0 103 = .ok (.aload_n 0, 1) := by decide +kernel
theorem dX12_next0_104 : decode cX12_next0 104 = .ok (.aload_n 0, 1) := by decide +kernel
theorem dX12_next0_105 : decode cX12_next0 105 = .ok (.invokevirtual 170, 3) := by decide +kernel
theorem dX12_next0_108 : decode cX12_next0 108 = .ok (.putfield 164, 3) := by decide +kernel
theorem dX12_next0_111 : decode cX12_next0 111 = .ok (.goto 240, 3) := by decide +kernel
theorem dX12_next0_114 : decode cX12_next0 114 = .ok (.iload_n 1, 1) := by decide +kernel
theorem dX12_next0_115 : decode cX12_next0 115 = .ok (.invokestatic 173, 3) := by decide +kernel
theorem dX12_next0_118 : decode cX12_next0 118 = .ok (.ifCond .eq 96, 3) := by decide +kernel
theorem dX12_next0_121 : decode cX12_next0 121 = .ok (.aload_n 0, 1) := by decide +kernel
theorem dX12_next0_122 : decode cX12_next0 122 = .ok (.iconst 0, 1) := by decide +kernel
theorem dX12_next0_123 : decode cX12_next0 123 = .ok (.putfield 176, 3) := by decide +kernel
theorem dX12_next0_126 : decode cX12_next0 126 = .ok (.aload_n 0, 1) := by decide +kernel
theorem dX12_next0_127 : decode cX12_next0 127 = .ok (.aload_n 0, 1) := by decide +kernel
theorem dX12_next0_128 : decode cX12_next0 128 = .ok (.getfield 127, 3) := by decide +kernel
theorem dX12_next0_131 : decode cX12_next0 131 = .ok (.invokevirtual 161, 3) := by decide +kernel
theorem dX12_next0_134 : decode cX12_next0 134 = .ok (.invokestatic 173, 3) := by decide +kernel
theorem dX12_next0_137 : decode cX12_next0 137 = .ok (.ifCond .eq 52, 3) := by decide +kernel
theorem dX12_next0_140 : decode cX12_next0 140 = .ok (.aload_n 0, 1) := by decide +kernel
theorem dX12_next0_141 : decode cX12_next0 141 = .ok (.getfield 127, 3) := by decide +kernel
theorem dX12_next0_144 : decode cX12_next0 144 = .ok (.aload_n 0, 1) := by decide +kernel
theorem dX12_next0_145 : decode cX12_next0 145 = .ok (.getfield 130, 3) := by decide +kernel
theorem dX12_next0_148 : decode cX12_next0 148 = .ok (.iconst 4, 1) := by decide +kernel
theorem dX12_next0_149 : decode cX12_next0 149 = .ok (.iadd, 1) := by decide +kernel
theorem dX12_next0_150 : decode cX12_next0 150 = .ok (.if_icmp .ge 26, 3) := by decide +kernel
theorem dX12_next0_153 : decode cX12_next0 153 = .ok (.aload_n 0, 1) := by decide +kernel
theorem dX12_next0_154 : decode cX12_next0 154 = .ok (.bipush 10, 2) := by decide +kernel
theorem dX12_next0_156 : decode cX12_next0 156 = .ok (.aload_n 0, 1) := by decide +kernel
theorem dX12_next0_157 : decode cX12_next0 157 = .ok (.getfield 176, 3) := by decide +kernel
theorem dX12_next0_160 : decode cX12_next0 160 = .ok (.imul, 1) := by decide +kernel
theorem dX12_next0_161 : decode cX12_next0 161 = .ok (.aload_n 0, 1) := by decide +kernel
theorem dX12_next0_162 : decode cX12_next0 162 = .ok (.aload_n 0, 1) := by decide +kernel
theorem dX12_next0_163 : decode cX12_next0 163 = .ok (.getfield 127, 3) := by decide +kernel
theorem dX12_next0_166 : decode cX12_next0 166 = .ok (.invokevirtual 161, 3) := by decide +kernel
theorem dX12_next0_169 : decode cX12_next0 169 = .ok (.iadd, 1) := by decide +kernel
theorem dX12_next0_170 : decode cX12_next0 170 = .ok (.bipush 48, 2) := by decide +kernel
theorem dX12_next0_172 : decode cX12_next0 172 = .ok (.isub, 1) := by decide +kernel
theorem dX12_next0_173 : decode cX12_next0 173 = .ok (.putfield 176, 3) := by decide +kernel
theorem dX12_next0_176 : decode cX12_next0 176 = .ok (.aload_n 0, 1) := by decide +kernel
theorem dX12_next0_177 : decode cX12_next0 177 = .ok (.dup, 1) := by decide +kernel
theorem dX12_next0_178 : decode cX12_next0 178 = .ok (.getfield 127, 3) := by decide +kernel
theorem dX12_next0_181 : decode cX12_next0 181 = .ok (.iconst 1, 1) := by decide +kernel
theorem dX12_next0_182 : decode cX12_next0 182 = .ok (.iadd, 1) := by decide +kernel
theorem dX12_next0_183 : decode cX12_next0 183 = .ok (.putfield 127, 3) := by decide +kernel
theorem dX12_next0_186 : decode cX12_next0 186 = .ok (.goto (-60), 3) := by decide +kernel
theorem dX12_next0_189 : decode cX12_next0 189 = .ok (.aload_n 0, 1) := by decide +kernel
theorem dX12_next0_190 : decode cX12_next0 190 = .ok (.aload_n 0, 1) := by decide +kernel
theorem dX12_next0_191 : decode cX12_next0 191 = .ok (.getfield 127, 3) := by decide +kernel
theorem dX12_next0_194 : decode cX12_next0 194 = .ok (.aload_n 0, 1) := by decide +kernel
theorem dX12_next0_195 : decode cX12_next0 195 = .ok (.getfield 130, 3) := by decide +kernel
theorem dX12_next0_198 : decode cX12_next0 198 = .ok (.isub, 1) := by decide +kernel
theorem dX12_next0_199 : decode cX12_next0 199 = .ok (.iconst 5, 1) := by decide +kernel
theorem dX12_next0_200 : decode cX12_next0 200 = .ok (.if_icmp .ge 7, 3) := by decide +kernel
theorem dX12_next0_203 : decode cX12_next0 203 = .ok (.iconst 2, 1) := by decide +kernel
theorem dX12_next0_204 : decode cX12_next0 204 = .ok (.goto 4, 3) := by decide +kernel
theorem dX12_next0_207 : decode cX12_next0 207 = .ok (.iconst 1, 1) := by decide +kernel
theorem dX12_next0_208 : decode cX12_next0 208 = .ok (.putfield 164, 3) := by decide +kernel
theorem dX12_next0_211 : decode cX12_next0 211 = .ok (.goto 140, 3) := by decide +kernel
theorem dX12_next0_214 : decode cX12_next0 214 = .ok (.aload_n 0, 1) := by decide +kernel
theorem dX12_next0_215 : decode cX12_next0 215 = .ok (.dup, 1) := by decide +kernel
theorem dX12_next0_216 : decode cX12_next0 216 = .ok (.getfield 127, 3) := by decide +kernel
theorem dX12_next0_219 : decode cX12_next0 219 = .ok (.iconst 1, 1) := by decide +kernel
theorem dX12_next0_220 : decode cX12_next0 220 = .ok (.iadd, 1) := by decide +kernel
theorem dX12_next0_221 : decode cX12_next0 221 = .ok (.putfield 127, 3) := by decide +kernel
theorem dX12_next0_224 : decode cX12_next0 224 = .ok (.iload_n 1, 1) := by decide +kernel
theorem dX12_next0_225 : decode cX12_next0 225 = .ok (.bipush 59, 2) := by decide +kernel
theorem dX12_next0_227 : decode cX12_next0 227 = .ok (.if_icmp .eq 63, 3) := by decide +kernel
theorem dX12_next0_230 : decode cX12_next0 230 = .ok (.iload_n 1, 1) := by decide +kernel
theorem dX12_next0_231 : decode cX12_next0 231 = .ok (.bipush 43, 2) := by decide +kernel
theorem dX12_next0_233 : decode cX12_next0 233 = .ok (.if_icmp .eq 57, 3) := by decide +kernel
theorem dX12_next0_236 : decode cX12_next0 236 = .ok (.iload_n 1, 1) := by decide +kernel
theorem dX12_next0_237 : decode cX12_next0 237 = .ok (.bipush 45, 2) := by decide +kernel
theorem dX12_next0_239 : decode cX12_next0 239 = .ok (.if_icmp .eq 51, 3) := by decide +kernel
theorem dX12_next0_242 : decode cX12_next0 242 = .ok (.iload_n 1, 1) := by decide +kernel
theorem dX12_next0_243 : decode cX12_next0 243 = .ok (.bipush 42, 2) := by decide +kernel
theorem dX12_next0_245 : decode cX12_next0 245 = .ok (.if_icmp .eq 45, 3) := by decide +kernel
theorem dX12_next0_248 : decode cX12_next0 248 = .ok (.iload_n 1, 1) := by decide +kernel
theorem dX12_next0_249 : decode cX12_next0 249 = .ok (.bipush 40, 2) := by decide +kernel
theorem dX12_next0_251 : decode cX12_next0 251 = .ok (.if_icmp .eq 39, 3) := by decide +kernel
theorem dX12_next0_254 : decode cX12_next0 254 = .ok (.iload_n 1, 1) := by decide +kernel
theorem dX12_next0_255 : decode cX12_next0 255 = .ok (.bipush 41, 2) := by decide +kernel
theorem dX12_next0_257 : decode cX12_next0 257 = .ok (.if_icmp .eq 33, 3) := by decide +kernel
theorem dX12_next0_260 : decode cX12_next0 260 = .ok (.iload_n 1, 1) := by decide +kernel
theorem dX12_next0_261 : decode cX12_next0 261 = .ok (.bipush 123, 2) := by decide +kernel
theorem dX12_next0_263 : decode cX12_next0 263 = .ok (.if_icmp .eq 27, 3) := by decide +kernel
theorem dX12_next0_266 : decode cX12_next0 266 = .ok (.iload_n 1, 1) := by decide +kernel
theorem dX12_next0_267 : decode cX12_next0 267 = .ok (.bipush 125, 2) := by decide +kernel
theorem dX12_next0_269 : decode cX12_next0 269 = .ok (.if_icmp .eq 21, 3) := by decide +kernel
theorem dX12_next0_272 : decode cX12_next0 272 = .ok (.iload_n 1, 1) := by decide +kernel
theorem dX12_next0_273 : decode cX12_next0 273 = .ok (.bipush 60, 2) := by decide +kernel
theorem dX12_next0_275 : decode cX12_next0 275 = .ok (.if_icmp .eq 15, 3) := by decide +kernel
theorem dX12_next0_278 : decode cX12_next0 278 = .ok (.iload_n 1, 1) := by decide +kernel
theorem dX12_next0_279 : decode cX12_next0 279 = .ok (.bipush 61, 2) := by decide +kernel
theorem dX12_next0_281 : decode cX12_next0 281 = .ok (.if_icmp .eq 9, 3) := by decide +kernel
theorem dX12_next0_284 : decode cX12_next0 284 = .ok (.iload_n 1, 1) := by decide +kernel
theorem dX12_next0_285 : decode cX12_next0 285 = .ok (.bipush 62, 2) := by decide +kernel
theorem dX12_next0_287 : decode cX12_next0 287 = .ok (.if_icmp .ne 7, 3) := by decide +kernel
theorem dX12_next0_290 : decode cX12_next0 290 = .ok (.iconst 1, 1) := by decide +kernel
theorem dX12_next0_291 : decode cX12_next0 291 = .ok (.goto 4, 3) := by decide +kernel
theorem dX12_next0_294 : decode cX12_next0 294 = .ok (.iconst 0, 1) := by decide +kernel
theorem dX12_next0_295 : decode cX12_next0 295 = .ok (.istore_n 2, 1) := by decide +kernel
theorem dX12_next0_296 : decode cX12_next0 296 = .ok (.aload_n 0, 1) := by decide +kernel
theorem dX12_next0_297 : decode cX12_next0 297 = .ok (.iload_n 2, 1) := by decide +kernel
theorem dX12_next0_298 : decode cX12_next0 298 = .ok (.ifCond .eq 7, 3) := by decide +kernel
theorem dX12_next0_301 : decode cX12_next0 301 = .ok (.iload_n 1, 1) := by decide +kernel
theorem dX12_next0_302 : decode cX12_next0 302 = .ok (.goto 4, 3) := by decide +kernel
theorem dX12_next0_305 : decode cX12_next0 305 = .ok (.iconst 1, 1) := by decide +kernel
theorem dX12_next0_306 : decode cX12_next0 306 = .ok (.putfield 164, 3) := by decide +kernel
theorem dX12_next0_309 : decode cX12_next0 309 = .ok (.aload_n 0, 1) := by decide +kernel
theorem dX12_next0_310 : decode cX12_next0 310 = .ok (.getfield 143, 3) := by decide +kernel
theorem dX12_next0_313 : decode cX12_next0 313 = .ok (.ifCond .eq 38, 3) := by decide +kernel
theorem dX12_next0_316 : decode cX12_next0 316 = .ok (.iload_n 1, 1) := by decide +kernel
theorem dX12_next0_317 : decode cX12_next0 317 = .ok (.bipush 45, 2) := by decide +kernel
theorem dX12_next0_319 : decode cX12_next0 319 = .ok (.if_icmp .ne 32, 3) := by decide +kernel
theorem dX12_next0_322 : decode cX12_next0 322 = .ok (.aload_n 0, 1) := by decide +kernel
theorem dX12_next0_323 : decode cX12_next0 323 = .ok (.aload_n 0, 1) := by decide +kernel
theorem dX12_next0_324 : decode cX12_next0 324 = .ok (.getfield 127, 3) := by decide +kernel
theorem dX12_next0_327 : decode cX12_next0 327 = .ok (.invokevirtual 161, 3) := by decide +kernel
theorem dX12_next0_330 : decode cX12_next0 330 = .ok (.bipush 62, 2) := by decide +kernel
theorem dX12_next0_332 : decode cX12_next0 332 = .ok (.if_icmp .ne 19, 3) := by decide +kernel
theorem dX12_next0_335 : decode cX12_next0 335 = .ok (.aload_n 0, 1) := by decide +kernel
theorem dX12_next0_336 : decode cX12_next0 336 = .ok (.dup, 1) := by decide +kernel
theorem dX12_next0_337 : decode cX12_next0 337 = .ok (.getfield 127, 3) := by decide +kernel
theorem dX12_next0_340 : decode cX12_next0 340 = .ok (.iconst 1, 1) := by decide +kernel
theorem dX12_next0_341 : decode cX12_next0 341 = .ok (.iadd, 1) := by decide +kernel
theorem dX12_next0_342 : decode cX12_next0 342 = .ok (.putfield 127, 3) := by decide +kernel
theorem dX12_next0_345 : decode cX12_next0 345 = .ok (.aload_n 0, 1) := by decide +kernel
theorem dX12_next0_346 : decode cX12_next0 346 = .ok (.bipush 8, 2) := by decide +kernel
theorem dX12_next0_348 : decode cX12_next0 348 = .ok (.putfield 164, 3) := by decide +kernel
theorem dX12_next0_351 : decode cX12_next0 351 = .ok (.return_, 1) := by decide +kernel
theorem dX12_opens_0 : decode cX12_opens 0 = .ok (.aload_n 0, 1) := by decide +kernel
theorem dX12_opens_1 : decode cX12_opens 1 = .ok (.getfield 164, 3) := by decide +kernel
theorem dX12_opens_4 : decode cX12_opens 4 = .ok (.iload_n 1, 1) := by decide +kernel
theorem dX12_opens_5 : decode cX12_opens 5 = .ok (.if_icmp .eq 9, 3) := by decide +kernel
theorem dX12_opens_8 : decode cX12_opens 8 = .ok (.aload_n 0, 1) := by decide +kernel
theorem dX12_opens_9 : decode cX12_opens 9 = .ok (.iconst 1, 1) := by decide +kernel
theorem dX12_opens_10 : decode cX12_opens 10 = .ok (.invokevirtual 185, 3) := by decide +kernel
theorem dX12_opens_13 : decode cX12_opens 13 = .ok (.ireturn, 1) := by decide +kernel
theorem dX12_opens_14 : decode cX12_opens 14 = .ok (.aload_n 0, 1) := by decide +kernel
theorem dX12_opens_15 : decode cX12_opens 15 = .ok (.getfield 191, 3) := by decide +kernel
theorem dX12_opens_18 : decode cX12_opens 18 = .ok (.bipush 8, 2) := by decide +kernel
theorem dX12_opens_20 : decode cX12_opens 20 = .ok (.if_icmp .ne 9, 3) := by decide +kernel
theorem dX12_opens_23 : decode cX12_opens 23 = .ok (.aload_n 0, 1) := by decide +kernel
theorem dX12_opens_24 : decode cX12_opens 24 = .ok (.iconst 3, 1) := by decide +kernel
theorem dX12_opens_25 : decode cX12_opens 25 = .ok (.invokevirtual 185, 3) := by decide +kernel
theorem dX12_opens_28 : decode cX12_opens 28 = .ok (.ireturn, 1) := by decide +kernel
theorem dX12_opens_29 : decode cX12_opens 29 = .ok (.aload_n 0, 1) := by decide +kernel
theorem dX12_opens_30 : decode cX12_opens 30 = .ok (.dup, 1) := by decide +kernel
theorem dX12_opens_31 : decode cX12_opens 31 = .ok (.getfield 191, 3) := by decide +kernel
theorem dX12_opens_34 : decode cX12_opens 34 = .ok (.iconst 1, 1) := by decide +kernel
theorem dX12_opens_35 : decode cX12_opens 35 = .ok (.iadd, 1) := by decide +kernel
theorem dX12_opens_36 : decode cX12_opens 36 = .ok (.putfield 191, 3) := by decide +kernel
theorem dX12_opens_39 : decode cX12_opens 39 = .ok (.aload_n 0, 1) := by decide +kernel
theorem dX12_opens_40 : decode cX12_opens 40 = .ok (.invokevirtual 188, 3) := by decide +kernel
theorem dX12_opens_43 : decode cX12_opens 43 = .ok (.iconst 1, 1) := by decide +kernel
theorem dX12_opens_44 : decode cX12_opens 44 = .ok (.ireturn, 1) := by decide +kernel
theorem dX12_otherwise_0 : decode cX12_otherwise 0 = .ok (.aload_n 0, 1) := by decide +kernel
theorem dX12_otherwise_1 : decode cX12_otherwise 1 = .ok (.bipush 113, 2) := by decide +kernel
theorem dX12_otherwise_3 : decode cX12_otherwise 3 = .ok (.invokevirtual 120, 3) := by decide +kernel
theorem dX12_otherwise_6 : decode cX12_otherwise 6 = .ok (.aload_n 0, 1) := by decide +kernel
theorem dX12_otherwise_7 : decode cX12_otherwise 7 = .ok (.getfield 164, 3) := by decide +kernel
theorem dX12_otherwise_10 : decode cX12_otherwise 10 = .ok (.bipush 6, 2) := by decide +kernel
theorem dX12_otherwise_12 : decode cX12_otherwise 12 = .ok (.if_icmp .eq 5, 3) := by decide +kernel
theorem dX12_otherwise_15 : decode cX12_otherwise 15 = .ok (.iconst 1, 1) := by decide +kernel
theorem dX12_otherwise_16 : decode cX12_otherwise 16 = .ok (.ireturn, 1) := by decide +kernel
theorem dX12_otherwise_17 : decode cX12_otherwise 17 = .ok (.aload_n 0, 1) := by decide +kernel
theorem dX12_otherwise_18 : decode cX12_otherwise 18 = .ok (.invokevirtual 188, 3) := by decide +kernel
theorem dX12_otherwise_21 : decode cX12_otherwise 21 = .ok (.aload_n 0, 1) := by decide +kernel
theorem dX12_otherwise_22 : decode cX12_otherwise 22 = .ok (.invokevirtual 234, 3) := by decide +kernel
theorem dX12_otherwise_25 : decode cX12_otherwise 25 = .ok (.ireturn, 1) := by decide +kernel
theorem dX12_parts_0 : decode cX12_parts 0 = .ok (.iconst 0, 1) := by decide +kernel
theorem dX12_parts_1 : decode cX12_parts 1 = .ok (.istore_n 1, 1) := by decide +kernel
theorem dX12_parts_2 : decode cX12_parts 2 = .ok (.iconst 0, 1) := by decide +kernel
theorem dX12_parts_3 : decode cX12_parts 3 = .ok (.istore_n 2, 1) := by decide +kernel
theorem dX12_parts_4 : decode cX12_parts 4 = .ok (.iload_n 2, 1) := by decide +kernel
theorem dX12_parts_5 : decode cX12_parts 5 = .ok (.aload_n 0, 1) := by decide +kernel
theorem dX12_parts_6 : decode cX12_parts 6 = .ok (.getfield 98, 3) := by decide +kernel
theorem dX12_parts_9 : decode cX12_parts 9 = .ok (.if_icmp .ge 30, 3) := by decide +kernel
theorem dX12_parts_12 : decode cX12_parts 12 = .ok (.iload_n 1, 1) := by decide +kernel
theorem dX12_parts_13 : decode cX12_parts 13 = .ok (.aload_n 0, 1) := by decide +kernel
theorem dX12_parts_14 : decode cX12_parts 14 = .ok (.aload_n 0, 1) := by decide +kernel
theorem dX12_parts_15 : decode cX12_parts 15 = .ok (.getfield 16, 3) := by decide +kernel
theorem dX12_parts_18 : decode cX12_parts 18 = .ok (.iload_n 2, 1) := by decide +kernel
theorem dX12_parts_19 : decode cX12_parts 19 = .ok (.iaload, 1) := by decide +kernel
theorem dX12_parts_20 : decode cX12_parts 20 = .ok (.invokevirtual 114, 3) := by decide +kernel
theorem dX12_parts_23 : decode cX12_parts 23 = .ok (.ifCond .eq 7, 3) := by decide +kernel
theorem dX12_parts_26 : decode cX12_parts 26 = .ok (.iconst 1, 1) := by decide +kernel
theorem dX12_parts_27 : decode cX12_parts 27 = .ok (.goto 4, 3) := by decide +kernel
theorem dX12_parts_30 : decode cX12_parts 30 = .ok (.iconst 0, 1) := by decide +kernel
theorem dX12_parts_31 : decode cX12_parts 31 = .ok (.iadd, 1) := by decide +kernel
theorem dX12_parts_32 : decode cX12_parts 32 = .ok (.istore_n 1, 1) := by decide +kernel
theorem dX12_parts_33 : decode cX12_parts 33 = .ok (.iinc 2 1, 3) := by decide +kernel
theorem dX12_parts_36 : decode cX12_parts 36 = .ok (.goto (-32), 3) := by decide +kernel
theorem dX12_parts_39 : decode cX12_parts 39 = .ok (.iload_n 1, 1) := by decide +kernel
theorem dX12_parts_40 : decode cX12_parts 40 = .ok (.ireturn, 1) := by decide +kernel
theorem dX12_places_0 : decode cX12_places 0 = .ok (.iload_n 1, 1) := by decide +kernel
theorem dX12_places_1 : decode cX12_places 1 = .ok (.iconst 0, 1) := by decide +kernel
theorem dX12_places_2 : decode cX12_places 2 = .ok (.aload_n 0, 1) := by decide +kernel
theorem dX12_places_3 : decode cX12_places 3 = .ok (.getfield 268, 3) := by decide +kernel
theorem dX12_places_6 : decode cX12_places 6 = .ok (.iconst 1, 1) := by decide +kernel
theorem dX12_places_7 : decode cX12_places 7 = .ok (.isub, 1) := by decide +kernel
theorem dX12_places_8 : decode cX12_places 8 = .ok (.invokestatic 90, 3) := by decide +kernel
theorem dX12_places_11 : decode cX12_places 11 = .ok (.ifCond .eq 10, 3) := by decide +kernel
theorem dX12_places_14 : decode cX12_places 14 = .ok (.iload_n 2, 1) := by decide +kernel
theorem dX12_places_15 : decode cX12_places 15 = .ok (.invokestatic 249, 3) := by decide +kernel
theorem dX12_places_18 : decode cX12_places 18 = .ok (.ifCond .ne 5, 3) := by decide +kernel
theorem dX12_places_21 : decode cX12_places 21 = .ok (.iconst (-1), 1) := by decide +kernel
theorem dX12_places_22 : decode cX12_places 22 = .ok (.ireturn, 1) := by decide +kernel
theorem dX12_places_23 : decode cX12_places 23 = .ok (.aload_n 0, 1) := by decide +kernel
theorem dX12_places_24 : decode cX12_places 24 = .ok (.iload_n 2, 1) := by decide +kernel
theorem dX12_places_25 : decode cX12_places 25 = .ok (.invokevirtual 271, 3) := by decide +kernel
theorem dX12_places_28 : decode cX12_places 28 = .ok (.iconst 0, 1) := by decide +kernel
theorem dX12_places_29 : decode cX12_places 29 = .ok (.istore_n 3, 1) := by decide +kernel
theorem dX12_places_30 : decode cX12_places 30 = .ok (.iconst 0, 1) := by decide +kernel
theorem dX12_places_31 : decode cX12_places 31 = .ok (.istore 4, 2) := by decide +kernel
theorem dX12_places_33 : decode cX12_places 33 = .ok (.iload 4, 2) := by decide +kernel
theorem dX12_places_35 : decode cX12_places 35 = .ok (.aload_n 0, 1) := by decide +kernel
theorem dX12_places_36 : decode cX12_places 36 = .ok (.getfield 98, 3) := by decide +kernel
theorem dX12_places_39 : decode cX12_places 39 = .ok (.if_icmp .ge 27, 3) := by decide +kernel
theorem dX12_places_42 : decode cX12_places 42 = .ok (.iload_n 3, 1) := by decide +kernel
theorem dX12_places_43 : decode cX12_places 43 = .ok (.aload_n 0, 1) := by decide +kernel
theorem dX12_places_44 : decode cX12_places 44 = .ok (.iload_n 1, 1) := by decide +kernel
theorem dX12_places_45 : decode cX12_places 45 = .ok (.iload 4, 2) := by decide +kernel
theorem dX12_places_47 : decode cX12_places 47 = .ok (.invokevirtual 364, 3) := by decide +kernel
theorem dX12_places_50 : decode cX12_places 50 = .ok (.ifCond .eq 7, 3) := by decide +kernel
theorem dX12_places_53 : decode cX12_places 53 = .ok (.iconst 1, 1) := by decide +kernel
theorem dX12_places_54 : decode cX12_places 54 = .ok (.goto 4, 3) := by decide +kernel
theorem dX12_places_57 : decode cX12_places 57 = .ok (.iconst 0, 1) := by decide +kernel
theorem dX12_places_58 : decode cX12_places 58 = .ok (.iadd, 1) := by decide +kernel
theorem dX12_places_59 : decode cX12_places 59 = .ok (.istore_n 3, 1) := by decide +kernel
theorem dX12_places_60 : decode cX12_places 60 = .ok (.iinc 4 1, 3) := by decide +kernel
theorem dX12_places_63 : decode cX12_places 63 = .ok (.goto (-30), 3) := by decide +kernel
theorem dX12_places_66 : decode cX12_places 66 = .ok (.iload_n 3, 1) := by decide +kernel
theorem dX12_places_67 : decode cX12_places 67 = .ok (.ireturn, 1) := by decide +kernel
theorem dX12_product_0 : decode cX12_product 0 = .ok (.aload_n 0, 1) := by decide +kernel
theorem dX12_product_1 : decode cX12_product 1 = .ok (.getfield 117, 3) := by decide +kernel
theorem dX12_product_4 : decode cX12_product 4 = .ok (.istore_n 1, 1) := by decide +kernel
theorem dX12_product_5 : decode cX12_product 5 = .ok (.aload_n 0, 1) := by decide +kernel
theorem dX12_product_6 : decode cX12_product 6 = .ok (.invokevirtual 213, 3) := by decide +kernel
theorem dX12_product_9 : decode cX12_product 9 = .ok (.ifCond .ne 5, 3) := by decide +kernel
theorem dX12_product_12 : decode cX12_product 12 = .ok (.iconst 0, 1) := by decide +kernel
theorem dX12_product_13 : decode cX12_product 13 = .ok (.ireturn, 1) := by decide +kernel
theorem dX12_product_14 : decode cX12_product 14 = .ok (.aload_n 0, 1) := by decide +kernel
theorem dX12_product_15 : decode cX12_product 15 = .ok (.getfield 164, 3) := by decide +kernel
theorem dX12_product_18 : decode cX12_product 18 = .ok (.bipush 42, 2) := by decide +kernel
theorem dX12_product_20 : decode cX12_product 20 = .ok (.if_icmp .ne 32, 3) := by decide +kernel
theorem dX12_product_23 : decode cX12_product 23 = .ok (.aload_n 0, 1) := by decide +kernel
theorem dX12_product_24 : decode cX12_product 24 = .ok (.invokevirtual 206, 3) := by decide +kernel
theorem dX12_product_27 : decode cX12_product 27 = .ok (.ifCond .ne 5, 3) := by decide +kernel
theorem dX12_product_30 : decode cX12_product 30 = .ok (.iconst 0, 1) := by decide +kernel
theorem dX12_product_31 : decode cX12_product 31 = .ok (.ireturn, 1) := by decide +kernel
theorem dX12_product_32 : decode cX12_product 32 = .ok (.aload_n 0, 1) := by decide +kernel
theorem dX12_product_33 : decode cX12_product 33 = .ok (.invokevirtual 188, 3) := by decide +kernel
theorem dX12_product_36 : decode cX12_product 36 = .ok (.aload_n 0, 1) := by decide +kernel
theorem dX12_product_37 : decode cX12_product 37 = .ok (.iload_n 1, 1) := by decide +kernel
theorem dX12_product_38 : decode cX12_product 38 = .ok (.bipush 122, 2) := by decide +kernel
theorem dX12_product_40 : decode cX12_product 40 = .ok (.invokevirtual 209, 3) := by decide +kernel
theorem dX12_product_43 : decode cX12_product 43 = .ok (.aload_n 0, 1) := by decide +kernel
theorem dX12_product_44 : decode cX12_product 44 = .ok (.invokevirtual 213, 3) := by decide +kernel
theorem dX12_product_47 : decode cX12_product 47 = .ok (.ifCond .ne (-33), 3) := by decide +kernel
theorem dX12_product_50 : decode cX12_product 50 = .ok (.iconst 0, 1) := by decide +kernel
theorem dX12_product_51 : decode cX12_product 51 = .ok (.ireturn, 1) := by decide +kernel
theorem dX12_product_52 : decode cX12_product 52 = .ok (.iconst 1, 1) := by decide +kernel
theorem dX12_product_53 : decode cX12_product 53 = .ok (.ireturn, 1) := by decide +kernel
theorem dX12_products_0 : decode cX12_products 0 = .ok (.iconst 0, 1) := by decide +kernel
theorem dX12_products_1 : decode cX12_products 1 = .ok (.istore_n 2, 1) := by decide +kernel
theorem dX12_products_2 : decode cX12_products 2 = .ok (.iload_n 2, 1) := by decide +kernel
theorem dX12_products_3 : decode cX12_products 3 = .ok (.sipush 512, 3) := by decide +kernel
theorem dX12_products_6 : decode cX12_products 6 = .ok (.if_icmp .ge 16, 3) := by decide +kernel
theorem dX12_products_9 : decode cX12_products 9 = .ok (.aload_n 0, 1) := by decide +kernel
theorem dX12_products_10 : decode cX12_products 10 = .ok (.getfield 62, 3) := by decide +kernel
theorem dX12_products_13 : decode cX12_products 13 = .ok (.iload_n 2, 1) := by decide +kernel
theorem dX12_products_14 : decode cX12_products 14 = .ok (.iconst 0, 1) := by decide +kernel
theorem dX12_products_15 : decode cX12_products 15 = .ok (.iastore, 1) := by decide +kernel
theorem dX12_products_16 : decode cX12_products 16 = .ok (.iinc 2 1, 3) := by decide +kernel
theorem dX12_products_19 : decode cX12_products 19 = .ok (.goto (-17), 3) := by decide +kernel
theorem dX12_products_22 : decode cX12_products 22 = .ok (.iconst 0, 1) := by decide +kernel
theorem dX12_products_23 : decode cX12_products 23 = .ok (.istore_n 2, 1) := by decide +kernel
theorem dX12_products_24 : decode cX12_products 24 = .ok (.iload_n 2, 1) := by decide +kernel
theorem dX12_products_25 : decode cX12_products 25 = .ok (.sipush 512, 3) := by decide +kernel
theorem dX12_products_28 : decode cX12_products 28 = .ok (.if_icmp .ge 153, 3) := by decide +kernel
theorem dX12_products_31 : decode cX12_products 31 = .ok (.aload_n 0, 1) := by decide +kernel
theorem dX12_products_32 : decode cX12_products 32 = .ok (.getfield 59, 3) := by decide +kernel
theorem dX12_products_35 : decode cX12_products 35 = .ok (.sipush 512, 3) := by decide +kernel
theorem dX12_products_38 : decode cX12_products 38 = .ok (.iload_n 1, 1) := by decide +kernel
theorem dX12_products_39 : decode cX12_products 39 = .ok (.imul, 1) := by decide +kernel
theorem dX12_products_40 : decode cX12_products 40 = .ok (.iload_n 2, 1) := by decide +kernel
theorem dX12_products_41 : decode cX12_products 41 = .ok (.iadd, 1) := by decide +kernel
theorem dX12_products_42 : decode cX12_products 42 = .ok (.iaload, 1) := by decide +kernel
theorem dX12_products_43 : decode cX12_products 43 = .ok (.istore_n 3, 1) := by decide +kernel
theorem dX12_products_44 : decode cX12_products 44 = .ok (.iconst 0, 1) := by decide +kernel
theorem dX12_products_45 : decode cX12_products 45 = .ok (.istore 4, 2) := by decide +kernel
theorem dX12_products_47 : decode cX12_products 47 = .ok (.iload 4, 2) := by decide +kernel
theorem dX12_products_49 : decode cX12_products 49 = .ok (.sipush 512, 3) := by decide +kernel
theorem dX12_products_52 : decode cX12_products 52 = .ok (.if_icmp .ge 123, 3) := by decide +kernel
theorem dX12_products_55 : decode cX12_products 55 = .ok (.iload_n 3, 1) := by decide +kernel
theorem dX12_products_56 : decode cX12_products 56 = .ok (.ifCond .eq 119, 3) := by decide +kernel
theorem dX12_products_59 : decode cX12_products 59 = .ok (.aload_n 0, 1) := by decide +kernel
theorem dX12_products_60 : decode cX12_products 60 = .ok (.getfield 59, 3) := by decide +kernel
theorem dX12_products_63 : decode cX12_products 63 = .ok (.sipush 512, 3) := by decide +kernel
theorem dX12_products_66 : decode cX12_products 66 = .ok (.iload_n 1, 1) := by decide +kernel
theorem dX12_products_67 : decode cX12_products 67 = .ok (.iconst 1, 1) := by decide +kernel
theorem dX12_products_68 : decode cX12_products 68 = .ok (.iadd, 1) := by decide +kernel
theorem dX12_products_69 : decode cX12_products 69 = .ok (.imul, 1) := by decide +kernel
theorem dX12_products_70 : decode cX12_products 70 = .ok (.iload 4, 2) := by decide +kernel
theorem dX12_products_72 : decode cX12_products 72 = .ok (.iadd, 1) := by decide +kernel
theorem dX12_products_73 : decode cX12_products 73 = .ok (.iaload, 1) := by decide +kernel
theorem dX12_products_74 : decode cX12_products 74 = .ok (.istore 5, 2) := by decide +kernel
theorem dX12_products_76 : decode cX12_products 76 = .ok (.iload 5, 2) := by decide +kernel
theorem dX12_products_78 : decode cX12_products 78 = .ok (.ifCond .ne 6, 3) := by decide +kernel
theorem dX12_products_81 : decode cX12_products 81 = .ok (.goto 88, 3) := by decide +kernel
theorem dX12_products_84 : decode cX12_products 84 = .ok (.iload_n 2, 1) := by decide +kernel
theorem dX12_products_85 : decode cX12_products 85 = .ok (.bipush 64, 2) := by decide +kernel
theorem dX12_products_87 : decode cX12_products 87 = .ok (.idiv, 1) := by decide +kernel
theorem dX12_products_88 : decode cX12_products 88 = .ok (.iload 4, 2) := by decide +kernel
theorem dX12_products_90 : decode cX12_products 90 = .ok (.bipush 64, 2) := by decide +kernel
theorem dX12_products_92 : decode cX12_products 92 = .ok (.idiv, 1) := by decide +kernel
theorem dX12_products_93 : decode cX12_products 93 = .ok (.iadd, 1) := by decide +kernel
theorem dX12_products_94 : decode cX12_products 94 = .ok (.bipush 7, 2) := by decide +kernel
theorem dX12_products_96 : decode cX12_products 96 = .ok (.if_icmp .gt 39, 3) := by decide +kernel
theorem dX12_products_99 : decode cX12_products 99 = .ok (.iload_n 2, 1) := by decide +kernel
theorem dX12_products_100 : decode cX12_products 100 = .ok (.bipush 8, 2) := by decide +kernel
theorem dX12_products_102 : decode cX12_products 102 = .ok (.idiv, 1) := by decide +kernel
theorem dX12_products_103 : decode cX12_products 103 = .ok (.bipush 8, 2) := by decide +kernel
theorem dX12_products_105 : decode cX12_products 105 = .ok (.irem, 1) := by decide +kernel
theorem dX12_products_106 : decode cX12_products 106 = .ok (.iload 4, 2) := by decide +kernel
theorem dX12_products_108 : decode cX12_products 108 = .ok (.bipush 8, 2) := by decide +kernel
theorem dX12_products_110 : decode cX12_products 110 = .ok (.idiv, 1) := by decide +kernel
theorem dX12_products_111 : decode cX12_products 111 = .ok (.bipush 8, 2) := by decide +kernel
theorem dX12_products_113 : decode cX12_products 113 = .ok (.irem, 1) := by decide +kernel
theorem dX12_products_114 : decode cX12_products 114 = .ok (.iadd, 1) := by decide +kernel
theorem dX12_products_115 : decode cX12_products 115 = .ok (.bipush 7, 2) := by decide +kernel
theorem dX12_products_117 : decode cX12_products 117 = .ok (.if_icmp .gt 18, 3) := by decide +kernel
theorem dX12_products_120 : decode cX12_products 120 = .ok (.iload_n 2, 1) := by decide +kernel
theorem dX12_products_121 : decode cX12_products 121 = .ok (.bipush 8, 2) := by decide +kernel
theorem dX12_products_123 : decode cX12_products 123 = .ok (.irem, 1) := by decide +kernel
theorem dX12_products_124 : decode cX12_products 124 = .ok (.iload 4, 2) := by decide +kernel
theorem dX12_products_126 : decode cX12_products 126 = .ok (.bipush 8, 2) := by decide +kernel
theorem dX12_products_128 : decode cX12_products 128 = .ok (.irem, 1) := by decide +kernel
theorem dX12_products_129 : decode cX12_products 129 = .ok (.iadd, 1) := by decide +kernel
theorem dX12_products_130 : decode cX12_products 130 = .ok (.bipush 7, 2) := by decide +kernel
theorem dX12_products_132 : decode cX12_products 132 = .ok (.if_icmp .le 11, 3) := by decide +kernel
theorem dX12_products_135 : decode cX12_products 135 = .ok (.aload_n 0, 1) := by decide +kernel
theorem dX12_products_136 : decode cX12_products 136 = .ok (.iconst 0, 1) := by decide +kernel
theorem dX12_products_137 : decode cX12_products 137 = .ok (.putfield 345, 3) := by decide +kernel
theorem dX12_products_140 : decode cX12_products 140 = .ok (.goto 29, 3) := by decide +kernel
theorem dX12_products_143 : decode cX12_products 143 = .ok (.aload_n 0, 1) := by decide +kernel
theorem dX12_products_144 : decode cX12_products 144 = .ok (.getfield 62, 3) := by decide +kernel
theorem dX12_products_147 : decode cX12_products 147 = .ok (.iload_n 2, 1) := by decide +kernel
theorem dX12_products_148 : decode cX12_products 148 = .ok (.iload 4, 2) := by decide +kernel
theorem dX12_products_150 : decode cX12_products 150 = .ok (.iadd, 1) := by decide +kernel
theorem dX12_products_151 : decode cX12_products 151 = .ok (.aload_n 0, 1) := by decide +kernel
theorem dX12_products_152 : decode cX12_products 152 = .ok (.getfield 62, 3) := by decide +kernel
theorem dX12_products_155 : decode cX12_products 155 = .ok (.iload_n 2, 1) := by decide +kernel
theorem dX12_products_156 : decode cX12_products 156 = .ok (.iload 4, 2) := by decide +kernel
theorem dX12_products_158 : decode cX12_products 158 = .ok (.iadd, 1) := by decide +kernel
theorem dX12_products_159 : decode cX12_products 159 = .ok (.iaload, 1) := by decide +kernel
theorem dX12_products_160 : decode cX12_products 160 = .ok (.iload_n 3, 1) := by decide +kernel
theorem dX12_products_161 : decode cX12_products 161 = .ok (.iload 5, 2) := by decide +kernel
theorem dX12_products_163 : decode cX12_products 163 = .ok (.imul, 1) := by decide +kernel
theorem dX12_products_164 : decode cX12_products 164 = .ok (.iadd, 1) := by decide +kernel
theorem dX12_products_165 : decode cX12_products 165 = .ok (.bipush 15, 2) := by decide +kernel
theorem dX12_products_167 : decode cX12_products 167 = .ok (.iand, 1) := by decide +kernel
theorem dX12_products_168 : decode cX12_products 168 = .ok (.iastore, 1) := by decide +kernel
theorem dX12_products_169 : decode cX12_products 169 = .ok (.iinc 4 1, 3) := by decide +kernel
theorem dX12_products_172 : decode cX12_products 172 = .ok (.goto (-125), 3) := by decide +kernel
theorem dX12_products_175 : decode cX12_products 175 = .ok (.iinc 2 1, 3) := by decide +kernel
theorem dX12_products_178 : decode cX12_products 178 = .ok (.goto (-154), 3) := by decide +kernel
theorem dX12_products_181 : decode cX12_products 181 = .ok (.iconst 0, 1) := by decide +kernel
theorem dX12_products_182 : decode cX12_products 182 = .ok (.istore_n 2, 1) := by decide +kernel
theorem dX12_products_183 : decode cX12_products 183 = .ok (.iload_n 2, 1) := by decide +kernel
theorem dX12_products_184 : decode cX12_products 184 = .ok (.sipush 512, 3) := by decide +kernel
theorem dX12_products_187 : decode cX12_products 187 = .ok (.if_icmp .ge 27, 3) := by decide +kernel
theorem dX12_products_190 : decode cX12_products 190 = .ok (.aload_n 0, 1) := by decide +kernel
theorem dX12_products_191 : decode cX12_products 191 = .ok (.getfield 59, 3) := by decide +kernel
theorem dX12_products_194 : decode cX12_products 194 = .ok (.sipush 512, 3) := by decide +kernel
theorem dX12_products_197 : decode cX12_products 197 = .ok (.iload_n 1, 1) := by decide +kernel
theorem dX12_products_198 : decode cX12_products 198 = .ok (.imul, 1) := by decide +kernel
theorem dX12_products_199 : decode cX12_products 199 = .ok (.iload_n 2, 1) := by decide +kernel
theorem dX12_products_200 : decode cX12_products 200 = .ok (.iadd, 1) := by decide +kernel
theorem dX12_products_201 : decode cX12_products 201 = .ok (.aload_n 0, 1) := by decide +kernel
theorem dX12_products_202 : decode cX12_products 202 = .ok (.getfield 62, 3) := by decide +kernel
theorem dX12_products_205 : decode cX12_products 205 = .ok (.iload_n 2, 1) := by decide +kernel
theorem dX12_products_206 : decode cX12_products 206 = .ok (.iaload, 1) := by decide +kernel
theorem dX12_products_207 : decode cX12_products 207 = .ok (.iastore, 1) := by decide +kernel
theorem dX12_products_208 : decode cX12_products 208 = .ok (.iinc 2 1, 3) := by decide +kernel
theorem dX12_products_211 : decode cX12_products 211 = .ok (.goto (-28), 3) := by decide +kernel
theorem dX12_products_214 : decode cX12_products 214 = .ok (.return_, 1) := by decide +kernel
theorem dX12_program_0 : decode cX12_program 0 = .ok (.aload_n 0, 1) := by decide +kernel
theorem dX12_program_1 : decode cX12_program 1 = .ok (.iconst 0, 1) := by decide +kernel
theorem dX12_program_2 : decode cX12_program 2 = .ok (.putfield 179, 3) := by decide +kernel
theorem dX12_program_5 : decode cX12_program 5 = .ok (.iload_n 1, 1) := by decide +kernel
theorem dX12_program_6 : decode cX12_program 6 = .ok (.invokestatic 249, 3) := by decide +kernel
theorem dX12_program_9 : decode cX12_program 9 = .ok (.ifCond .ne 9, 3) := by decide +kernel
theorem dX12_program_12 : decode cX12_program 12 = .ok (.aload_n 0, 1) := by decide +kernel
theorem dX12_program_13 : decode cX12_program 13 = .ok (.invokevirtual 252, 3) := by decide +kernel
theorem dX12_program_16 : decode cX12_program 16 = .ok (.iconst (-1), 1) := by decide +kernel
theorem dX12_program_17 : decode cX12_program 17 = .ok (.ireturn, 1) := by decide +kernel
theorem dX12_program_18 : decode cX12_program 18 = .ok (.aload_n 0, 1) := by decide +kernel
theorem dX12_program_19 : decode cX12_program 19 = .ok (.iconst 0, 1) := by decide +kernel
theorem dX12_program_20 : decode cX12_program 20 = .ok (.sipush 300, 3) := by decide +kernel
theorem dX12_program_23 : decode cX12_program 23 = .ok (.invokevirtual 255, 3) := by decide +kernel
theorem dX12_program_26 : decode cX12_program 26 = .ok (.iconst 1, 1) := by decide +kernel
theorem dX12_program_27 : decode cX12_program 27 = .ok (.istore_n 2, 1) := by decide +kernel
theorem dX12_program_28 : decode cX12_program 28 = .ok (.iload_n 2, 1) := by decide +kernel
theorem dX12_program_29 : decode cX12_program 29 = .ok (.ifCond .eq 18, 3) := by decide +kernel
theorem dX12_program_32 : decode cX12_program 32 = .ok (.aload_n 0, 1) := by decide +kernel
theorem dX12_program_33 : decode cX12_program 33 = .ok (.getfield 164, 3) := by decide +kernel
theorem dX12_program_36 : decode cX12_program 36 = .ok (.ifCond .eq 11, 3) := by decide +kernel
theorem dX12_program_39 : decode cX12_program 39 = .ok (.aload_n 0, 1) := by decide +kernel
theorem dX12_program_40 : decode cX12_program 40 = .ok (.invokevirtual 231, 3) := by decide +kernel
theorem dX12_program_43 : decode cX12_program 43 = .ok (.istore_n 2, 1) := by decide +kernel
theorem dX12_program_44 : decode cX12_program 44 = .ok (.goto (-16), 3) := by decide +kernel
theorem dX12_program_47 : decode cX12_program 47 = .ok (.aload_n 0, 1) := by decide +kernel
theorem dX12_program_48 : decode cX12_program 48 = .ok (.invokevirtual 252, 3) := by decide +kernel
theorem dX12_program_51 : decode cX12_program 51 = .ok (.iload_n 2, 1) := by decide +kernel
theorem dX12_program_52 : decode cX12_program 52 = .ok (.ifCond .ne 5, 3) := by decide +kernel
theorem dX12_program_55 : decode cX12_program 55 = .ok (.iconst (-1), 1) := by decide +kernel
theorem dX12_program_56 : decode cX12_program 56 = .ok (.ireturn, 1) := by decide +kernel
theorem dX12_program_57 : decode cX12_program 57 = .ok (.aload_n 0, 1) := by decide +kernel
theorem dX12_program_58 : decode cX12_program 58 = .ok (.invokevirtual 259, 3) := by decide +kernel
theorem dX12_program_61 : decode cX12_program 61 = .ok (.aload_n 0, 1) := by decide +kernel
theorem dX12_program_62 : decode cX12_program 62 = .ok (.iload_n 1, 1) := by decide +kernel
theorem dX12_program_63 : decode cX12_program 63 = .ok (.invokevirtual 262, 3) := by decide +kernel
theorem dX12_program_66 : decode cX12_program 66 = .ok (.aload_n 0, 1) := by decide +kernel
theorem dX12_program_67 : decode cX12_program 67 = .ok (.invokevirtual 265, 3) := by decide +kernel
theorem dX12_program_70 : decode cX12_program 70 = .ok (.ireturn, 1) := by decide +kernel
theorem dX12_puts_0 : decode cX12_puts 0 = .ok (.aload_n 0, 1) := by decide +kernel
theorem dX12_puts_1 : decode cX12_puts 1 = .ok (.getfield 13, 3) := by decide +kernel
theorem dX12_puts_4 : decode cX12_puts 4 = .ok (.iload_n 1, 1) := by decide +kernel
theorem dX12_puts_5 : decode cX12_puts 5 = .ok (.aload_n 0, 1) := by decide +kernel
theorem dX12_puts_6 : decode cX12_puts 6 = .ok (.getfield 98, 3) := by decide +kernel
theorem dX12_puts_9 : decode cX12_puts 9 = .ok (.iastore, 1) := by decide +kernel
theorem dX12_puts_10 : decode cX12_puts 10 = .ok (.iconst 0, 1) := by decide +kernel
theorem dX12_puts_11 : decode cX12_puts 11 = .ok (.istore_n 2, 1) := by decide +kernel
theorem dX12_puts_12 : decode cX12_puts 12 = .ok (.iload_n 2, 1) := by decide +kernel
theorem dX12_puts_13 : decode cX12_puts 13 = .ok (.aload_n 0, 1) := by decide +kernel
theorem dX12_puts_14 : decode cX12_puts 14 = .ok (.getfield 98, 3) := by decide +kernel
theorem dX12_puts_17 : decode cX12_puts 17 = .ok (.if_icmp .ge 27, 3) := by decide +kernel
theorem dX12_puts_20 : decode cX12_puts 20 = .ok (.aload_n 0, 1) := by decide +kernel
theorem dX12_puts_21 : decode cX12_puts 21 = .ok (.getfield 7, 3) := by decide +kernel
theorem dX12_puts_24 : decode cX12_puts 24 = .ok (.sipush 520, 3) := by decide +kernel
theorem dX12_puts_27 : decode cX12_puts 27 = .ok (.iload_n 1, 1) := by decide +kernel
theorem dX12_puts_28 : decode cX12_puts 28 = .ok (.imul, 1) := by decide +kernel
theorem dX12_puts_29 : decode cX12_puts 29 = .ok (.iload_n 2, 1) := by decide +kernel
theorem dX12_puts_30 : decode cX12_puts 30 = .ok (.iadd, 1) := by decide +kernel
theorem dX12_puts_31 : decode cX12_puts 31 = .ok (.aload_n 0, 1) := by decide +kernel
theorem dX12_puts_32 : decode cX12_puts 32 = .ok (.getfield 16, 3) := by decide +kernel
theorem dX12_puts_35 : decode cX12_puts 35 = .ok (.iload_n 2, 1) := by decide +kernel
theorem dX12_puts_36 : decode cX12_puts 36 = .ok (.iaload, 1) := by decide +kernel
theorem dX12_puts_37 : decode cX12_puts 37 = .ok (.iastore, 1) := by decide +kernel
theorem dX12_puts_38 : decode cX12_puts 38 = .ok (.iinc 2 1, 3) := by decide +kernel
theorem dX12_puts_41 : decode cX12_puts 41 = .ok (.goto (-29), 3) := by decide +kernel
theorem dX12_puts_44 : decode cX12_puts 44 = .ok (.return_, 1) := by decide +kernel
theorem dX12_reads_0 : decode cX12_reads 0 = .ok (.iconst 0, 1) := by decide +kernel
theorem dX12_reads_1 : decode cX12_reads 1 = .ok (.istore_n 3, 1) := by decide +kernel
theorem dX12_reads_2 : decode cX12_reads 2 = .ok (.iload_n 1, 1) := by decide +kernel
theorem dX12_reads_3 : decode cX12_reads 3 = .ok (.istore 4, 2) := by decide +kernel
theorem dX12_reads_5 : decode cX12_reads 5 = .ok (.iload 4, 2) := by decide +kernel
theorem dX12_reads_7 : decode cX12_reads 7 = .ok (.iload_n 2, 1) := by decide +kernel
theorem dX12_reads_8 : decode cX12_reads 8 = .ok (.if_icmp .ge 45, 3) := by decide +kernel
theorem dX12_reads_11 : decode cX12_reads 11 = .ok (.iload_n 3, 1) := by decide +kernel
theorem dX12_reads_12 : decode cX12_reads 12 = .ok (.aload_n 0, 1) := by decide +kernel
theorem dX12_reads_13 : decode cX12_reads 13 = .ok (.getfield 16, 3) := by decide +kernel
theorem dX12_reads_16 : decode cX12_reads 16 = .ok (.iload 4, 2) := by decide +kernel
theorem dX12_reads_18 : decode cX12_reads 18 = .ok (.iaload, 1) := by decide +kernel
theorem dX12_reads_19 : decode cX12_reads 19 = .ok (.bipush 20, 2) := by decide +kernel
theorem dX12_reads_21 : decode cX12_reads 21 = .ok (.bipush 25, 2) := by decide +kernel
theorem dX12_reads_23 : decode cX12_reads 23 = .ok (.invokestatic 90, 3) := by decide +kernel
theorem dX12_reads_26 : decode cX12_reads 26 = .ok (.ifCond .eq 18, 3) := by decide +kernel
theorem dX12_reads_29 : decode cX12_reads 29 = .ok (.iconst 1, 1) := by decide +kernel
theorem dX12_reads_30 : decode cX12_reads 30 = .ok (.aload_n 0, 1) := by decide +kernel
theorem dX12_reads_31 : decode cX12_reads 31 = .ok (.getfield 16, 3) := by decide +kernel
theorem dX12_reads_34 : decode cX12_reads 34 = .ok (.iload 4, 2) := by decide +kernel
theorem dX12_reads_36 : decode cX12_reads 36 = .ok (.iaload, 1) := by decide +kernel
theorem dX12_reads_37 : decode cX12_reads 37 = .ok (.bipush 20, 2) := by decide +kernel
theorem dX12_reads_39 : decode cX12_reads 39 = .ok (.isub, 1) := by decide +kernel
theorem dX12_reads_40 : decode cX12_reads 40 = .ok (.ishl, 1) := by decide +kernel
theorem dX12_reads_41 : decode cX12_reads 41 = .ok (.goto 4, 3) := by decide +kernel
theorem dX12_reads_44 : decode cX12_reads 44 = .ok (.iconst 0, 1) := by decide +kernel
theorem dX12_reads_45 : decode cX12_reads 45 = .ok (.ior, 1) := by decide +kernel
theorem dX12_reads_46 : decode cX12_reads 46 = .ok (.istore_n 3, 1) := by decide +kernel
theorem dX12_reads_47 : decode cX12_reads 47 = .ok (.iinc 4 1, 3) := by decide +kernel
theorem dX12_reads_50 : decode cX12_reads 50 = .ok (.goto (-45), 3) := by decide +kernel
theorem dX12_reads_53 : decode cX12_reads 53 = .ok (.iload_n 3, 1) := by decide +kernel
theorem dX12_reads_54 : decode cX12_reads 54 = .ok (.ireturn, 1) := by decide +kernel
theorem dX12_registers_0 : decode cX12_registers 0 = .ok (.iload_n 1, 1) := by decide +kernel
theorem dX12_registers_1 : decode cX12_registers 1 = .ok (.invokestatic 249, 3) := by decide +kernel
theorem dX12_registers_4 : decode cX12_registers 4 = .ok (.ifCond .eq 29, 3) := by decide +kernel
theorem dX12_registers_7 : decode cX12_registers 7 = .ok (.iload_n 2, 1) := by decide +kernel
theorem dX12_registers_8 : decode cX12_registers 8 = .ok (.ifCond .eq 27, 3) := by decide +kernel
theorem dX12_registers_11 : decode cX12_registers 11 = .ok (.iload_n 2, 1) := by decide +kernel
theorem dX12_registers_12 : decode cX12_registers 12 = .ok (.bipush 10, 2) := by decide +kernel
theorem dX12_registers_14 : decode cX12_registers 14 = .ok (.bipush 15, 2) := by decide +kernel
theorem dX12_registers_16 : decode cX12_registers 16 = .ok (.invokestatic 90, 3) := by decide +kernel
theorem dX12_registers_19 : decode cX12_registers 19 = .ok (.ifCond .ne 16, 3) := by decide +kernel
theorem dX12_registers_22 : decode cX12_registers 22 = .ok (.iload_n 2, 1) := by decide +kernel
theorem dX12_registers_23 : decode cX12_registers 23 = .ok (.bipush 20, 2) := by decide +kernel
theorem dX12_registers_25 : decode cX12_registers 25 = .ok (.bipush 26, 2) := by decide +kernel
theorem dX12_registers_27 : decode cX12_registers 27 = .ok (.invokestatic 90, 3) := by decide +kernel
theorem dX12_registers_30 : decode cX12_registers 30 = .ok (.ifCond .ne 5, 3) := by decide +kernel
theorem dX12_registers_33 : decode cX12_registers 33 = .ok (.iconst (-1), 1) := by decide +kernel
theorem dX12_registers_34 : decode cX12_registers 34 = .ok (.ireturn, 1) := by decide +kernel
theorem dX12_registers_35 : decode cX12_registers 35 = .ok (.aload_n 0, 1) := by decide +kernel
theorem dX12_registers_36 : decode cX12_registers 36 = .ok (.iload_n 1, 1) := by decide +kernel
theorem dX12_registers_37 : decode cX12_registers 37 = .ok (.invokevirtual 472, 3) := by decide +kernel
theorem dX12_registers_40 : decode cX12_registers 40 = .ok (.aload_n 0, 1) := by decide +kernel
theorem dX12_registers_41 : decode cX12_registers 41 = .ok (.invokevirtual 475, 3) := by decide +kernel
theorem dX12_registers_44 : decode cX12_registers 44 = .ok (.istore_n 3, 1) := by decide +kernel
theorem dX12_registers_45 : decode cX12_registers 45 = .ok (.iload_n 2, 1) := by decide +kernel
theorem dX12_registers_46 : decode cX12_registers 46 = .ok (.bipush 15, 2) := by decide +kernel
theorem dX12_registers_48 : decode cX12_registers 48 = .ok (.if_icmp .le 13, 3) := by decide +kernel
theorem dX12_registers_51 : decode cX12_registers 51 = .ok (.aload_n 0, 1) := by decide +kernel
theorem dX12_registers_52 : decode cX12_registers 52 = .ok (.iload_n 3, 1) := by decide +kernel
theorem dX12_registers_53 : decode cX12_registers 53 = .ok (.iload_n 2, 1) := by decide +kernel
theorem dX12_registers_54 : decode cX12_registers 54 = .ok (.bipush 20, 2) := by decide +kernel
theorem dX12_registers_56 : decode cX12_registers 56 = .ok (.isub, 1) := by decide +kernel
theorem dX12_registers_57 : decode cX12_registers 57 = .ok (.invokevirtual 478, 3) := by decide +kernel
theorem dX12_registers_60 : decode cX12_registers 60 = .ok (.ireturn, 1) := by decide +kernel
theorem dX12_registers_61 : decode cX12_registers 61 = .ok (.aload_n 0, 1) := by decide +kernel
theorem dX12_registers_62 : decode cX12_registers 62 = .ok (.iload_n 3, 1) := by decide +kernel
theorem dX12_registers_63 : decode cX12_registers 63 = .ok (.invokevirtual 481, 3) := by decide +kernel
theorem dX12_registers_66 : decode cX12_registers 66 = .ok (.istore 4, 2) := by decide +kernel
theorem dX12_registers_68 : decode cX12_registers 68 = .ok (.iload_n 2, 1) := by decide +kernel
theorem dX12_registers_69 : decode cX12_registers 69 = .ok (.ifCond .ne 8, 3) := by decide +kernel
theorem dX12_registers_72 : decode cX12_registers 72 = .ok (.iload 4, 2) := by decide +kernel
theorem dX12_registers_74 : decode cX12_registers 74 = .ok (.goto 12, 3) := by decide +kernel
theorem dX12_registers_77 : decode cX12_registers 77 = .ok (.aload_n 0, 1) := by decide +kernel
theorem dX12_registers_78 : decode cX12_registers 78 = .ok (.getfield 87, 3) := by decide +kernel
theorem dX12_registers_81 : decode cX12_registers 81 = .ok (.iload_n 2, 1) := by decide +kernel
theorem dX12_registers_82 : decode cX12_registers 82 = .ok (.bipush 10, 2) := by decide +kernel
theorem dX12_registers_84 : decode cX12_registers 84 = .ok (.isub, 1) := by decide +kernel
theorem dX12_registers_85 : decode cX12_registers 85 = .ok (.iaload, 1) := by decide +kernel
theorem dX12_registers_86 : decode cX12_registers 86 = .ok (.ireturn, 1) := by decide +kernel
theorem dX12_replaces_0 : decode cX12_replaces 0 = .ok (.iload_n 1, 1) := by decide +kernel
theorem dX12_replaces_1 : decode cX12_replaces 1 = .ok (.istore 5, 2) := by decide +kernel
theorem dX12_replaces_3 : decode cX12_replaces 3 = .ok (.iload 5, 2) := by decide +kernel
theorem dX12_replaces_5 : decode cX12_replaces 5 = .ok (.iload_n 2, 1) := by decide +kernel
theorem dX12_replaces_6 : decode cX12_replaces 6 = .ok (.if_icmp .ge 35, 3) := by decide +kernel
theorem dX12_replaces_9 : decode cX12_replaces 9 = .ok (.aload_n 0, 1) := by decide +kernel
theorem dX12_replaces_10 : decode cX12_replaces 10 = .ok (.getfield 16, 3) := by decide +kernel
theorem dX12_replaces_13 : decode cX12_replaces 13 = .ok (.iload 5, 2) := by decide +kernel
theorem dX12_replaces_15 : decode cX12_replaces 15 = .ok (.iaload, 1) := by decide +kernel
theorem dX12_replaces_16 : decode cX12_replaces 16 = .ok (.bipush 20, 2) := by decide +kernel
theorem dX12_replaces_18 : decode cX12_replaces 18 = .ok (.iload_n 3, 1) := by decide +kernel
theorem dX12_replaces_19 : decode cX12_replaces 19 = .ok (.iadd, 1) := by decide +kernel
theorem dX12_replaces_20 : decode cX12_replaces 20 = .ok (.if_icmp .ne 15, 3) := by decide +kernel
theorem dX12_replaces_23 : decode cX12_replaces 23 = .ok (.aload_n 0, 1) := by decide +kernel
theorem dX12_replaces_24 : decode cX12_replaces 24 = .ok (.getfield 16, 3) := by decide +kernel
theorem dX12_replaces_27 : decode cX12_replaces 27 = .ok (.iload 5, 2) := by decide +kernel
theorem dX12_replaces_29 : decode cX12_replaces 29 = .ok (.bipush 20, 2) := by decide +kernel
theorem dX12_replaces_31 : decode cX12_replaces 31 = .ok (.iload 4, 2) := by decide +kernel
theorem dX12_replaces_33 : decode cX12_replaces 33 = .ok (.iadd, 1) := by decide +kernel
theorem dX12_replaces_34 : decode cX12_replaces 34 = .ok (.iastore, 1) := by decide +kernel
theorem dX12_replaces_35 : decode cX12_replaces 35 = .ok (.iinc 5 1, 3) := by decide +kernel
theorem dX12_replaces_38 : decode cX12_replaces 38 = .ok (.goto (-35), 3) := by decide +kernel
theorem dX12_replaces_41 : decode cX12_replaces 41 = .ok (.return_, 1) := by decide +kernel
theorem dX12_rule_0 : decode cX12_rule 0 = .ok (.aload_n 0, 1) := by decide +kernel
theorem dX12_rule_1 : decode cX12_rule 1 = .ok (.iconst 0, 1) := by decide +kernel
theorem dX12_rule_2 : decode cX12_rule 2 = .ok (.putfield 179, 3) := by decide +kernel
theorem dX12_rule_5 : decode cX12_rule 5 = .ok (.aload_n 0, 1) := by decide +kernel
theorem dX12_rule_6 : decode cX12_rule 6 = .ok (.getfield 268, 3) := by decide +kernel
theorem dX12_rule_9 : decode cX12_rule 9 = .ok (.bipush 12, 2) := by decide +kernel
theorem dX12_rule_11 : decode cX12_rule 11 = .ok (.if_icmp .ne 9, 3) := by decide +kernel
theorem dX12_rule_14 : decode cX12_rule 14 = .ok (.aload_n 0, 1) := by decide +kernel
theorem dX12_rule_15 : decode cX12_rule 15 = .ok (.invokevirtual 252, 3) := by decide +kernel
theorem dX12_rule_18 : decode cX12_rule 18 = .ok (.iconst (-1), 1) := by decide +kernel
theorem dX12_rule_19 : decode cX12_rule 19 = .ok (.ireturn, 1) := by decide +kernel
theorem dX12_rule_20 : decode cX12_rule 20 = .ok (.aload_n 0, 1) := by decide +kernel
theorem dX12_rule_21 : decode cX12_rule 21 = .ok (.iconst 1, 1) := by decide +kernel
theorem dX12_rule_22 : decode cX12_rule 22 = .ok (.bipush 40, 2) := by decide +kernel
theorem dX12_rule_24 : decode cX12_rule 24 = .ok (.invokevirtual 255, 3) := by decide +kernel
theorem dX12_rule_27 : decode cX12_rule 27 = .ok (.aload_n 0, 1) := by decide +kernel
theorem dX12_rule_28 : decode cX12_rule 28 = .ok (.invokevirtual 219, 3) := by decide +kernel
theorem dX12_rule_31 : decode cX12_rule 31 = .ok (.ifCond .eq 16, 3) := by decide +kernel
theorem dX12_rule_34 : decode cX12_rule 34 = .ok (.aload_n 0, 1) := by decide +kernel
theorem dX12_rule_35 : decode cX12_rule 35 = .ok (.bipush 8, 2) := by decide +kernel
theorem dX12_rule_37 : decode cX12_rule 37 = .ok (.invokevirtual 194, 3) := by decide +kernel
theorem dX12_rule_40 : decode cX12_rule 40 = .ok (.ifCond .eq 7, 3) := by decide +kernel
theorem dX12_rule_43 : decode cX12_rule 43 = .ok (.iconst 1, 1) := by decide +kernel
theorem dX12_rule_44 : decode cX12_rule 44 = .ok (.goto 4, 3) := by decide +kernel
theorem dX12_rule_47 : decode cX12_rule 47 = .ok (.iconst 0, 1) := by decide +kernel
theorem dX12_rule_48 : decode cX12_rule 48 = .ok (.istore_n 1, 1) := by decide +kernel
theorem dX12_rule_49 : decode cX12_rule 49 = .ok (.aload_n 0, 1) := by decide +kernel
theorem dX12_rule_50 : decode cX12_rule 50 = .ok (.getfield 117, 3) := by decide +kernel
theorem dX12_rule_53 : decode cX12_rule 53 = .ok (.istore_n 2, 1) := by decide +kernel
theorem dX12_rule_54 : decode cX12_rule 54 = .ok (.aload_n 0, 1) := by decide +kernel
theorem dX12_rule_55 : decode cX12_rule 55 = .ok (.iconst 1, 1) := by decide +kernel
theorem dX12_rule_56 : decode cX12_rule 56 = .ok (.putfield 225, 3) := by decide +kernel
theorem dX12_rule_59 : decode cX12_rule 59 = .ok (.iload_n 1, 1) := by decide +kernel
theorem dX12_rule_60 : decode cX12_rule 60 = .ok (.ifCond .eq 29, 3) := by decide +kernel
theorem dX12_rule_63 : decode cX12_rule 63 = .ok (.aload_n 0, 1) := by decide +kernel
theorem dX12_rule_64 : decode cX12_rule 64 = .ok (.invokevirtual 219, 3) := by decide +kernel
theorem dX12_rule_67 : decode cX12_rule 67 = .ok (.ifCond .eq 22, 3) := by decide +kernel
theorem dX12_rule_70 : decode cX12_rule 70 = .ok (.aload_n 0, 1) := by decide +kernel
theorem dX12_rule_71 : decode cX12_rule 71 = .ok (.getfield 164, 3) := by decide +kernel
theorem dX12_rule_74 : decode cX12_rule 74 = .ok (.ifCond .eq 11, 3) := by decide +kernel
theorem dX12_rule_77 : decode cX12_rule 77 = .ok (.aload_n 0, 1) := by decide +kernel
theorem dX12_rule_78 : decode cX12_rule 78 = .ok (.iconst 1, 1) := by decide +kernel
theorem dX12_rule_79 : decode cX12_rule 79 = .ok (.invokevirtual 185, 3) := by decide +kernel
theorem dX12_rule_82 : decode cX12_rule 82 = .ok (.ifCond .eq 7, 3) := by decide +kernel
theorem dX12_rule_85 : decode cX12_rule 85 = .ok (.iconst 1, 1) := by decide +kernel
theorem dX12_rule_86 : decode cX12_rule 86 = .ok (.goto 4, 3) := by decide +kernel
theorem dX12_rule_89 : decode cX12_rule 89 = .ok (.iconst 0, 1) := by decide +kernel
theorem dX12_rule_90 : decode cX12_rule 90 = .ok (.istore_n 1, 1) := by decide +kernel
theorem dX12_rule_91 : decode cX12_rule 91 = .ok (.aload_n 0, 1) := by decide +kernel
theorem dX12_rule_92 : decode cX12_rule 92 = .ok (.invokevirtual 252, 3) := by decide +kernel
theorem dX12_rule_95 : decode cX12_rule 95 = .ok (.iload_n 1, 1) := by decide +kernel
theorem dX12_rule_96 : decode cX12_rule 96 = .ok (.ifCond .ne 5, 3) := by decide +kernel
theorem dX12_rule_99 : decode cX12_rule 99 = .ok (.iconst (-1), 1) := by decide +kernel
theorem dX12_rule_100 : decode cX12_rule 100 = .ok (.ireturn, 1) := by decide +kernel
theorem dX12_rule_101 : decode cX12_rule 101 = .ok (.iconst 0, 1) := by decide +kernel
theorem dX12_rule_102 : decode cX12_rule 102 = .ok (.istore_n 3, 1) := by decide +kernel
theorem dX12_rule_103 : decode cX12_rule 103 = .ok (.iload_n 3, 1) := by decide +kernel
theorem dX12_rule_104 : decode cX12_rule 104 = .ok (.aload_n 0, 1) := by decide +kernel
theorem dX12_rule_105 : decode cX12_rule 105 = .ok (.getfield 117, 3) := by decide +kernel
theorem dX12_rule_108 : decode cX12_rule 108 = .ok (.if_icmp .ge 29, 3) := by decide +kernel
theorem dX12_rule_111 : decode cX12_rule 111 = .ok (.aload_n 0, 1) := by decide +kernel
theorem dX12_rule_112 : decode cX12_rule 112 = .ok (.getfield 29, 3) := by decide +kernel
theorem dX12_rule_115 : decode cX12_rule 115 = .ok (.bipush 40, 2) := by decide +kernel
theorem dX12_rule_117 : decode cX12_rule 117 = .ok (.aload_n 0, 1) := by decide +kernel
theorem dX12_rule_118 : decode cX12_rule 118 = .ok (.getfield 268, 3) := by decide +kernel
theorem dX12_rule_121 : decode cX12_rule 121 = .ok (.imul, 1) := by decide +kernel
theorem dX12_rule_122 : decode cX12_rule 122 = .ok (.iload_n 3, 1) := by decide +kernel
theorem dX12_rule_123 : decode cX12_rule 123 = .ok (.iadd, 1) := by decide +kernel
theorem dX12_rule_124 : decode cX12_rule 124 = .ok (.aload_n 0, 1) := by decide +kernel
theorem dX12_rule_125 : decode cX12_rule 125 = .ok (.getfield 19, 3) := by decide +kernel
theorem dX12_rule_128 : decode cX12_rule 128 = .ok (.iload_n 3, 1) := by decide +kernel
theorem dX12_rule_129 : decode cX12_rule 129 = .ok (.iaload, 1) := by decide +kernel
theorem dX12_rule_130 : decode cX12_rule 130 = .ok (.iastore, 1) := by decide +kernel
theorem dX12_rule_131 : decode cX12_rule 131 = .ok (.iinc 3 1, 3) := by decide +kernel
theorem dX12_rule_134 : decode cX12_rule 134 = .ok (.goto (-31), 3) := by decide +kernel
theorem dX12_rule_137 : decode cX12_rule 137 = .ok (.aload_n 0, 1) := by decide +kernel
theorem dX12_rule_138 : decode cX12_rule 138 = .ok (.getfield 32, 3) := by decide +kernel
theorem dX12_rule_141 : decode cX12_rule 141 = .ok (.aload_n 0, 1) := by decide +kernel
theorem dX12_rule_142 : decode cX12_rule 142 = .ok (.getfield 268, 3) := by decide +kernel
theorem dX12_rule_145 : decode cX12_rule 145 = .ok (.iload_n 2, 1) := by decide +kernel
theorem dX12_rule_146 : decode cX12_rule 146 = .ok (.iastore, 1) := by decide +kernel
theorem dX12_rule_147 : decode cX12_rule 147 = .ok (.aload_n 0, 1) := by decide +kernel
theorem dX12_rule_148 : decode cX12_rule 148 = .ok (.getfield 35, 3) := by decide +kernel
theorem dX12_rule_151 : decode cX12_rule 151 = .ok (.aload_n 0, 1) := by decide +kernel
theorem dX12_rule_152 : decode cX12_rule 152 = .ok (.getfield 268, 3) := by decide +kernel
theorem dX12_rule_155 : decode cX12_rule 155 = .ok (.aload_n 0, 1) := by decide +kernel
theorem dX12_rule_156 : decode cX12_rule 156 = .ok (.getfield 117, 3) := by decide +kernel
theorem dX12_rule_159 : decode cX12_rule 159 = .ok (.iastore, 1) := by decide +kernel
theorem dX12_rule_160 : decode cX12_rule 160 = .ok (.aload_n 0, 1) := by decide +kernel
theorem dX12_rule_161 : decode cX12_rule 161 = .ok (.getfield 38, 3) := by decide +kernel
theorem dX12_rule_164 : decode cX12_rule 164 = .ok (.aload_n 0, 1) := by decide +kernel
theorem dX12_rule_165 : decode cX12_rule 165 = .ok (.getfield 268, 3) := by decide +kernel
theorem dX12_rule_168 : decode cX12_rule 168 = .ok (.aload_n 0, 1) := by decide +kernel
theorem dX12_rule_169 : decode cX12_rule 169 = .ok (.getfield 228, 3) := by decide +kernel
theorem dX12_rule_172 : decode cX12_rule 172 = .ok (.iastore, 1) := by decide +kernel
theorem dX12_rule_173 : decode cX12_rule 173 = .ok (.aload_n 0, 1) := by decide +kernel
theorem dX12_rule_174 : decode cX12_rule 174 = .ok (.iconst 0, 1) := by decide +kernel
theorem dX12_rule_175 : decode cX12_rule 175 = .ok (.putfield 117, 3) := by decide +kernel
theorem dX12_rule_178 : decode cX12_rule 178 = .ok (.aload_n 0, 1) := by decide +kernel
theorem dX12_rule_179 : decode cX12_rule 179 = .ok (.dup, 1) := by decide +kernel
theorem dX12_rule_180 : decode cX12_rule 180 = .ok (.getfield 268, 3) := by decide +kernel
theorem dX12_rule_183 : decode cX12_rule 183 = .ok (.iconst 1, 1) := by decide +kernel
theorem dX12_rule_184 : decode cX12_rule 184 = .ok (.iadd, 1) := by decide +kernel
theorem dX12_rule_185 : decode cX12_rule 185 = .ok (.putfield 268, 3) := by decide +kernel
theorem dX12_rule_188 : decode cX12_rule 188 = .ok (.aload_n 0, 1) := by decide +kernel
theorem dX12_rule_189 : decode cX12_rule 189 = .ok (.getfield 268, 3) := by decide +kernel
theorem dX12_rule_192 : decode cX12_rule 192 = .ok (.iconst 1, 1) := by decide +kernel
theorem dX12_rule_193 : decode cX12_rule 193 = .ok (.isub, 1) := by decide +kernel
theorem dX12_rule_194 : decode cX12_rule 194 = .ok (.ireturn, 1) := by decide +kernel
theorem dX12_ruleOf_0 : decode cX12_ruleOf 0 = .ok (.iload_n 1, 1) := by decide +kernel
theorem dX12_ruleOf_1 : decode cX12_ruleOf 1 = .ok (.iconst 0, 1) := by decide +kernel
theorem dX12_ruleOf_2 : decode cX12_ruleOf 2 = .ok (.aload_n 0, 1) := by decide +kernel
theorem dX12_ruleOf_3 : decode cX12_ruleOf 3 = .ok (.getfield 268, 3) := by decide +kernel
theorem dX12_ruleOf_6 : decode cX12_ruleOf 6 = .ok (.iconst 1, 1) := by decide +kernel
theorem dX12_ruleOf_7 : decode cX12_ruleOf 7 = .ok (.isub, 1) := by decide +kernel
theorem dX12_ruleOf_8 : decode cX12_ruleOf 8 = .ok (.invokestatic 90, 3) := by decide +kernel
theorem dX12_ruleOf_11 : decode cX12_ruleOf 11 = .ok (.ifCond .eq 12, 3) := by decide +kernel
theorem dX12_ruleOf_14 : decode cX12_ruleOf 14 = .ok (.iload_n 2, 1) := by decide +kernel
theorem dX12_ruleOf_15 : decode cX12_ruleOf 15 = .ok (.iconst 0, 1) := by decide +kernel
theorem dX12_ruleOf_16 : decode cX12_ruleOf 16 = .ok (.iconst 3, 1) := by decide +kernel
theorem dX12_ruleOf_17 : decode cX12_ruleOf 17 = .ok (.invokestatic 90, 3) := by decide +kernel
theorem dX12_ruleOf_20 : decode cX12_ruleOf 20 = .ok (.ifCond .ne 6, 3) := by decide +kernel
theorem dX12_ruleOf_23 : decode cX12_ruleOf 23 = .ok (.bipush (-2), 2) := by decide +kernel
theorem dX12_ruleOf_25 : decode cX12_ruleOf 25 = .ok (.ireturn, 1) := by decide +kernel
theorem dX12_ruleOf_26 : decode cX12_ruleOf 26 = .ok (.iload_n 2, 1) := by decide +kernel
theorem dX12_ruleOf_27 : decode cX12_ruleOf 27 = .ok (.iconst 2, 1) := by decide +kernel
theorem dX12_ruleOf_28 : decode cX12_ruleOf 28 = .ok (.if_icmp .ne 9, 3) := by decide +kernel
theorem dX12_ruleOf_31 : decode cX12_ruleOf 31 = .ok (.aload_n 0, 1) := by decide +kernel
theorem dX12_ruleOf_32 : decode cX12_ruleOf 32 = .ok (.iload_n 1, 1) := by decide +kernel
theorem dX12_ruleOf_33 : decode cX12_ruleOf 33 = .ok (.invokevirtual 348, 3) := by decide +kernel
theorem dX12_ruleOf_36 : decode cX12_ruleOf 36 = .ok (.ireturn, 1) := by decide +kernel
theorem dX12_ruleOf_37 : decode cX12_ruleOf 37 = .ok (.iconst (-1), 1) := by decide +kernel
theorem dX12_ruleOf_38 : decode cX12_ruleOf 38 = .ok (.istore_n 3, 1) := by decide +kernel
theorem dX12_ruleOf_39 : decode cX12_ruleOf 39 = .ok (.iconst 0, 1) := by decide +kernel
theorem dX12_ruleOf_40 : decode cX12_ruleOf 40 = .ok (.istore 4, 2) := by decide +kernel
theorem dX12_ruleOf_42 : decode cX12_ruleOf 42 = .ok (.iconst 0, 1) := by decide +kernel
theorem dX12_ruleOf_43 : decode cX12_ruleOf 43 = .ok (.istore 5, 2) := by decide +kernel
theorem dX12_ruleOf_45 : decode cX12_ruleOf 45 = .ok (.iload 5, 2) := by decide +kernel
theorem dX12_ruleOf_47 : decode cX12_ruleOf 47 = .ok (.sipush 4096, 3) := by decide +kernel
theorem dX12_ruleOf_50 : decode cX12_ruleOf 50 = .ok (.if_icmp .ge 128, 3) := by decide +kernel
theorem dX12_ruleOf_53 : decode cX12_ruleOf 53 = .ok (.aload_n 0, 1) := by decide +kernel
theorem dX12_ruleOf_54 : decode cX12_ruleOf 54 = .ok (.getfield 56, 3) := by decide +kernel
theorem dX12_ruleOf_57 : decode cX12_ruleOf 57 = .ok (.iconst 0, 1) := by decide +kernel
theorem dX12_ruleOf_58 : decode cX12_ruleOf 58 = .ok (.iload 5, 2) := by decide +kernel
theorem dX12_ruleOf_60 : decode cX12_ruleOf 60 = .ok (.sipush 256, 3) := by decide +kernel
theorem dX12_ruleOf_63 : decode cX12_ruleOf 63 = .ok (.idiv, 1) := by decide +kernel
theorem dX12_ruleOf_64 : decode cX12_ruleOf 64 = .ok (.iastore, 1) := by decide +kernel
theorem dX12_ruleOf_65 : decode cX12_ruleOf 65 = .ok (.aload_n 0, 1) := by decide +kernel
theorem dX12_ruleOf_66 : decode cX12_ruleOf 66 = .ok (.getfield 56, 3) := by decide +kernel
theorem dX12_ruleOf_69 : decode cX12_ruleOf 69 = .ok (.iconst 1, 1) := by decide +kernel
theorem dX12_ruleOf_70 : decode cX12_ruleOf 70 = .ok (.iload 5, 2) := by decide +kernel
theorem dX12_ruleOf_72 : decode cX12_ruleOf 72 = .ok (.bipush 16, 2) := by decide +kernel
theorem dX12_ruleOf_74 : decode cX12_ruleOf 74 = .ok (.idiv, 1) := by decide +kernel
theorem dX12_ruleOf_75 : decode cX12_ruleOf 75 = .ok (.bipush 16, 2) := by decide +kernel
theorem dX12_ruleOf_77 : decode cX12_ruleOf 77 = .ok (.irem, 1) := by decide +kernel
theorem dX12_ruleOf_78 : decode cX12_ruleOf 78 = .ok (.iastore, 1) := by decide +kernel
theorem dX12_ruleOf_79 : decode cX12_ruleOf 79 = .ok (.aload_n 0, 1) := by decide +kernel
theorem dX12_ruleOf_80 : decode cX12_ruleOf 80 = .ok (.getfield 56, 3) := by decide +kernel
theorem dX12_ruleOf_83 : decode cX12_ruleOf 83 = .ok (.iconst 2, 1) := by decide +kernel
theorem dX12_ruleOf_84 : decode cX12_ruleOf 84 = .ok (.iload 5, 2) := by decide +kernel
theorem dX12_ruleOf_86 : decode cX12_ruleOf 86 = .ok (.bipush 16, 2) := by decide +kernel
theorem dX12_ruleOf_88 : decode cX12_ruleOf 88 = .ok (.irem, 1) := by decide +kernel
theorem dX12_ruleOf_89 : decode cX12_ruleOf 89 = .ok (.iastore, 1) := by decide +kernel
theorem dX12_ruleOf_90 : decode cX12_ruleOf 90 = .ok (.iconst 1, 1) := by decide +kernel
theorem dX12_ruleOf_91 : decode cX12_ruleOf 91 = .ok (.istore 6, 2) := by decide +kernel
theorem dX12_ruleOf_93 : decode cX12_ruleOf 93 = .ok (.iconst 0, 1) := by decide +kernel
theorem dX12_ruleOf_94 : decode cX12_ruleOf 94 = .ok (.istore 7, 2) := by decide +kernel
theorem dX12_ruleOf_96 : decode cX12_ruleOf 96 = .ok (.iload 7, 2) := by decide +kernel
theorem dX12_ruleOf_98 : decode cX12_ruleOf 98 = .ok (.iconst 3, 1) := by decide +kernel
theorem dX12_ruleOf_99 : decode cX12_ruleOf 99 = .ok (.if_icmp .ge 46, 3) := by decide +kernel
theorem dX12_ruleOf_102 : decode cX12_ruleOf 102 = .ok (.iload 6, 2) := by decide +kernel
theorem dX12_ruleOf_104 : decode cX12_ruleOf 104 = .ok (.ifCond .eq 32, 3) := by decide +kernel
theorem dX12_ruleOf_107 : decode cX12_ruleOf 107 = .ok (.aload_n 0, 1) := by decide +kernel
theorem dX12_ruleOf_108 : decode cX12_ruleOf 108 = .ok (.getfield 56, 3) := by decide +kernel
theorem dX12_ruleOf_111 : decode cX12_ruleOf 111 = .ok (.iload 7, 2) := by decide +kernel
theorem dX12_ruleOf_113 : decode cX12_ruleOf 113 = .ok (.iaload, 1) := by decide +kernel
theorem dX12_ruleOf_114 : decode cX12_ruleOf 114 = .ok (.ifCond .eq 18, 3) := by decide +kernel
theorem dX12_ruleOf_117 : decode cX12_ruleOf 117 = .ok (.aload_n 0, 1) := by decide +kernel
theorem dX12_ruleOf_118 : decode cX12_ruleOf 118 = .ok (.getfield 38, 3) := by decide +kernel
theorem dX12_ruleOf_121 : decode cX12_ruleOf 121 = .ok (.iload_n 1, 1) := by decide +kernel
theorem dX12_ruleOf_122 : decode cX12_ruleOf 122 = .ok (.iaload, 1) := by decide +kernel
theorem dX12_ruleOf_123 : decode cX12_ruleOf 123 = .ok (.iload 7, 2) := by decide +kernel
theorem dX12_ruleOf_125 : decode cX12_ruleOf 125 = .ok (.ishr, 1) := by decide +kernel
theorem dX12_ruleOf_126 : decode cX12_ruleOf 126 = .ok (.iconst 1, 1) := by decide +kernel
theorem dX12_ruleOf_127 : decode cX12_ruleOf 127 = .ok (.iand, 1) := by decide +kernel
theorem dX12_ruleOf_128 : decode cX12_ruleOf 128 = .ok (.iconst 1, 1) := by decide +kernel
theorem dX12_ruleOf_129 : decode cX12_ruleOf 129 = .ok (.if_icmp .ne 7, 3) := by decide +kernel
theorem dX12_ruleOf_132 : decode cX12_ruleOf 132 = .ok (.iconst 1, 1) := by decide +kernel
theorem dX12_ruleOf_133 : decode cX12_ruleOf 133 = .ok (.goto 4, 3) := by decide +kernel
theorem dX12_ruleOf_136 : decode cX12_ruleOf 136 = .ok (.iconst 0, 1) := by decide +kernel
theorem dX12_ruleOf_137 : decode cX12_ruleOf 137 = .ok (.istore 6, 2) := by decide +kernel
theorem dX12_ruleOf_139 : decode cX12_ruleOf 139 = .ok (.iinc 7 1, 3) := by decide +kernel
theorem dX12_ruleOf_142 : decode cX12_ruleOf 142 = .ok (.goto (-46), 3) := by decide +kernel
theorem dX12_ruleOf_145 : decode cX12_ruleOf 145 = .ok (.iload 6, 2) := by decide +kernel
theorem dX12_ruleOf_147 : decode cX12_ruleOf 147 = .ok (.ifCond .eq 25, 3) := by decide +kernel
theorem dX12_ruleOf_150 : decode cX12_ruleOf 150 = .ok (.aload_n 0, 1) := by decide +kernel
theorem dX12_ruleOf_151 : decode cX12_ruleOf 151 = .ok (.iload_n 1, 1) := by decide +kernel
theorem dX12_ruleOf_152 : decode cX12_ruleOf 152 = .ok (.invokevirtual 351, 3) := by decide +kernel
theorem dX12_ruleOf_155 : decode cX12_ruleOf 155 = .ok (.ifCond .eq 6, 3) := by decide +kernel
theorem dX12_ruleOf_158 : decode cX12_ruleOf 158 = .ok (.goto 14, 3) := by decide +kernel
theorem dX12_ruleOf_161 : decode cX12_ruleOf 161 = .ok (.iload_n 3, 1) := by decide +kernel
theorem dX12_ruleOf_162 : decode cX12_ruleOf 162 = .ok (.iconst (-1), 1) := by decide +kernel
theorem dX12_ruleOf_163 : decode cX12_ruleOf 163 = .ok (.if_icmp .ne 6, 3) := by decide +kernel
theorem dX12_ruleOf_166 : decode cX12_ruleOf 166 = .ok (.iload 5, 2) := by decide +kernel
theorem dX12_ruleOf_168 : decode cX12_ruleOf 168 = .ok (.istore_n 3, 1) := by decide +kernel
theorem dX12_ruleOf_169 : decode cX12_ruleOf 169 = .ok (.iinc 4 1, 3) := by decide +kernel
theorem dX12_ruleOf_172 : decode cX12_ruleOf 172 = .ok (.iinc 5 1, 3) := by decide +kernel
theorem dX12_ruleOf_175 : decode cX12_ruleOf 175 = .ok (.goto (-130), 3) := by decide +kernel
theorem dX12_ruleOf_178 : decode cX12_ruleOf 178 = .ok (.iload_n 2, 1) := by decide +kernel
theorem dX12_ruleOf_179 : decode cX12_ruleOf 179 = .ok (.ifCond .ne 16, 3) := by decide +kernel
theorem dX12_ruleOf_182 : decode cX12_ruleOf 182 = .ok (.iload_n 3, 1) := by decide +kernel
theorem dX12_ruleOf_183 : decode cX12_ruleOf 183 = .ok (.iconst (-1), 1) := by decide +kernel
theorem dX12_ruleOf_184 : decode cX12_ruleOf 184 = .ok (.if_icmp .ne 7, 3) := by decide +kernel
theorem dX12_ruleOf_187 : decode cX12_ruleOf 187 = .ok (.iconst 1, 1) := by decide +kernel
theorem dX12_ruleOf_188 : decode cX12_ruleOf 188 = .ok (.goto 18, 3) := by decide +kernel
theorem dX12_ruleOf_191 : decode cX12_ruleOf 191 = .ok (.iconst 0, 1) := by decide +kernel
theorem dX12_ruleOf_192 : decode cX12_ruleOf 192 = .ok (.goto 14, 3) := by decide +kernel
theorem dX12_ruleOf_195 : decode cX12_ruleOf 195 = .ok (.iload_n 2, 1) := by decide +kernel
theorem dX12_ruleOf_196 : decode cX12_ruleOf 196 = .ok (.iconst 1, 1) := by decide +kernel
theorem dX12_ruleOf_197 : decode cX12_ruleOf 197 = .ok (.if_icmp .ne 7, 3) := by decide +kernel
theorem dX12_ruleOf_200 : decode cX12_ruleOf 200 = .ok (.iload_n 3, 1) := by decide +kernel
theorem dX12_ruleOf_201 : decode cX12_ruleOf 201 = .ok (.goto 5, 3) := by decide +kernel
theorem dX12_ruleOf_204 : decode cX12_ruleOf 204 = .ok (.iload 4, 2) := by decide +kernel
theorem dX12_ruleOf_206 : decode cX12_ruleOf 206 = .ok (.ireturn, 1) := by decide +kernel
theorem dX12_ruleWorth_0 : decode cX12_ruleWorth 0 = .ok (.aload_n 0, 1) := by decide +kernel
theorem dX12_ruleWorth_1 : decode cX12_ruleWorth 1 = .ok (.getfield 29, 3) := by decide +kernel
theorem dX12_ruleWorth_4 : decode cX12_ruleWorth 4 = .ok (.bipush 40, 2) := by decide +kernel
theorem dX12_ruleWorth_6 : decode cX12_ruleWorth 6 = .ok (.iload_n 1, 1) := by decide +kernel
theorem dX12_ruleWorth_7 : decode cX12_ruleWorth 7 = .ok (.imul, 1) := by decide +kernel
theorem dX12_ruleWorth_8 : decode cX12_ruleWorth 8 = .ok (.aload_n 0, 1) := by decide +kernel
theorem dX12_ruleWorth_9 : decode cX12_ruleWorth 9 = .ok (.getfield 281, 3) := by decide +kernel
theorem dX12_ruleWorth_12 : decode cX12_ruleWorth 12 = .ok (.iadd, 1) := by decide +kernel
theorem dX12_ruleWorth_13 : decode cX12_ruleWorth 13 = .ok (.iaload, 1) := by decide +kernel
theorem dX12_ruleWorth_14 : decode cX12_ruleWorth 14 = .ok (.istore_n 2, 1) := by decide +kernel
theorem dX12_ruleWorth_15 : decode cX12_ruleWorth 15 = .ok (.aload_n 0, 1) := by decide +kernel
theorem dX12_ruleWorth_16 : decode cX12_ruleWorth 16 = .ok (.dup, 1) := by decide +kernel
theorem dX12_ruleWorth_17 : decode cX12_ruleWorth 17 = .ok (.getfield 281, 3) := by decide +kernel
theorem dX12_ruleWorth_20 : decode cX12_ruleWorth 20 = .ok (.iconst 1, 1) := by decide +kernel
theorem dX12_ruleWorth_21 : decode cX12_ruleWorth 21 = .ok (.iadd, 1) := by decide +kernel
theorem dX12_ruleWorth_22 : decode cX12_ruleWorth 22 = .ok (.putfield 281, 3) := by decide +kernel
theorem dX12_ruleWorth_25 : decode cX12_ruleWorth 25 = .ok (.iload_n 2, 1) := by decide +kernel
theorem dX12_ruleWorth_26 : decode cX12_ruleWorth 26 = .ok (.bipush 20, 2) := by decide +kernel
theorem dX12_ruleWorth_28 : decode cX12_ruleWorth 28 = .ok (.if_icmp .ge 5, 3) := by decide +kernel
theorem dX12_ruleWorth_31 : decode cX12_ruleWorth 31 = .ok (.iload_n 2, 1) := by decide +kernel
theorem dX12_ruleWorth_32 : decode cX12_ruleWorth 32 = .ok (.ireturn, 1) := by decide +kernel
theorem dX12_ruleWorth_33 : decode cX12_ruleWorth 33 = .ok (.iload_n 2, 1) := by decide +kernel
theorem dX12_ruleWorth_34 : decode cX12_ruleWorth 34 = .ok (.bipush 120, 2) := by decide +kernel
theorem dX12_ruleWorth_36 : decode cX12_ruleWorth 36 = .ok (.if_icmp .ge 13, 3) := by decide +kernel
theorem dX12_ruleWorth_39 : decode cX12_ruleWorth 39 = .ok (.aload_n 0, 1) := by decide +kernel
theorem dX12_ruleWorth_40 : decode cX12_ruleWorth 40 = .ok (.getfield 56, 3) := by decide +kernel
theorem dX12_ruleWorth_43 : decode cX12_ruleWorth 43 = .ok (.iload_n 2, 1) := by decide +kernel
theorem dX12_ruleWorth_44 : decode cX12_ruleWorth 44 = .ok (.bipush 30, 2) := by decide +kernel
theorem dX12_ruleWorth_46 : decode cX12_ruleWorth 46 = .ok (.isub, 1) := by decide +kernel
theorem dX12_ruleWorth_47 : decode cX12_ruleWorth 47 = .ok (.iaload, 1) := by decide +kernel
theorem dX12_ruleWorth_48 : decode cX12_ruleWorth 48 = .ok (.ireturn, 1) := by decide +kernel
theorem dX12_ruleWorth_49 : decode cX12_ruleWorth 49 = .ok (.aload_n 0, 1) := by decide +kernel
theorem dX12_ruleWorth_50 : decode cX12_ruleWorth 50 = .ok (.iload_n 1, 1) := by decide +kernel
theorem dX12_ruleWorth_51 : decode cX12_ruleWorth 51 = .ok (.invokevirtual 336, 3) := by decide +kernel
theorem dX12_ruleWorth_54 : decode cX12_ruleWorth 54 = .ok (.istore_n 3, 1) := by decide +kernel
theorem dX12_ruleWorth_55 : decode cX12_ruleWorth 55 = .ok (.iload_n 2, 1) := by decide +kernel
theorem dX12_ruleWorth_56 : decode cX12_ruleWorth 56 = .ok (.iload_n 3, 1) := by decide +kernel
theorem dX12_ruleWorth_57 : decode cX12_ruleWorth 57 = .ok (.aload_n 0, 1) := by decide +kernel
theorem dX12_ruleWorth_58 : decode cX12_ruleWorth 58 = .ok (.iload_n 1, 1) := by decide +kernel
theorem dX12_ruleWorth_59 : decode cX12_ruleWorth 59 = .ok (.invokevirtual 336, 3) := by decide +kernel
theorem dX12_ruleWorth_62 : decode cX12_ruleWorth 62 = .ok (.invokestatic 287, 3) := by decide +kernel
theorem dX12_ruleWorth_65 : decode cX12_ruleWorth 65 = .ok (.ireturn, 1) := by decide +kernel
theorem dX12_run_0 : decode cX12_run 0 = .ok (.iload_n 1, 1) := by decide +kernel
theorem dX12_run_1 : decode cX12_run 1 = .ok (.invokestatic 249, 3) := by decide +kernel
theorem dX12_run_4 : decode cX12_run 4 = .ok (.ifCond .eq 23, 3) := by decide +kernel
theorem dX12_run_7 : decode cX12_run 7 = .ok (.iload_n 2, 1) := by decide +kernel
theorem dX12_run_8 : decode cX12_run 8 = .ok (.iconst 0, 1) := by decide +kernel
theorem dX12_run_9 : decode cX12_run 9 = .ok (.bipush 15, 2) := by decide +kernel
theorem dX12_run_11 : decode cX12_run 11 = .ok (.invokestatic 90, 3) := by decide +kernel
theorem dX12_run_14 : decode cX12_run 14 = .ok (.ifCond .eq 13, 3) := by decide +kernel
theorem dX12_run_17 : decode cX12_run 17 = .ok (.iload_n 3, 1) := by decide +kernel
theorem dX12_run_18 : decode cX12_run 18 = .ok (.iconst 0, 1) := by decide +kernel
theorem dX12_run_19 : decode cX12_run 19 = .ok (.bipush 15, 2) := by decide +kernel
theorem dX12_run_21 : decode cX12_run 21 = .ok (.invokestatic 90, 3) := by decide +kernel
theorem dX12_run_24 : decode cX12_run 24 = .ok (.ifCond .ne 5, 3) := by decide +kernel
theorem dX12_run_27 : decode cX12_run 27 = .ok (.iconst (-1), 1) := by decide +kernel
theorem dX12_run_28 : decode cX12_run 28 = .ok (.ireturn, 1) := by decide +kernel
theorem dX12_run_29 : decode cX12_run 29 = .ok (.aload_n 0, 1) := by decide +kernel
theorem dX12_run_30 : decode cX12_run 30 = .ok (.iload_n 1, 1) := by decide +kernel
theorem dX12_run_31 : decode cX12_run 31 = .ok (.invokevirtual 271, 3) := by decide +kernel
theorem dX12_run_34 : decode cX12_run 34 = .ok (.aload_n 0, 1) := by decide +kernel
theorem dX12_run_35 : decode cX12_run 35 = .ok (.iload_n 2, 1) := by decide +kernel
theorem dX12_run_36 : decode cX12_run 36 = .ok (.iload_n 3, 1) := by decide +kernel
theorem dX12_run_37 : decode cX12_run 37 = .ok (.invokevirtual 315, 3) := by decide +kernel
theorem dX12_run_40 : decode cX12_run 40 = .ok (.iload 4, 2) := by decide +kernel
theorem dX12_run_42 : decode cX12_run 42 = .ok (.bipush 10, 2) := by decide +kernel
theorem dX12_run_44 : decode cX12_run 44 = .ok (.bipush 15, 2) := by decide +kernel
theorem dX12_run_46 : decode cX12_run 46 = .ok (.invokestatic 90, 3) := by decide +kernel
theorem dX12_run_49 : decode cX12_run 49 = .ok (.ifCond .eq 14, 3) := by decide +kernel
theorem dX12_run_52 : decode cX12_run 52 = .ok (.aload_n 0, 1) := by decide +kernel
theorem dX12_run_53 : decode cX12_run 53 = .ok (.getfield 41, 3) := by decide +kernel
theorem dX12_run_56 : decode cX12_run 56 = .ok (.iload 4, 2) := by decide +kernel
theorem dX12_run_58 : decode cX12_run 58 = .ok (.bipush 10, 2) := by decide +kernel
theorem dX12_run_60 : decode cX12_run 60 = .ok (.isub, 1) := by decide +kernel
theorem dX12_run_61 : decode cX12_run 61 = .ok (.iaload, 1) := by decide +kernel
theorem dX12_run_62 : decode cX12_run 62 = .ok (.ireturn, 1) := by decide +kernel
theorem dX12_run_63 : decode cX12_run 63 = .ok (.iload 4, 2) := by decide +kernel
theorem dX12_run_65 : decode cX12_run 65 = .ok (.bipush 100, 2) := by decide +kernel
theorem dX12_run_67 : decode cX12_run 67 = .ok (.bipush 99, 2) := by decide +kernel
theorem dX12_run_69 : decode cX12_run 69 = .ok (.aload_n 0, 1) := by decide +kernel
theorem dX12_run_70 : decode cX12_run 70 = .ok (.getfield 312, 3) := by decide +kernel
theorem dX12_run_73 : decode cX12_run 73 = .ok (.iadd, 1) := by decide +kernel
theorem dX12_run_74 : decode cX12_run 74 = .ok (.invokestatic 90, 3) := by decide +kernel
theorem dX12_run_77 : decode cX12_run 77 = .ok (.ifCond .eq 14, 3) := by decide +kernel
theorem dX12_run_80 : decode cX12_run 80 = .ok (.aload_n 0, 1) := by decide +kernel
theorem dX12_run_81 : decode cX12_run 81 = .ok (.getfield 44, 3) := by decide +kernel
theorem dX12_run_84 : decode cX12_run 84 = .ok (.iload 4, 2) := by decide +kernel
theorem dX12_run_86 : decode cX12_run 86 = .ok (.bipush 100, 2) := by decide +kernel
theorem dX12_run_88 : decode cX12_run 88 = .ok (.isub, 1) := by decide +kernel
theorem dX12_run_89 : decode cX12_run 89 = .ok (.iaload, 1) := by decide +kernel
theorem dX12_run_90 : decode cX12_run 90 = .ok (.ireturn, 1) := by decide +kernel
theorem dX12_run_91 : decode cX12_run 91 = .ok (.iload 4, 2) := by decide +kernel
theorem dX12_run_93 : decode cX12_run 93 = .ok (.ifCond .ne 10, 3) := by decide +kernel
theorem dX12_run_96 : decode cX12_run 96 = .ok (.aload_n 0, 1) := by decide +kernel
theorem dX12_run_97 : decode cX12_run 97 = .ok (.getfield 294, 3) := by decide +kernel
theorem dX12_run_100 : decode cX12_run 100 = .ok (.goto 30, 3) := by decide +kernel
theorem dX12_run_103 : decode cX12_run 103 = .ok (.iload 4, 2) := by decide +kernel
theorem dX12_run_105 : decode cX12_run 105 = .ok (.iconst 1, 1) := by decide +kernel
theorem dX12_run_106 : decode cX12_run 106 = .ok (.if_icmp .ne 10, 3) := by decide +kernel
theorem dX12_run_109 : decode cX12_run 109 = .ok (.aload_n 0, 1) := by decide +kernel
theorem dX12_run_110 : decode cX12_run 110 = .ok (.getfield 291, 3) := by decide +kernel
theorem dX12_run_113 : decode cX12_run 113 = .ok (.goto 17, 3) := by decide +kernel
theorem dX12_run_116 : decode cX12_run 116 = .ok (.iload 4, 2) := by decide +kernel
theorem dX12_run_118 : decode cX12_run 118 = .ok (.iconst 2, 1) := by decide +kernel
theorem dX12_run_119 : decode cX12_run 119 = .ok (.if_icmp .ne 10, 3) := by decide +kernel
theorem dX12_run_122 : decode cX12_run 122 = .ok (.aload_n 0, 1) := by decide +kernel
theorem dX12_run_123 : decode cX12_run 123 = .ok (.getfield 312, 3) := by decide +kernel
theorem dX12_run_126 : decode cX12_run 126 = .ok (.goto 4, 3) := by decide +kernel
theorem dX12_run_129 : decode cX12_run 129 = .ok (.iconst (-1), 1) := by decide +kernel
theorem dX12_run_130 : decode cX12_run 130 = .ok (.ireturn, 1) := by decide +kernel
theorem dX12_runs_0 : decode cX12_runs 0 = .ok (.iconst 0, 1) := by decide +kernel
theorem dX12_runs_1 : decode cX12_runs 1 = .ok (.istore_n 3, 1) := by decide +kernel
theorem dX12_runs_2 : decode cX12_runs 2 = .ok (.iload_n 3, 1) := by decide +kernel
theorem dX12_runs_3 : decode cX12_runs 3 = .ok (.bipush 6, 2) := by decide +kernel
theorem dX12_runs_5 : decode cX12_runs 5 = .ok (.if_icmp .ge 33, 3) := by decide +kernel
theorem dX12_runs_8 : decode cX12_runs 8 = .ok (.aload_n 0, 1) := by decide +kernel
theorem dX12_runs_9 : decode cX12_runs 9 = .ok (.getfield 41, 3) := by decide +kernel
theorem dX12_runs_12 : decode cX12_runs 12 = .ok (.iload_n 3, 1) := by decide +kernel
theorem dX12_runs_13 : decode cX12_runs 13 = .ok (.iload_n 3, 1) := by decide +kernel
theorem dX12_runs_14 : decode cX12_runs 14 = .ok (.ifCond .ne 7, 3) := by decide +kernel
theorem dX12_runs_17 : decode cX12_runs 17 = .ok (.iload_n 1, 1) := by decide +kernel
theorem dX12_runs_18 : decode cX12_runs 18 = .ok (.goto 13, 3) := by decide +kernel
theorem dX12_runs_21 : decode cX12_runs 21 = .ok (.iload_n 3, 1) := by decide +kernel
theorem dX12_runs_22 : decode cX12_runs 22 = .ok (.iconst 1, 1) := by decide +kernel
theorem dX12_runs_23 : decode cX12_runs 23 = .ok (.if_icmp .ne 7, 3) := by decide +kernel
theorem dX12_runs_26 : decode cX12_runs 26 = .ok (.iload_n 2, 1) := by decide +kernel
theorem dX12_runs_27 : decode cX12_runs 27 = .ok (.goto 4, 3) := by decide +kernel
theorem dX12_runs_30 : decode cX12_runs 30 = .ok (.iconst 0, 1) := by decide +kernel
theorem dX12_runs_31 : decode cX12_runs 31 = .ok (.iastore, 1) := by decide +kernel
theorem dX12_runs_32 : decode cX12_runs 32 = .ok (.iinc 3 1, 3) := by decide +kernel
theorem dX12_runs_35 : decode cX12_runs 35 = .ok (.goto (-33), 3) := by decide +kernel
theorem dX12_runs_38 : decode cX12_runs 38 = .ok (.aload_n 0, 1) := by decide +kernel
theorem dX12_runs_39 : decode cX12_runs 39 = .ok (.iconst 0, 1) := by decide +kernel
theorem dX12_runs_40 : decode cX12_runs 40 = .ok (.putfield 291, 3) := by decide +kernel
theorem dX12_runs_43 : decode cX12_runs 43 = .ok (.aload_n 0, 1) := by decide +kernel
theorem dX12_runs_44 : decode cX12_runs 44 = .ok (.iconst 0, 1) := by decide +kernel
theorem dX12_runs_45 : decode cX12_runs 45 = .ok (.putfield 294, 3) := by decide +kernel
theorem dX12_runs_48 : decode cX12_runs 48 = .ok (.aload_n 0, 1) := by decide +kernel
theorem dX12_runs_49 : decode cX12_runs 49 = .ok (.iconst 0, 1) := by decide +kernel
theorem dX12_runs_50 : decode cX12_runs 50 = .ok (.putfield 312, 3) := by decide +kernel
theorem dX12_runs_53 : decode cX12_runs 53 = .ok (.aload_n 0, 1) := by decide +kernel
theorem dX12_runs_54 : decode cX12_runs 54 = .ok (.iconst 0, 1) := by decide +kernel
theorem dX12_runs_55 : decode cX12_runs 55 = .ok (.invokevirtual 306, 3) := by decide +kernel
theorem dX12_runs_58 : decode cX12_runs 58 = .ok (.pop, 1) := by decide +kernel
theorem dX12_runs_59 : decode cX12_runs 59 = .ok (.return_, 1) := by decide +kernel
theorem dX12_sameForms_0 : decode cX12_sameForms 0 = .ok (.aload_n 0, 1) := by decide +kernel
theorem dX12_sameForms_1 : decode cX12_sameForms 1 = .ok (.iconst 1, 1) := by decide +kernel
theorem dX12_sameForms_2 : decode cX12_sameForms 2 = .ok (.putfield 345, 3) := by decide +kernel
theorem dX12_sameForms_5 : decode cX12_sameForms 5 = .ok (.aload_n 0, 1) := by decide +kernel
theorem dX12_sameForms_6 : decode cX12_sameForms 6 = .ok (.iconst 0, 1) := by decide +kernel
theorem dX12_sameForms_7 : decode cX12_sameForms 7 = .ok (.putfield 281, 3) := by decide +kernel
theorem dX12_sameForms_10 : decode cX12_sameForms 10 = .ok (.aload_n 0, 1) := by decide +kernel
theorem dX12_sameForms_11 : decode cX12_sameForms 11 = .ok (.iload_n 1, 1) := by decide +kernel
theorem dX12_sameForms_12 : decode cX12_sameForms 12 = .ok (.iconst 0, 1) := by decide +kernel
theorem dX12_sameForms_13 : decode cX12_sameForms 13 = .ok (.invokevirtual 339, 3) := by decide +kernel
theorem dX12_sameForms_16 : decode cX12_sameForms 16 = .ok (.aload_n 0, 1) := by decide +kernel
theorem dX12_sameForms_17 : decode cX12_sameForms 17 = .ok (.iload_n 1, 1) := by decide +kernel
theorem dX12_sameForms_18 : decode cX12_sameForms 18 = .ok (.iconst 1, 1) := by decide +kernel
theorem dX12_sameForms_19 : decode cX12_sameForms 19 = .ok (.invokevirtual 339, 3) := by decide +kernel
theorem dX12_sameForms_22 : decode cX12_sameForms 22 = .ok (.aload_n 0, 1) := by decide +kernel
theorem dX12_sameForms_23 : decode cX12_sameForms 23 = .ok (.getfield 345, 3) := by decide +kernel
theorem dX12_sameForms_26 : decode cX12_sameForms 26 = .ok (.ifCond .ne 5, 3) := by decide +kernel
theorem dX12_sameForms_29 : decode cX12_sameForms 29 = .ok (.iconst (-1), 1) := by decide +kernel
theorem dX12_sameForms_30 : decode cX12_sameForms 30 = .ok (.ireturn, 1) := by decide +kernel
theorem dX12_sameForms_31 : decode cX12_sameForms 31 = .ok (.iconst 0, 1) := by decide +kernel
theorem dX12_sameForms_32 : decode cX12_sameForms 32 = .ok (.istore_n 2, 1) := by decide +kernel
theorem dX12_sameForms_33 : decode cX12_sameForms 33 = .ok (.iload_n 2, 1) := by decide +kernel
theorem dX12_sameForms_34 : decode cX12_sameForms 34 = .ok (.sipush 512, 3) := by decide +kernel
theorem dX12_sameForms_37 : decode cX12_sameForms 37 = .ok (.if_icmp .ge 30, 3) := by decide +kernel
theorem dX12_sameForms_40 : decode cX12_sameForms 40 = .ok (.aload_n 0, 1) := by decide +kernel
theorem dX12_sameForms_41 : decode cX12_sameForms 41 = .ok (.getfield 59, 3) := by decide +kernel
theorem dX12_sameForms_44 : decode cX12_sameForms 44 = .ok (.iload_n 2, 1) := by decide +kernel
theorem dX12_sameForms_45 : decode cX12_sameForms 45 = .ok (.iaload, 1) := by decide +kernel
theorem dX12_sameForms_46 : decode cX12_sameForms 46 = .ok (.aload_n 0, 1) := by decide +kernel
theorem dX12_sameForms_47 : decode cX12_sameForms 47 = .ok (.getfield 59, 3) := by decide +kernel
theorem dX12_sameForms_50 : decode cX12_sameForms 50 = .ok (.sipush 512, 3) := by decide +kernel
theorem dX12_sameForms_53 : decode cX12_sameForms 53 = .ok (.iload_n 2, 1) := by decide +kernel
theorem dX12_sameForms_54 : decode cX12_sameForms 54 = .ok (.iadd, 1) := by decide +kernel
theorem dX12_sameForms_55 : decode cX12_sameForms 55 = .ok (.iaload, 1) := by decide +kernel
theorem dX12_sameForms_56 : decode cX12_sameForms 56 = .ok (.if_icmp .eq 5, 3) := by decide +kernel
theorem dX12_sameForms_59 : decode cX12_sameForms 59 = .ok (.iconst 0, 1) := by decide +kernel
theorem dX12_sameForms_60 : decode cX12_sameForms 60 = .ok (.ireturn, 1) := by decide +kernel
theorem dX12_sameForms_61 : decode cX12_sameForms 61 = .ok (.iinc 2 1, 3) := by decide +kernel
theorem dX12_sameForms_64 : decode cX12_sameForms 64 = .ok (.goto (-31), 3) := by decide +kernel
theorem dX12_sameForms_67 : decode cX12_sameForms 67 = .ok (.iconst 1, 1) := by decide +kernel
theorem dX12_sameForms_68 : decode cX12_sameForms 68 = .ok (.ireturn, 1) := by decide +kernel
theorem dX12_sameParts_0 : decode cX12_sameParts 0 = .ok (.aload_n 0, 1) := by decide +kernel
theorem dX12_sameParts_1 : decode cX12_sameParts 1 = .ok (.iload_n 1, 1) := by decide +kernel
theorem dX12_sameParts_2 : decode cX12_sameParts 2 = .ok (.invokevirtual 94, 3) := by decide +kernel
theorem dX12_sameParts_5 : decode cX12_sameParts 5 = .ok (.iload_n 1, 1) := by decide +kernel
theorem dX12_sameParts_6 : decode cX12_sameParts 6 = .ok (.isub, 1) := by decide +kernel
theorem dX12_sameParts_7 : decode cX12_sameParts 7 = .ok (.istore_n 3, 1) := by decide +kernel
theorem dX12_sameParts_8 : decode cX12_sameParts 8 = .ok (.aload_n 0, 1) := by decide +kernel
theorem dX12_sameParts_9 : decode cX12_sameParts 9 = .ok (.iload_n 2, 1) := by decide +kernel
theorem dX12_sameParts_10 : decode cX12_sameParts 10 = .ok (.invokevirtual 94, 3) := by decide +kernel
theorem dX12_sameParts_13 : decode cX12_sameParts 13 = .ok (.iload_n 2, 1) := by decide +kernel
theorem dX12_sameParts_14 : decode cX12_sameParts 14 = .ok (.isub, 1) := by decide +kernel
theorem dX12_sameParts_15 : decode cX12_sameParts 15 = .ok (.iload_n 3, 1) := by decide +kernel
theorem dX12_sameParts_16 : decode cX12_sameParts 16 = .ok (.if_icmp .ne 7, 3) := by decide +kernel
theorem dX12_sameParts_19 : decode cX12_sameParts 19 = .ok (.iconst 1, 1) := by decide +kernel
theorem dX12_sameParts_20 : decode cX12_sameParts 20 = .ok (.goto 4, 3) := by decide +kernel
theorem dX12_sameParts_23 : decode cX12_sameParts 23 = .ok (.iconst 0, 1) := by decide +kernel
theorem dX12_sameParts_24 : decode cX12_sameParts 24 = .ok (.istore 4, 2) := by decide +kernel
theorem dX12_sameParts_26 : decode cX12_sameParts 26 = .ok (.iconst 0, 1) := by decide +kernel
theorem dX12_sameParts_27 : decode cX12_sameParts 27 = .ok (.istore 5, 2) := by decide +kernel
theorem dX12_sameParts_29 : decode cX12_sameParts 29 = .ok (.iload 5, 2) := by decide +kernel
theorem dX12_sameParts_31 : decode cX12_sameParts 31 = .ok (.iload_n 3, 1) := by decide +kernel
theorem dX12_sameParts_32 : decode cX12_sameParts 32 = .ok (.if_icmp .ge 42, 3) := by decide +kernel
theorem dX12_sameParts_35 : decode cX12_sameParts 35 = .ok (.iload 4, 2) := by decide +kernel
theorem dX12_sameParts_37 : decode cX12_sameParts 37 = .ok (.ifCond .eq 37, 3) := by decide +kernel
theorem dX12_sameParts_40 : decode cX12_sameParts 40 = .ok (.aload_n 0, 1) := by decide +kernel
theorem dX12_sameParts_41 : decode cX12_sameParts 41 = .ok (.getfield 16, 3) := by decide +kernel
theorem dX12_sameParts_44 : decode cX12_sameParts 44 = .ok (.iload_n 1, 1) := by decide +kernel
theorem dX12_sameParts_45 : decode cX12_sameParts 45 = .ok (.iload 5, 2) := by decide +kernel
theorem dX12_sameParts_47 : decode cX12_sameParts 47 = .ok (.iadd, 1) := by decide +kernel
theorem dX12_sameParts_48 : decode cX12_sameParts 48 = .ok (.iaload, 1) := by decide +kernel
theorem dX12_sameParts_49 : decode cX12_sameParts 49 = .ok (.aload_n 0, 1) := by decide +kernel
theorem dX12_sameParts_50 : decode cX12_sameParts 50 = .ok (.getfield 16, 3) := by decide +kernel
theorem dX12_sameParts_53 : decode cX12_sameParts 53 = .ok (.iload_n 2, 1) := by decide +kernel
theorem dX12_sameParts_54 : decode cX12_sameParts 54 = .ok (.iload 5, 2) := by decide +kernel
theorem dX12_sameParts_56 : decode cX12_sameParts 56 = .ok (.iadd, 1) := by decide +kernel
theorem dX12_sameParts_57 : decode cX12_sameParts 57 = .ok (.iaload, 1) := by decide +kernel
theorem dX12_sameParts_58 : decode cX12_sameParts 58 = .ok (.if_icmp .ne 7, 3) := by decide +kernel
theorem dX12_sameParts_61 : decode cX12_sameParts 61 = .ok (.iconst 1, 1) := by decide +kernel
theorem dX12_sameParts_62 : decode cX12_sameParts 62 = .ok (.goto 4, 3) := by decide +kernel
theorem dX12_sameParts_65 : decode cX12_sameParts 65 = .ok (.iconst 0, 1) := by decide +kernel
theorem dX12_sameParts_66 : decode cX12_sameParts 66 = .ok (.istore 4, 2) := by decide +kernel
theorem dX12_sameParts_68 : decode cX12_sameParts 68 = .ok (.iinc 5 1, 3) := by decide +kernel
theorem dX12_sameParts_71 : decode cX12_sameParts 71 = .ok (.goto (-42), 3) := by decide +kernel
theorem dX12_sameParts_74 : decode cX12_sameParts 74 = .ok (.iload 4, 2) := by decide +kernel
theorem dX12_sameParts_76 : decode cX12_sameParts 76 = .ok (.ireturn, 1) := by decide +kernel
theorem dX12_see_0 : decode cX12_see 0 = .ok (.iload_n 1, 1) := by decide +kernel
theorem dX12_see_1 : decode cX12_see 1 = .ok (.aload_n 0, 1) := by decide +kernel
theorem dX12_see_2 : decode cX12_see 2 = .ok (.getfield 124, 3) := by decide +kernel
theorem dX12_see_5 : decode cX12_see 5 = .ok (.if_icmp .ge 12, 3) := by decide +kernel
theorem dX12_see_8 : decode cX12_see 8 = .ok (.aload_n 0, 1) := by decide +kernel
theorem dX12_see_9 : decode cX12_see 9 = .ok (.getfield 22, 3) := by decide +kernel
theorem dX12_see_12 : decode cX12_see 12 = .ok (.iload_n 1, 1) := by decide +kernel
theorem dX12_see_13 : decode cX12_see 13 = .ok (.iaload, 1) := by decide +kernel
theorem dX12_see_14 : decode cX12_see 14 = .ok (.goto 4, 3) := by decide +kernel
theorem dX12_see_17 : decode cX12_see 17 = .ok (.iconst (-1), 1) := by decide +kernel
theorem dX12_see_18 : decode cX12_see 18 = .ok (.ireturn, 1) := by decide +kernel
theorem dX12_sets_0 : decode cX12_sets 0 = .ok (.iconst 0, 1) := by decide +kernel
theorem dX12_sets_1 : decode cX12_sets 1 = .ok (.istore 4, 2) := by decide +kernel
theorem dX12_sets_3 : decode cX12_sets 3 = .ok (.iload_n 1, 1) := by decide +kernel
theorem dX12_sets_4 : decode cX12_sets 4 = .ok (.istore 5, 2) := by decide +kernel
theorem dX12_sets_6 : decode cX12_sets 6 = .ok (.iload 5, 2) := by decide +kernel
theorem dX12_sets_8 : decode cX12_sets 8 = .ok (.iload_n 2, 1) := by decide +kernel
theorem dX12_sets_9 : decode cX12_sets 9 = .ok (.if_icmp .ge 35, 3) := by decide +kernel
theorem dX12_sets_12 : decode cX12_sets 12 = .ok (.iload 4, 2) := by decide +kernel
theorem dX12_sets_14 : decode cX12_sets 14 = .ok (.ifCond .ne 17, 3) := by decide +kernel
theorem dX12_sets_17 : decode cX12_sets 17 = .ok (.aload_n 0, 1) := by decide +kernel
theorem dX12_sets_18 : decode cX12_sets 18 = .ok (.getfield 16, 3) := by decide +kernel
theorem dX12_sets_21 : decode cX12_sets 21 = .ok (.iload 5, 2) := by decide +kernel
theorem dX12_sets_23 : decode cX12_sets 23 = .ok (.iaload, 1) := by decide +kernel
theorem dX12_sets_24 : decode cX12_sets 24 = .ok (.bipush 100, 2) := by decide +kernel
theorem dX12_sets_26 : decode cX12_sets 26 = .ok (.iload_n 3, 1) := by decide +kernel
theorem dX12_sets_27 : decode cX12_sets 27 = .ok (.iadd, 1) := by decide +kernel
theorem dX12_sets_28 : decode cX12_sets 28 = .ok (.if_icmp .ne 7, 3) := by decide +kernel
theorem dX12_sets_31 : decode cX12_sets 31 = .ok (.iconst 1, 1) := by decide +kernel
theorem dX12_sets_32 : decode cX12_sets 32 = .ok (.goto 4, 3) := by decide +kernel
theorem dX12_sets_35 : decode cX12_sets 35 = .ok (.iconst 0, 1) := by decide +kernel
theorem dX12_sets_36 : decode cX12_sets 36 = .ok (.istore 4, 2) := by decide +kernel
theorem dX12_sets_38 : decode cX12_sets 38 = .ok (.iinc 5 1, 3) := by decide +kernel
theorem dX12_sets_41 : decode cX12_sets 41 = .ok (.goto (-35), 3) := by decide +kernel
theorem dX12_sets_44 : decode cX12_sets 44 = .ok (.iload 4, 2) := by decide +kernel
theorem dX12_sets_46 : decode cX12_sets 46 = .ok (.ireturn, 1) := by decide +kernel
theorem dX12_size_0 : decode cX12_size 0 = .ok (.iload_n 1, 1) := by decide +kernel
theorem dX12_size_1 : decode cX12_size 1 = .ok (.invokestatic 249, 3) := by decide +kernel
theorem dX12_size_4 : decode cX12_size 4 = .ok (.ifCond .eq 12, 3) := by decide +kernel
theorem dX12_size_7 : decode cX12_size 7 = .ok (.iload_n 2, 1) := by decide +kernel
theorem dX12_size_8 : decode cX12_size 8 = .ok (.iconst 0, 1) := by decide +kernel
theorem dX12_size_9 : decode cX12_size 9 = .ok (.iconst 3, 1) := by decide +kernel
theorem dX12_size_10 : decode cX12_size 10 = .ok (.invokestatic 90, 3) := by decide +kernel
theorem dX12_size_13 : decode cX12_size 13 = .ok (.ifCond .ne 5, 3) := by decide +kernel
theorem dX12_size_16 : decode cX12_size 16 = .ok (.iconst (-1), 1) := by decide +kernel
theorem dX12_size_17 : decode cX12_size 17 = .ok (.ireturn, 1) := by decide +kernel
theorem dX12_size_18 : decode cX12_size 18 = .ok (.aload_n 0, 1) := by decide +kernel
theorem dX12_size_19 : decode cX12_size 19 = .ok (.iload_n 1, 1) := by decide +kernel
theorem dX12_size_20 : decode cX12_size 20 = .ok (.invokevirtual 271, 3) := by decide +kernel
theorem dX12_size_23 : decode cX12_size 23 = .ok (.iload_n 2, 1) := by decide +kernel
theorem dX12_size_24 : decode cX12_size 24 = .ok (.ifCond .ne 10, 3) := by decide +kernel
theorem dX12_size_27 : decode cX12_size 27 = .ok (.aload_n 0, 1) := by decide +kernel
theorem dX12_size_28 : decode cX12_size 28 = .ok (.invokevirtual 265, 3) := by decide +kernel
theorem dX12_size_31 : decode cX12_size 31 = .ok (.goto 33, 3) := by decide +kernel
theorem dX12_size_34 : decode cX12_size 34 = .ok (.iload_n 2, 1) := by decide +kernel
theorem dX12_size_35 : decode cX12_size 35 = .ok (.iconst 1, 1) := by decide +kernel
theorem dX12_size_36 : decode cX12_size 36 = .ok (.if_icmp .ne 10, 3) := by decide +kernel
theorem dX12_size_39 : decode cX12_size 39 = .ok (.aload_n 0, 1) := by decide +kernel
theorem dX12_size_40 : decode cX12_size 40 = .ok (.invokevirtual 274, 3) := by decide +kernel
theorem dX12_size_43 : decode cX12_size 43 = .ok (.goto 21, 3) := by decide +kernel
theorem dX12_size_46 : decode cX12_size 46 = .ok (.iload_n 2, 1) := by decide +kernel
theorem dX12_size_47 : decode cX12_size 47 = .ok (.iconst 2, 1) := by decide +kernel
theorem dX12_size_48 : decode cX12_size 48 = .ok (.if_icmp .ne 10, 3) := by decide +kernel
theorem dX12_size_51 : decode cX12_size 51 = .ok (.aload_n 0, 1) := by decide +kernel
theorem dX12_size_52 : decode cX12_size 52 = .ok (.getfield 98, 3) := by decide +kernel
theorem dX12_size_55 : decode cX12_size 55 = .ok (.goto 9, 3) := by decide +kernel
theorem dX12_size_58 : decode cX12_size 58 = .ok (.aload_n 0, 1) := by decide +kernel
theorem dX12_size_59 : decode cX12_size 59 = .ok (.iconst 0, 1) := by decide +kernel
theorem dX12_size_60 : decode cX12_size 60 = .ok (.iconst 0, 1) := by decide +kernel
theorem dX12_size_61 : decode cX12_size 61 = .ok (.invokevirtual 277, 3) := by decide +kernel
theorem dX12_size_64 : decode cX12_size 64 = .ok (.ireturn, 1) := by decide +kernel
theorem dX12_spills_0 : decode cX12_spills 0 = .ok (.iconst (-1), 1) := by decide +kernel
theorem dX12_spills_1 : decode cX12_spills 1 = .ok (.istore_n 3, 1) := by decide +kernel
theorem dX12_spills_2 : decode cX12_spills 2 = .ok (.iconst 0, 1) := by decide +kernel
theorem dX12_spills_3 : decode cX12_spills 3 = .ok (.istore 4, 2) := by decide +kernel
theorem dX12_spills_5 : decode cX12_spills 5 = .ok (.iload 4, 2) := by decide +kernel
theorem dX12_spills_7 : decode cX12_spills 7 = .ok (.bipush 64, 2) := by decide +kernel
theorem dX12_spills_9 : decode cX12_spills 9 = .ok (.if_icmp .ge 54, 3) := by decide +kernel
theorem dX12_spills_12 : decode cX12_spills 12 = .ok (.iload 4, 2) := by decide +kernel
theorem dX12_spills_14 : decode cX12_spills 14 = .ok (.iload_n 1, 1) := by decide +kernel
theorem dX12_spills_15 : decode cX12_spills 15 = .ok (.iconst (-1), 1) := by decide +kernel
theorem dX12_spills_16 : decode cX12_spills 16 = .ok (.ixor, 1) := by decide +kernel
theorem dX12_spills_17 : decode cX12_spills 17 = .ok (.iand, 1) := by decide +kernel
theorem dX12_spills_18 : decode cX12_spills 18 = .ok (.ifCond .ne 39, 3) := by decide +kernel
theorem dX12_spills_21 : decode cX12_spills 21 = .ok (.iload_n 3, 1) := by decide +kernel
theorem dX12_spills_22 : decode cX12_spills 22 = .ok (.iconst (-1), 1) := by decide +kernel
theorem dX12_spills_23 : decode cX12_spills 23 = .ok (.if_icmp .eq 17, 3) := by decide +kernel
theorem dX12_spills_26 : decode cX12_spills 26 = .ok (.aload_n 0, 1) := by decide +kernel
theorem dX12_spills_27 : decode cX12_spills 27 = .ok (.iload 4, 2) := by decide +kernel
theorem dX12_spills_29 : decode cX12_spills 29 = .ok (.invokevirtual 469, 3) := by decide +kernel
theorem dX12_spills_32 : decode cX12_spills 32 = .ok (.aload_n 0, 1) := by decide +kernel
theorem dX12_spills_33 : decode cX12_spills 33 = .ok (.iload_n 3, 1) := by decide +kernel
theorem dX12_spills_34 : decode cX12_spills 34 = .ok (.invokevirtual 469, 3) := by decide +kernel
theorem dX12_spills_37 : decode cX12_spills 37 = .ok (.if_icmp .ge 20, 3) := by decide +kernel
theorem dX12_spills_40 : decode cX12_spills 40 = .ok (.aload_n 0, 1) := by decide +kernel
theorem dX12_spills_41 : decode cX12_spills 41 = .ok (.iload_n 1, 1) := by decide +kernel
theorem dX12_spills_42 : decode cX12_spills 42 = .ok (.iload 4, 2) := by decide +kernel
theorem dX12_spills_44 : decode cX12_spills 44 = .ok (.iconst (-1), 1) := by decide +kernel
theorem dX12_spills_45 : decode cX12_spills 45 = .ok (.ixor, 1) := by decide +kernel
theorem dX12_spills_46 : decode cX12_spills 46 = .ok (.iand, 1) := by decide +kernel
theorem dX12_spills_47 : decode cX12_spills 47 = .ok (.iload_n 2, 1) := by decide +kernel
theorem dX12_spills_48 : decode cX12_spills 48 = .ok (.invokevirtual 466, 3) := by decide +kernel
theorem dX12_spills_51 : decode cX12_spills 51 = .ok (.ifCond .eq 6, 3) := by decide +kernel
theorem dX12_spills_54 : decode cX12_spills 54 = .ok (.iload 4, 2) := by decide +kernel
theorem dX12_spills_56 : decode cX12_spills 56 = .ok (.istore_n 3, 1) := by decide +kernel
theorem dX12_spills_57 : decode cX12_spills 57 = .ok (.iinc 4 1, 3) := by decide +kernel
theorem dX12_spills_60 : decode cX12_spills 60 = .ok (.goto (-55), 3) := by decide +kernel
theorem dX12_spills_63 : decode cX12_spills 63 = .ok (.iload_n 3, 1) := by decide +kernel
theorem dX12_spills_64 : decode cX12_spills 64 = .ok (.ireturn, 1) := by decide +kernel
theorem dX12_statement_0 : decode cX12_statement 0 = .ok (.aload_n 0, 1) := by decide +kernel
theorem dX12_statement_1 : decode cX12_statement 1 = .ok (.getfield 164, 3) := by decide +kernel
theorem dX12_statement_4 : decode cX12_statement 4 = .ok (.sipush 320, 3) := by decide +kernel
theorem dX12_statement_7 : decode cX12_statement 7 = .ok (.if_icmp .lt 7, 3) := by decide +kernel
theorem dX12_statement_10 : decode cX12_statement 10 = .ok (.iconst 1, 1) := by decide +kernel
theorem dX12_statement_11 : decode cX12_statement 11 = .ok (.goto 4, 3) := by decide +kernel
theorem dX12_statement_14 : decode cX12_statement 14 = .ok (.iconst 0, 1) := by decide +kernel
theorem dX12_statement_15 : decode cX12_statement 15 = .ok (.istore_n 1, 1) := by decide +kernel
theorem dX12_statement_16 : decode cX12_statement 16 = .ok (.iload_n 1, 1) := by decide +kernel
theorem dX12_statement_17 : decode cX12_statement 17 = .ok (.ifCond .ne 42, 3) := by decide +kernel
theorem dX12_statement_20 : decode cX12_statement 20 = .ok (.aload_n 0, 1) := by decide +kernel
theorem dX12_statement_21 : decode cX12_statement 21 = .ok (.getfield 164, 3) := by decide +kernel
theorem dX12_statement_24 : decode cX12_statement 24 = .ok (.iconst 3, 1) := by decide +kernel
theorem dX12_statement_25 : decode cX12_statement 25 = .ok (.if_icmp .eq 34, 3) := by decide +kernel
theorem dX12_statement_28 : decode cX12_statement 28 = .ok (.aload_n 0, 1) := by decide +kernel
theorem dX12_statement_29 : decode cX12_statement 29 = .ok (.getfield 164, 3) := by decide +kernel
theorem dX12_statement_32 : decode cX12_statement 32 = .ok (.iconst 4, 1) := by decide +kernel
theorem dX12_statement_33 : decode cX12_statement 33 = .ok (.if_icmp .eq 26, 3) := by decide +kernel
theorem dX12_statement_36 : decode cX12_statement 36 = .ok (.aload_n 0, 1) := by decide +kernel
theorem dX12_statement_37 : decode cX12_statement 37 = .ok (.getfield 164, 3) := by decide +kernel
theorem dX12_statement_40 : decode cX12_statement 40 = .ok (.iconst 5, 1) := by decide +kernel
theorem dX12_statement_41 : decode cX12_statement 41 = .ok (.if_icmp .eq 18, 3) := by decide +kernel
theorem dX12_statement_44 : decode cX12_statement 44 = .ok (.aload_n 0, 1) := by decide +kernel
theorem dX12_statement_45 : decode cX12_statement 45 = .ok (.getfield 164, 3) := by decide +kernel
theorem dX12_statement_48 : decode cX12_statement 48 = .ok (.bipush 7, 2) := by decide +kernel
theorem dX12_statement_50 : decode cX12_statement 50 = .ok (.if_icmp .eq 9, 3) := by decide +kernel
theorem dX12_statement_53 : decode cX12_statement 53 = .ok (.aload_n 0, 1) := by decide +kernel
theorem dX12_statement_54 : decode cX12_statement 54 = .ok (.iconst 1, 1) := by decide +kernel
theorem dX12_statement_55 : decode cX12_statement 55 = .ok (.invokevirtual 185, 3) := by decide +kernel
theorem dX12_statement_58 : decode cX12_statement 58 = .ok (.ireturn, 1) := by decide +kernel
theorem dX12_statement_59 : decode cX12_statement 59 = .ok (.aload_n 0, 1) := by decide +kernel
theorem dX12_statement_60 : decode cX12_statement 60 = .ok (.getfield 237, 3) := by decide +kernel
theorem dX12_statement_63 : decode cX12_statement 63 = .ok (.bipush 40, 2) := by decide +kernel
theorem dX12_statement_65 : decode cX12_statement 65 = .ok (.if_icmp .ne 9, 3) := by decide +kernel
theorem dX12_statement_68 : decode cX12_statement 68 = .ok (.aload_n 0, 1) := by decide +kernel
theorem dX12_statement_69 : decode cX12_statement 69 = .ok (.iconst 3, 1) := by decide +kernel
theorem dX12_statement_70 : decode cX12_statement 70 = .ok (.invokevirtual 185, 3) := by decide +kernel
theorem dX12_statement_73 : decode cX12_statement 73 = .ok (.ireturn, 1) := by decide +kernel
theorem dX12_statement_74 : decode cX12_statement 74 = .ok (.aload_n 0, 1) := by decide +kernel
theorem dX12_statement_75 : decode cX12_statement 75 = .ok (.dup, 1) := by decide +kernel
theorem dX12_statement_76 : decode cX12_statement 76 = .ok (.getfield 237, 3) := by decide +kernel
theorem dX12_statement_79 : decode cX12_statement 79 = .ok (.iconst 1, 1) := by decide +kernel
theorem dX12_statement_80 : decode cX12_statement 80 = .ok (.iadd, 1) := by decide +kernel
theorem dX12_statement_81 : decode cX12_statement 81 = .ok (.putfield 237, 3) := by decide +kernel
theorem dX12_statement_84 : decode cX12_statement 84 = .ok (.aload_n 0, 1) := by decide +kernel
theorem dX12_statement_85 : decode cX12_statement 85 = .ok (.getfield 164, 3) := by decide +kernel
theorem dX12_statement_88 : decode cX12_statement 88 = .ok (.istore_n 2, 1) := by decide +kernel
theorem dX12_statement_89 : decode cX12_statement 89 = .ok (.aload_n 0, 1) := by decide +kernel
theorem dX12_statement_90 : decode cX12_statement 90 = .ok (.invokevirtual 188, 3) := by decide +kernel
theorem dX12_statement_93 : decode cX12_statement 93 = .ok (.iload_n 1, 1) := by decide +kernel
theorem dX12_statement_94 : decode cX12_statement 94 = .ok (.ifCond .eq 46, 3) := by decide +kernel
theorem dX12_statement_97 : decode cX12_statement 97 = .ok (.aload_n 0, 1) := by decide +kernel
theorem dX12_statement_98 : decode cX12_statement 98 = .ok (.bipush 100, 2) := by decide +kernel
theorem dX12_statement_100 : decode cX12_statement 100 = .ok (.iload_n 2, 1) := by decide +kernel
theorem dX12_statement_101 : decode cX12_statement 101 = .ok (.iadd, 1) := by decide +kernel
theorem dX12_statement_102 : decode cX12_statement 102 = .ok (.sipush 320, 3) := by decide +kernel
theorem dX12_statement_105 : decode cX12_statement 105 = .ok (.isub, 1) := by decide +kernel
theorem dX12_statement_106 : decode cX12_statement 106 = .ok (.invokevirtual 120, 3) := by decide +kernel
theorem dX12_statement_109 : decode cX12_statement 109 = .ok (.aload_n 0, 1) := by decide +kernel
theorem dX12_statement_110 : decode cX12_statement 110 = .ok (.bipush 61, 2) := by decide +kernel
theorem dX12_statement_112 : decode cX12_statement 112 = .ok (.invokevirtual 194, 3) := by decide +kernel
theorem dX12_statement_115 : decode cX12_statement 115 = .ok (.ifCond .eq 23, 3) := by decide +kernel
theorem dX12_statement_118 : decode cX12_statement 118 = .ok (.aload_n 0, 1) := by decide +kernel
theorem dX12_statement_119 : decode cX12_statement 119 = .ok (.invokevirtual 219, 3) := by decide +kernel
theorem dX12_statement_122 : decode cX12_statement 122 = .ok (.ifCond .eq 16, 3) := by decide +kernel
theorem dX12_statement_125 : decode cX12_statement 125 = .ok (.aload_n 0, 1) := by decide +kernel
theorem dX12_statement_126 : decode cX12_statement 126 = .ok (.bipush 59, 2) := by decide +kernel
theorem dX12_statement_128 : decode cX12_statement 128 = .ok (.invokevirtual 194, 3) := by decide +kernel
theorem dX12_statement_131 : decode cX12_statement 131 = .ok (.ifCond .eq 7, 3) := by decide +kernel
theorem dX12_statement_134 : decode cX12_statement 134 = .ok (.iconst 1, 1) := by decide +kernel
theorem dX12_statement_135 : decode cX12_statement 135 = .ok (.goto 4, 3) := by decide +kernel
theorem dX12_statement_138 : decode cX12_statement 138 = .ok (.iconst 0, 1) := by decide +kernel
theorem dX12_statement_139 : decode cX12_statement 139 = .ok (.ireturn, 1) := by decide +kernel
theorem dX12_statement_140 : decode cX12_statement 140 = .ok (.iload_n 2, 1) := by decide +kernel
theorem dX12_statement_141 : decode cX12_statement 141 = .ok (.iconst 4, 1) := by decide +kernel
theorem dX12_statement_142 : decode cX12_statement 142 = .ok (.if_icmp .ne 16, 3) := by decide +kernel
theorem dX12_statement_145 : decode cX12_statement 145 = .ok (.aload_n 0, 1) := by decide +kernel
theorem dX12_statement_146 : decode cX12_statement 146 = .ok (.bipush 111, 2) := by decide +kernel
theorem dX12_statement_148 : decode cX12_statement 148 = .ok (.invokevirtual 120, 3) := by decide +kernel
theorem dX12_statement_151 : decode cX12_statement 151 = .ok (.aload_n 0, 1) := by decide +kernel
theorem dX12_statement_152 : decode cX12_statement 152 = .ok (.bipush 59, 2) := by decide +kernel
theorem dX12_statement_154 : decode cX12_statement 154 = .ok (.invokevirtual 194, 3) := by decide +kernel
theorem dX12_statement_157 : decode cX12_statement 157 = .ok (.ireturn, 1) := by decide +kernel
theorem dX12_statement_158 : decode cX12_statement 158 = .ok (.iload_n 2, 1) := by decide +kernel
theorem dX12_statement_159 : decode cX12_statement 159 = .ok (.iconst 3, 1) := by decide +kernel
theorem dX12_statement_160 : decode cX12_statement 160 = .ok (.if_icmp .ne 31, 3) := by decide +kernel
theorem dX12_statement_163 : decode cX12_statement 163 = .ok (.aload_n 0, 1) := by decide +kernel
theorem dX12_statement_164 : decode cX12_statement 164 = .ok (.bipush 110, 2) := by decide +kernel
theorem dX12_statement_166 : decode cX12_statement 166 = .ok (.invokevirtual 120, 3) := by decide +kernel
theorem dX12_statement_169 : decode cX12_statement 169 = .ok (.aload_n 0, 1) := by decide +kernel
theorem dX12_statement_170 : decode cX12_statement 170 = .ok (.invokevirtual 219, 3) := by decide +kernel
theorem dX12_statement_173 : decode cX12_statement 173 = .ok (.ifCond .eq 16, 3) := by decide +kernel
theorem dX12_statement_176 : decode cX12_statement 176 = .ok (.aload_n 0, 1) := by decide +kernel
theorem dX12_statement_177 : decode cX12_statement 177 = .ok (.bipush 59, 2) := by decide +kernel
theorem dX12_statement_179 : decode cX12_statement 179 = .ok (.invokevirtual 194, 3) := by decide +kernel
theorem dX12_statement_182 : decode cX12_statement 182 = .ok (.ifCond .eq 7, 3) := by decide +kernel
theorem dX12_statement_185 : decode cX12_statement 185 = .ok (.iconst 1, 1) := by decide +kernel
theorem dX12_statement_186 : decode cX12_statement 186 = .ok (.goto 4, 3) := by decide +kernel
theorem dX12_statement_189 : decode cX12_statement 189 = .ok (.iconst 0, 1) := by decide +kernel
theorem dX12_statement_190 : decode cX12_statement 190 = .ok (.ireturn, 1) := by decide +kernel
theorem dX12_statement_191 : decode cX12_statement 191 = .ok (.aload_n 0, 1) := by decide +kernel
theorem dX12_statement_192 : decode cX12_statement 192 = .ok (.iload_n 2, 1) := by decide +kernel
theorem dX12_statement_193 : decode cX12_statement 193 = .ok (.iconst 5, 1) := by decide +kernel
theorem dX12_statement_194 : decode cX12_statement 194 = .ok (.if_icmp .ne 8, 3) := by decide +kernel
theorem dX12_statement_197 : decode cX12_statement 197 = .ok (.bipush 112, 2) := by decide +kernel
theorem dX12_statement_199 : decode cX12_statement 199 = .ok (.goto 5, 3) := by decide +kernel
theorem dX12_statement_202 : decode cX12_statement 202 = .ok (.bipush 115, 2) := by decide +kernel
theorem dX12_statement_204 : decode cX12_statement 204 = .ok (.invokevirtual 120, 3) := by decide +kernel
theorem dX12_statement_207 : decode cX12_statement 207 = .ok (.aload_n 0, 1) := by decide +kernel
theorem dX12_statement_208 : decode cX12_statement 208 = .ok (.invokevirtual 240, 3) := by decide +kernel
theorem dX12_statement_211 : decode cX12_statement 211 = .ok (.ifCond .eq 10, 3) := by decide +kernel
theorem dX12_statement_214 : decode cX12_statement 214 = .ok (.aload_n 0, 1) := by decide +kernel
theorem dX12_statement_215 : decode cX12_statement 215 = .ok (.invokevirtual 234, 3) := by decide +kernel
theorem dX12_statement_218 : decode cX12_statement 218 = .ok (.ifCond .ne 5, 3) := by decide +kernel
theorem dX12_statement_221 : decode cX12_statement 221 = .ok (.iconst 0, 1) := by decide +kernel
theorem dX12_statement_222 : decode cX12_statement 222 = .ok (.ireturn, 1) := by decide +kernel
theorem dX12_statement_223 : decode cX12_statement 223 = .ok (.iload_n 2, 1) := by decide +kernel
theorem dX12_statement_224 : decode cX12_statement 224 = .ok (.iconst 5, 1) := by decide +kernel
theorem dX12_statement_225 : decode cX12_statement 225 = .ok (.if_icmp .ne 12, 3) := by decide +kernel
theorem dX12_statement_228 : decode cX12_statement 228 = .ok (.aload_n 0, 1) := by decide +kernel
theorem dX12_statement_229 : decode cX12_statement 229 = .ok (.invokevirtual 243, 3) := by decide +kernel
theorem dX12_statement_232 : decode cX12_statement 232 = .ok (.ifCond .ne 5, 3) := by decide +kernel
theorem dX12_statement_235 : decode cX12_statement 235 = .ok (.iconst 0, 1) := by decide +kernel
theorem dX12_statement_236 : decode cX12_statement 236 = .ok (.ireturn, 1) := by decide +kernel
theorem dX12_statement_237 : decode cX12_statement 237 = .ok (.aload_n 0, 1) := by decide +kernel
theorem dX12_statement_238 : decode cX12_statement 238 = .ok (.bipush 114, 2) := by decide +kernel
theorem dX12_statement_240 : decode cX12_statement 240 = .ok (.invokevirtual 120, 3) := by decide +kernel
theorem dX12_statement_243 : decode cX12_statement 243 = .ok (.iconst 1, 1) := by decide +kernel
theorem dX12_statement_244 : decode cX12_statement 244 = .ok (.ireturn, 1) := by decide +kernel
theorem dX12_statements_0 : decode cX12_statements 0 = .ok (.iconst 0, 1) := by decide +kernel
theorem dX12_statements_1 : decode cX12_statements 1 = .ok (.istore_n 1, 1) := by decide +kernel
theorem dX12_statements_2 : decode cX12_statements 2 = .ok (.iconst 0, 1) := by decide +kernel
theorem dX12_statements_3 : decode cX12_statements 3 = .ok (.istore_n 2, 1) := by decide +kernel
theorem dX12_statements_4 : decode cX12_statements 4 = .ok (.iload_n 2, 1) := by decide +kernel
theorem dX12_statements_5 : decode cX12_statements 5 = .ok (.aload_n 0, 1) := by decide +kernel
theorem dX12_statements_6 : decode cX12_statements 6 = .ok (.getfield 98, 3) := by decide +kernel
theorem dX12_statements_9 : decode cX12_statements 9 = .ok (.if_icmp .ge 29, 3) := by decide +kernel
theorem dX12_statements_12 : decode cX12_statements 12 = .ok (.iload_n 1, 1) := by decide +kernel
theorem dX12_statements_13 : decode cX12_statements 13 = .ok (.aload_n 0, 1) := by decide +kernel
theorem dX12_statements_14 : decode cX12_statements 14 = .ok (.getfield 16, 3) := by decide +kernel
theorem dX12_statements_17 : decode cX12_statements 17 = .ok (.iload_n 2, 1) := by decide +kernel
theorem dX12_statements_18 : decode cX12_statements 18 = .ok (.iaload, 1) := by decide +kernel
theorem dX12_statements_19 : decode cX12_statements 19 = .ok (.invokestatic 111, 3) := by decide +kernel
theorem dX12_statements_22 : decode cX12_statements 22 = .ok (.ifCond .eq 7, 3) := by decide +kernel
theorem dX12_statements_25 : decode cX12_statements 25 = .ok (.iconst 1, 1) := by decide +kernel
theorem dX12_statements_26 : decode cX12_statements 26 = .ok (.goto 4, 3) := by decide +kernel
theorem dX12_statements_29 : decode cX12_statements 29 = .ok (.iconst 0, 1) := by decide +kernel
theorem dX12_statements_30 : decode cX12_statements 30 = .ok (.iadd, 1) := by decide +kernel
theorem dX12_statements_31 : decode cX12_statements 31 = .ok (.istore_n 1, 1) := by decide +kernel
theorem dX12_statements_32 : decode cX12_statements 32 = .ok (.iinc 2 1, 3) := by decide +kernel
theorem dX12_statements_35 : decode cX12_statements 35 = .ok (.goto (-31), 3) := by decide +kernel
theorem dX12_statements_38 : decode cX12_statements 38 = .ok (.iload_n 1, 1) := by decide +kernel
theorem dX12_statements_39 : decode cX12_statements 39 = .ok (.ireturn, 1) := by decide +kernel
theorem dX12_step_0 : decode cX12_step 0 = .ok (.aload_n 0, 1) := by decide +kernel
theorem dX12_step_1 : decode cX12_step 1 = .ok (.getfield 291, 3) := by decide +kernel
theorem dX12_step_4 : decode cX12_step 4 = .ok (.bipush 100, 2) := by decide +kernel
theorem dX12_step_6 : decode cX12_step 6 = .ok (.if_icmp .ne 10, 3) := by decide +kernel
theorem dX12_step_9 : decode cX12_step 9 = .ok (.aload_n 0, 1) := by decide +kernel
theorem dX12_step_10 : decode cX12_step 10 = .ok (.iconst 2, 1) := by decide +kernel
theorem dX12_step_11 : decode cX12_step 11 = .ok (.putfield 294, 3) := by decide +kernel
theorem dX12_step_14 : decode cX12_step 14 = .ok (.iconst 0, 1) := by decide +kernel
theorem dX12_step_15 : decode cX12_step 15 = .ok (.ireturn, 1) := by decide +kernel
theorem dX12_step_16 : decode cX12_step 16 = .ok (.aload_n 0, 1) := by decide +kernel
theorem dX12_step_17 : decode cX12_step 17 = .ok (.dup, 1) := by decide +kernel
theorem dX12_step_18 : decode cX12_step 18 = .ok (.getfield 291, 3) := by decide +kernel
theorem dX12_step_21 : decode cX12_step 21 = .ok (.iconst 1, 1) := by decide +kernel
theorem dX12_step_22 : decode cX12_step 22 = .ok (.iadd, 1) := by decide +kernel
theorem dX12_step_23 : decode cX12_step 23 = .ok (.putfield 291, 3) := by decide +kernel
theorem dX12_step_26 : decode cX12_step 26 = .ok (.iconst 1, 1) := by decide +kernel
theorem dX12_step_27 : decode cX12_step 27 = .ok (.ireturn, 1) := by decide +kernel
theorem dX12_sumUp_0 : decode cX12_sumUp 0 = .ok (.aload_n 0, 1) := by decide +kernel
theorem dX12_sumUp_1 : decode cX12_sumUp 1 = .ok (.getfield 117, 3) := by decide +kernel
theorem dX12_sumUp_4 : decode cX12_sumUp 4 = .ok (.istore_n 1, 1) := by decide +kernel
theorem dX12_sumUp_5 : decode cX12_sumUp 5 = .ok (.aload_n 0, 1) := by decide +kernel
theorem dX12_sumUp_6 : decode cX12_sumUp 6 = .ok (.invokevirtual 203, 3) := by decide +kernel
theorem dX12_sumUp_9 : decode cX12_sumUp 9 = .ok (.ifCond .ne 5, 3) := by decide +kernel
theorem dX12_sumUp_12 : decode cX12_sumUp 12 = .ok (.iconst 0, 1) := by decide +kernel
theorem dX12_sumUp_13 : decode cX12_sumUp 13 = .ok (.ireturn, 1) := by decide +kernel
theorem dX12_sumUp_14 : decode cX12_sumUp 14 = .ok (.aload_n 0, 1) := by decide +kernel
theorem dX12_sumUp_15 : decode cX12_sumUp 15 = .ok (.getfield 164, 3) := by decide +kernel
theorem dX12_sumUp_18 : decode cX12_sumUp 18 = .ok (.bipush 43, 2) := by decide +kernel
theorem dX12_sumUp_20 : decode cX12_sumUp 20 = .ok (.if_icmp .eq 12, 3) := by decide +kernel
theorem dX12_sumUp_23 : decode cX12_sumUp 23 = .ok (.aload_n 0, 1) := by decide +kernel
theorem dX12_sumUp_24 : decode cX12_sumUp 24 = .ok (.getfield 164, 3) := by decide +kernel
theorem dX12_sumUp_27 : decode cX12_sumUp 27 = .ok (.bipush 45, 2) := by decide +kernel
theorem dX12_sumUp_29 : decode cX12_sumUp 29 = .ok (.if_icmp .ne 51, 3) := by decide +kernel
theorem dX12_sumUp_32 : decode cX12_sumUp 32 = .ok (.aload_n 0, 1) := by decide +kernel
theorem dX12_sumUp_33 : decode cX12_sumUp 33 = .ok (.getfield 164, 3) := by decide +kernel
theorem dX12_sumUp_36 : decode cX12_sumUp 36 = .ok (.bipush 43, 2) := by decide +kernel
theorem dX12_sumUp_38 : decode cX12_sumUp 38 = .ok (.if_icmp .ne 8, 3) := by decide +kernel
theorem dX12_sumUp_41 : decode cX12_sumUp 41 = .ok (.bipush 120, 2) := by decide +kernel
theorem dX12_sumUp_43 : decode cX12_sumUp 43 = .ok (.goto 5, 3) := by decide +kernel
theorem dX12_sumUp_46 : decode cX12_sumUp 46 = .ok (.bipush 121, 2) := by decide +kernel
theorem dX12_sumUp_48 : decode cX12_sumUp 48 = .ok (.istore_n 2, 1) := by decide +kernel
theorem dX12_sumUp_49 : decode cX12_sumUp 49 = .ok (.aload_n 0, 1) := by decide +kernel
theorem dX12_sumUp_50 : decode cX12_sumUp 50 = .ok (.invokevirtual 206, 3) := by decide +kernel
theorem dX12_sumUp_53 : decode cX12_sumUp 53 = .ok (.ifCond .ne 5, 3) := by decide +kernel
theorem dX12_sumUp_56 : decode cX12_sumUp 56 = .ok (.iconst 0, 1) := by decide +kernel
theorem dX12_sumUp_57 : decode cX12_sumUp 57 = .ok (.ireturn, 1) := by decide +kernel
theorem dX12_sumUp_58 : decode cX12_sumUp 58 = .ok (.aload_n 0, 1) := by decide +kernel
theorem dX12_sumUp_59 : decode cX12_sumUp 59 = .ok (.invokevirtual 188, 3) := by decide +kernel
theorem dX12_sumUp_62 : decode cX12_sumUp 62 = .ok (.aload_n 0, 1) := by decide +kernel
theorem dX12_sumUp_63 : decode cX12_sumUp 63 = .ok (.iload_n 1, 1) := by decide +kernel
theorem dX12_sumUp_64 : decode cX12_sumUp 64 = .ok (.iload_n 2, 1) := by decide +kernel
theorem dX12_sumUp_65 : decode cX12_sumUp 65 = .ok (.invokevirtual 209, 3) := by decide +kernel
theorem dX12_sumUp_68 : decode cX12_sumUp 68 = .ok (.aload_n 0, 1) := by decide +kernel
theorem dX12_sumUp_69 : decode cX12_sumUp 69 = .ok (.invokevirtual 203, 3) := by decide +kernel
theorem dX12_sumUp_72 : decode cX12_sumUp 72 = .ok (.ifCond .ne 5, 3) := by decide +kernel
theorem dX12_sumUp_75 : decode cX12_sumUp 75 = .ok (.iconst 0, 1) := by decide +kernel
theorem dX12_sumUp_76 : decode cX12_sumUp 76 = .ok (.ireturn, 1) := by decide +kernel
theorem dX12_sumUp_77 : decode cX12_sumUp 77 = .ok (.goto (-63), 3) := by decide +kernel
theorem dX12_sumUp_80 : decode cX12_sumUp 80 = .ok (.iconst 1, 1) := by decide +kernel
theorem dX12_sumUp_81 : decode cX12_sumUp 81 = .ok (.ireturn, 1) := by decide +kernel
theorem dX12_takes_0 : decode cX12_takes 0 = .ok (.aload_n 0, 1) := by decide +kernel
theorem dX12_takes_1 : decode cX12_takes 1 = .ok (.aload_n 0, 1) := by decide +kernel
theorem dX12_takes_2 : decode cX12_takes 2 = .ok (.getfield 13, 3) := by decide +kernel
theorem dX12_takes_5 : decode cX12_takes 5 = .ok (.iload_n 1, 1) := by decide +kernel
theorem dX12_takes_6 : decode cX12_takes 6 = .ok (.iaload, 1) := by decide +kernel
theorem dX12_takes_7 : decode cX12_takes 7 = .ok (.putfield 98, 3) := by decide +kernel
theorem dX12_takes_10 : decode cX12_takes 10 = .ok (.iconst 0, 1) := by decide +kernel
theorem dX12_takes_11 : decode cX12_takes 11 = .ok (.istore_n 2, 1) := by decide +kernel
theorem dX12_takes_12 : decode cX12_takes 12 = .ok (.iload_n 2, 1) := by decide +kernel
theorem dX12_takes_13 : decode cX12_takes 13 = .ok (.aload_n 0, 1) := by decide +kernel
theorem dX12_takes_14 : decode cX12_takes 14 = .ok (.getfield 98, 3) := by decide +kernel
theorem dX12_takes_17 : decode cX12_takes 17 = .ok (.if_icmp .ge 27, 3) := by decide +kernel
theorem dX12_takes_20 : decode cX12_takes 20 = .ok (.aload_n 0, 1) := by decide +kernel
theorem dX12_takes_21 : decode cX12_takes 21 = .ok (.getfield 16, 3) := by decide +kernel
theorem dX12_takes_24 : decode cX12_takes 24 = .ok (.iload_n 2, 1) := by decide +kernel
theorem dX12_takes_25 : decode cX12_takes 25 = .ok (.aload_n 0, 1) := by decide +kernel
theorem dX12_takes_26 : decode cX12_takes 26 = .ok (.getfield 7, 3) := by decide +kernel
theorem dX12_takes_29 : decode cX12_takes 29 = .ok (.sipush 520, 3) := by decide +kernel
theorem dX12_takes_32 : decode cX12_takes 32 = .ok (.iload_n 1, 1) := by decide +kernel
theorem dX12_takes_33 : decode cX12_takes 33 = .ok (.imul, 1) := by decide +kernel
theorem dX12_takes_34 : decode cX12_takes 34 = .ok (.iload_n 2, 1) := by decide +kernel
theorem dX12_takes_35 : decode cX12_takes 35 = .ok (.iadd, 1) := by decide +kernel
theorem dX12_takes_36 : decode cX12_takes 36 = .ok (.iaload, 1) := by decide +kernel
theorem dX12_takes_37 : decode cX12_takes 37 = .ok (.iastore, 1) := by decide +kernel
theorem dX12_takes_38 : decode cX12_takes 38 = .ok (.iinc 2 1, 3) := by decide +kernel
theorem dX12_takes_41 : decode cX12_takes 41 = .ok (.goto (-29), 3) := by decide +kernel
theorem dX12_takes_44 : decode cX12_takes 44 = .ok (.return_, 1) := by decide +kernel
theorem dX12_takesWhole_0 : decode cX12_takesWhole 0 = .ok (.aload_n 0, 1) := by decide +kernel
theorem dX12_takesWhole_1 : decode cX12_takesWhole 1 = .ok (.aload_n 0, 1) := by decide +kernel
theorem dX12_takesWhole_2 : decode cX12_takesWhole 2 = .ok (.getfield 442, 3) := by decide +kernel
theorem dX12_takesWhole_5 : decode cX12_takesWhole 5 = .ok (.putfield 98, 3) := by decide +kernel
theorem dX12_takesWhole_8 : decode cX12_takesWhole 8 = .ok (.iconst 0, 1) := by decide +kernel
theorem dX12_takesWhole_9 : decode cX12_takesWhole 9 = .ok (.istore_n 1, 1) := by decide +kernel
theorem dX12_takesWhole_10 : decode cX12_takesWhole 10 = .ok (.iload_n 1, 1) := by decide +kernel
theorem dX12_takesWhole_11 : decode cX12_takesWhole 11 = .ok (.aload_n 0, 1) := by decide +kernel
theorem dX12_takesWhole_12 : decode cX12_takesWhole 12 = .ok (.getfield 98, 3) := by decide +kernel
theorem dX12_takesWhole_15 : decode cX12_takesWhole 15 = .ok (.if_icmp .ge 21, 3) := by decide +kernel
theorem dX12_takesWhole_18 : decode cX12_takesWhole 18 = .ok (.aload_n 0, 1) := by decide +kernel
theorem dX12_takesWhole_19 : decode cX12_takesWhole 19 = .ok (.getfield 16, 3) := by decide +kernel
theorem dX12_takesWhole_22 : decode cX12_takesWhole 22 = .ok (.iload_n 1, 1) := by decide +kernel
theorem dX12_takesWhole_23 : decode cX12_takesWhole 23 = .ok (.aload_n 0, 1) := by decide +kernel
theorem dX12_takesWhole_24 : decode cX12_takesWhole 24 = .ok (.getfield 78, 3) := by decide +kernel
theorem dX12_takesWhole_27 : decode cX12_takesWhole 27 = .ok (.iload_n 1, 1) := by decide +kernel
theorem dX12_takesWhole_28 : decode cX12_takesWhole 28 = .ok (.iaload, 1) := by decide +kernel
theorem dX12_takesWhole_29 : decode cX12_takesWhole 29 = .ok (.iastore, 1) := by decide +kernel
theorem dX12_takesWhole_30 : decode cX12_takesWhole 30 = .ok (.iinc 1 1, 3) := by decide +kernel
theorem dX12_takesWhole_33 : decode cX12_takesWhole 33 = .ok (.goto (-23), 3) := by decide +kernel
theorem dX12_takesWhole_36 : decode cX12_takesWhole 36 = .ok (.return_, 1) := by decide +kernel
theorem dX12_timesOf_0 : decode cX12_timesOf 0 = .ok (.iconst 0, 1) := by decide +kernel
theorem dX12_timesOf_1 : decode cX12_timesOf 1 = .ok (.istore_n 2, 1) := by decide +kernel
theorem dX12_timesOf_2 : decode cX12_timesOf 2 = .ok (.iconst 0, 1) := by decide +kernel
theorem dX12_timesOf_3 : decode cX12_timesOf 3 = .ok (.istore_n 3, 1) := by decide +kernel
theorem dX12_timesOf_4 : decode cX12_timesOf 4 = .ok (.iload_n 3, 1) := by decide +kernel
theorem dX12_timesOf_5 : decode cX12_timesOf 5 = .ok (.aload_n 0, 1) := by decide +kernel
theorem dX12_timesOf_6 : decode cX12_timesOf 6 = .ok (.getfield 98, 3) := by decide +kernel
theorem dX12_timesOf_9 : decode cX12_timesOf 9 = .ok (.if_icmp .ge 84, 3) := by decide +kernel
theorem dX12_timesOf_12 : decode cX12_timesOf 12 = .ok (.aload_n 0, 1) := by decide +kernel
theorem dX12_timesOf_13 : decode cX12_timesOf 13 = .ok (.getfield 16, 3) := by decide +kernel
theorem dX12_timesOf_16 : decode cX12_timesOf 16 = .ok (.iload_n 3, 1) := by decide +kernel
theorem dX12_timesOf_17 : decode cX12_timesOf 17 = .ok (.iaload, 1) := by decide +kernel
theorem dX12_timesOf_18 : decode cX12_timesOf 18 = .ok (.istore 4, 2) := by decide +kernel
theorem dX12_timesOf_20 : decode cX12_timesOf 20 = .ok (.iload 4, 2) := by decide +kernel
theorem dX12_timesOf_22 : decode cX12_timesOf 22 = .ok (.bipush 20, 2) := by decide +kernel
theorem dX12_timesOf_24 : decode cX12_timesOf 24 = .ok (.bipush 25, 2) := by decide +kernel
theorem dX12_timesOf_26 : decode cX12_timesOf 26 = .ok (.invokestatic 90, 3) := by decide +kernel
theorem dX12_timesOf_29 : decode cX12_timesOf 29 = .ok (.ifCond .eq 11, 3) := by decide +kernel
theorem dX12_timesOf_32 : decode cX12_timesOf 32 = .ok (.iload 4, 2) := by decide +kernel
theorem dX12_timesOf_34 : decode cX12_timesOf 34 = .ok (.bipush 20, 2) := by decide +kernel
theorem dX12_timesOf_36 : decode cX12_timesOf 36 = .ok (.isub, 1) := by decide +kernel
theorem dX12_timesOf_37 : decode cX12_timesOf 37 = .ok (.goto 24, 3) := by decide +kernel
theorem dX12_timesOf_40 : decode cX12_timesOf 40 = .ok (.iload 4, 2) := by decide +kernel
theorem dX12_timesOf_42 : decode cX12_timesOf 42 = .ok (.bipush 100, 2) := by decide +kernel
theorem dX12_timesOf_44 : decode cX12_timesOf 44 = .ok (.bipush 105, 2) := by decide +kernel
theorem dX12_timesOf_46 : decode cX12_timesOf 46 = .ok (.invokestatic 90, 3) := by decide +kernel
theorem dX12_timesOf_49 : decode cX12_timesOf 49 = .ok (.ifCond .eq 11, 3) := by decide +kernel
theorem dX12_timesOf_52 : decode cX12_timesOf 52 = .ok (.iload 4, 2) := by decide +kernel
theorem dX12_timesOf_54 : decode cX12_timesOf 54 = .ok (.bipush 100, 2) := by decide +kernel
theorem dX12_timesOf_56 : decode cX12_timesOf 56 = .ok (.isub, 1) := by decide +kernel
theorem dX12_timesOf_57 : decode cX12_timesOf 57 = .ok (.goto 4, 3) := by decide +kernel
theorem dX12_timesOf_60 : decode cX12_timesOf 60 = .ok (.iconst (-1), 1) := by decide +kernel
theorem dX12_timesOf_61 : decode cX12_timesOf 61 = .ok (.istore 5, 2) := by decide +kernel
theorem dX12_timesOf_63 : decode cX12_timesOf 63 = .ok (.iload_n 2, 1) := by decide +kernel
theorem dX12_timesOf_64 : decode cX12_timesOf 64 = .ok (.iload 5, 2) := by decide +kernel
theorem dX12_timesOf_66 : decode cX12_timesOf 66 = .ok (.iconst (-1), 1) := by decide +kernel
theorem dX12_timesOf_67 : decode cX12_timesOf 67 = .ok (.if_icmp .eq 17, 3) := by decide +kernel
theorem dX12_timesOf_70 : decode cX12_timesOf 70 = .ok (.iload_n 1, 1) := by decide +kernel
theorem dX12_timesOf_71 : decode cX12_timesOf 71 = .ok (.iload 5, 2) := by decide +kernel
theorem dX12_timesOf_73 : decode cX12_timesOf 73 = .ok (.ishr, 1) := by decide +kernel
theorem dX12_timesOf_74 : decode cX12_timesOf 74 = .ok (.iconst 1, 1) := by decide +kernel
theorem dX12_timesOf_75 : decode cX12_timesOf 75 = .ok (.iand, 1) := by decide +kernel
theorem dX12_timesOf_76 : decode cX12_timesOf 76 = .ok (.iconst 1, 1) := by decide +kernel
theorem dX12_timesOf_77 : decode cX12_timesOf 77 = .ok (.if_icmp .ne 7, 3) := by decide +kernel
theorem dX12_timesOf_80 : decode cX12_timesOf 80 = .ok (.iconst 1, 1) := by decide +kernel
theorem dX12_timesOf_81 : decode cX12_timesOf 81 = .ok (.goto 4, 3) := by decide +kernel
theorem dX12_timesOf_84 : decode cX12_timesOf 84 = .ok (.iconst 0, 1) := by decide +kernel
theorem dX12_timesOf_85 : decode cX12_timesOf 85 = .ok (.iadd, 1) := by decide +kernel
theorem dX12_timesOf_86 : decode cX12_timesOf 86 = .ok (.istore_n 2, 1) := by decide +kernel
theorem dX12_timesOf_87 : decode cX12_timesOf 87 = .ok (.iinc 3 1, 3) := by decide +kernel
theorem dX12_timesOf_90 : decode cX12_timesOf 90 = .ok (.goto (-86), 3) := by decide +kernel
theorem dX12_timesOf_93 : decode cX12_timesOf 93 = .ok (.iload_n 2, 1) := by decide +kernel
theorem dX12_timesOf_94 : decode cX12_timesOf 94 = .ok (.ireturn, 1) := by decide +kernel
theorem dX12_turns_0 : decode cX12_turns 0 = .ok (.aload_n 0, 1) := by decide +kernel
theorem dX12_turns_1 : decode cX12_turns 1 = .ok (.aload_n 0, 1) := by decide +kernel
theorem dX12_turns_2 : decode cX12_turns 2 = .ok (.getfield 117, 3) := by decide +kernel
theorem dX12_turns_5 : decode cX12_turns 5 = .ok (.putfield 98, 3) := by decide +kernel
theorem dX12_turns_8 : decode cX12_turns 8 = .ok (.iconst 0, 1) := by decide +kernel
theorem dX12_turns_9 : decode cX12_turns 9 = .ok (.istore_n 1, 1) := by decide +kernel
theorem dX12_turns_10 : decode cX12_turns 10 = .ok (.iload_n 1, 1) := by decide +kernel
theorem dX12_turns_11 : decode cX12_turns 11 = .ok (.aload_n 0, 1) := by decide +kernel
theorem dX12_turns_12 : decode cX12_turns 12 = .ok (.getfield 98, 3) := by decide +kernel
theorem dX12_turns_15 : decode cX12_turns 15 = .ok (.if_icmp .ge 21, 3) := by decide +kernel
theorem dX12_turns_18 : decode cX12_turns 18 = .ok (.aload_n 0, 1) := by decide +kernel
theorem dX12_turns_19 : decode cX12_turns 19 = .ok (.getfield 16, 3) := by decide +kernel
theorem dX12_turns_22 : decode cX12_turns 22 = .ok (.iload_n 1, 1) := by decide +kernel
theorem dX12_turns_23 : decode cX12_turns 23 = .ok (.aload_n 0, 1) := by decide +kernel
theorem dX12_turns_24 : decode cX12_turns 24 = .ok (.getfield 19, 3) := by decide +kernel
theorem dX12_turns_27 : decode cX12_turns 27 = .ok (.iload_n 1, 1) := by decide +kernel
theorem dX12_turns_28 : decode cX12_turns 28 = .ok (.iaload, 1) := by decide +kernel
theorem dX12_turns_29 : decode cX12_turns 29 = .ok (.iastore, 1) := by decide +kernel
theorem dX12_turns_30 : decode cX12_turns 30 = .ok (.iinc 1 1, 3) := by decide +kernel
theorem dX12_turns_33 : decode cX12_turns 33 = .ok (.goto (-23), 3) := by decide +kernel
theorem dX12_turns_36 : decode cX12_turns 36 = .ok (.aload_n 0, 1) := by decide +kernel
theorem dX12_turns_37 : decode cX12_turns 37 = .ok (.iconst 0, 1) := by decide +kernel
theorem dX12_turns_38 : decode cX12_turns 38 = .ok (.putfield 117, 3) := by decide +kernel
theorem dX12_turns_41 : decode cX12_turns 41 = .ok (.return_, 1) := by decide +kernel
theorem dX12_unit_0 : decode cX12_unit 0 = .ok (.aload_n 0, 1) := by decide +kernel
theorem dX12_unit_1 : decode cX12_unit 1 = .ok (.getfield 164, 3) := by decide +kernel
theorem dX12_unit_4 : decode cX12_unit 4 = .ok (.bipush 40, 2) := by decide +kernel
theorem dX12_unit_6 : decode cX12_unit 6 = .ok (.if_icmp .ne 34, 3) := by decide +kernel
theorem dX12_unit_9 : decode cX12_unit 9 = .ok (.aload_n 0, 1) := by decide +kernel
theorem dX12_unit_10 : decode cX12_unit 10 = .ok (.bipush 40, 2) := by decide +kernel
theorem dX12_unit_12 : decode cX12_unit 12 = .ok (.invokevirtual 216, 3) := by decide +kernel
theorem dX12_unit_15 : decode cX12_unit 15 = .ok (.ifCond .eq 23, 3) := by decide +kernel
theorem dX12_unit_18 : decode cX12_unit 18 = .ok (.aload_n 0, 1) := by decide +kernel
theorem dX12_unit_19 : decode cX12_unit 19 = .ok (.invokevirtual 219, 3) := by decide +kernel
theorem dX12_unit_22 : decode cX12_unit 22 = .ok (.ifCond .eq 16, 3) := by decide +kernel
