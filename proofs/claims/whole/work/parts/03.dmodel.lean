theorem dX10_init_0 : decode cX10_init 0 = .ok (.aload_n 0, 1) := by decide +kernel
theorem dX10_init_1 : decode cX10_init 1 = .ok (.invokespecial 1, 3) := by decide +kernel
theorem dX10_init_4 : decode cX10_init 4 = .ok (.aload_n 0, 1) := by decide +kernel
theorem dX10_init_5 : decode cX10_init 5 = .ok (.bipush 10, 2) := by decide +kernel
theorem dX10_init_7 : decode cX10_init 7 = .ok (.newarray .int, 2) := by decide +kernel
theorem dX10_init_9 : decode cX10_init 9 = .ok (.putfield 7, 3) := by decide +kernel
theorem dX10_init_12 : decode cX10_init 12 = .ok (.aload_n 0, 1) := by decide +kernel
theorem dX10_init_13 : decode cX10_init 13 = .ok (.bipush 10, 2) := by decide +kernel
theorem dX10_init_15 : decode cX10_init 15 = .ok (.newarray .int, 2) := by decide +kernel
theorem dX10_init_17 : decode cX10_init 17 = .ok (.putfield 13, 3) := by decide +kernel
theorem dX10_init_20 : decode cX10_init 20 = .ok (.aload_n 0, 1) := by decide +kernel
theorem dX10_init_21 : decode cX10_init 21 = .ok (.bipush 10, 2) := by decide +kernel
theorem dX10_init_23 : decode cX10_init 23 = .ok (.newarray .int, 2) := by decide +kernel
theorem dX10_init_25 : decode cX10_init 25 = .ok (.putfield 16, 3) := by decide +kernel
theorem dX10_init_28 : decode cX10_init 28 = .ok (.aload_n 0, 1) := by decide +kernel
theorem dX10_init_29 : decode cX10_init 29 = .ok (.bipush 10, 2) := by decide +kernel
theorem dX10_init_31 : decode cX10_init 31 = .ok (.newarray .int, 2) := by decide +kernel
theorem dX10_init_33 : decode cX10_init 33 = .ok (.putfield 19, 3) := by decide +kernel
theorem dX10_init_36 : decode cX10_init 36 = .ok (.aload_n 0, 1) := by decide +kernel
theorem dX10_init_37 : decode cX10_init 37 = .ok (.bipush 10, 2) := by decide +kernel
theorem dX10_init_39 : decode cX10_init 39 = .ok (.newarray .int, 2) := by decide +kernel
theorem dX10_init_41 : decode cX10_init 41 = .ok (.putfield 22, 3) := by decide +kernel
theorem dX10_init_44 : decode cX10_init 44 = .ok (.aload_n 0, 1) := by decide +kernel
theorem dX10_init_45 : decode cX10_init 45 = .ok (.bipush 30, 2) := by decide +kernel
theorem dX10_init_47 : decode cX10_init 47 = .ok (.newarray .int, 2) := by decide +kernel
theorem dX10_init_49 : decode cX10_init 49 = .ok (.putfield 25, 3) := by decide +kernel
theorem dX10_init_52 : decode cX10_init 52 = .ok (.aload_n 0, 1) := by decide +kernel
theorem dX10_init_53 : decode cX10_init 53 = .ok (.bipush 10, 2) := by decide +kernel
theorem dX10_init_55 : decode cX10_init 55 = .ok (.newarray .int, 2) := by decide +kernel
theorem dX10_init_57 : decode cX10_init 57 = .ok (.putfield 28, 3) := by decide +kernel
theorem dX10_init_60 : decode cX10_init 60 = .ok (.aload_n 0, 1) := by decide +kernel
theorem dX10_init_61 : decode cX10_init 61 = .ok (.bipush 10, 2) := by decide +kernel
theorem dX10_init_63 : decode cX10_init 63 = .ok (.newarray .int, 2) := by decide +kernel
theorem dX10_init_65 : decode cX10_init 65 = .ok (.putfield 31, 3) := by decide +kernel
theorem dX10_init_68 : decode cX10_init 68 = .ok (.aload_n 0, 1) := by decide +kernel
theorem dX10_init_69 : decode cX10_init 69 = .ok (.bipush 10, 2) := by decide +kernel
theorem dX10_init_71 : decode cX10_init 71 = .ok (.newarray .int, 2) := by decide +kernel
theorem dX10_init_73 : decode cX10_init 73 = .ok (.putfield 34, 3) := by decide +kernel
theorem dX10_init_76 : decode cX10_init 76 = .ok (.aload_n 0, 1) := by decide +kernel
theorem dX10_init_77 : decode cX10_init 77 = .ok (.iconst 2, 1) := by decide +kernel
theorem dX10_init_78 : decode cX10_init 78 = .ok (.newarray .int, 2) := by decide +kernel
theorem dX10_init_80 : decode cX10_init 80 = .ok (.putfield 37, 3) := by decide +kernel
theorem dX10_init_83 : decode cX10_init 83 = .ok (.aload_n 0, 1) := by decide +kernel
theorem dX10_init_84 : decode cX10_init 84 = .ok (.iconst 3, 1) := by decide +kernel
theorem dX10_init_85 : decode cX10_init 85 = .ok (.newarray .int, 2) := by decide +kernel
theorem dX10_init_87 : decode cX10_init 87 = .ok (.putfield 40, 3) := by decide +kernel
theorem dX10_init_90 : decode cX10_init 90 = .ok (.aload_n 0, 1) := by decide +kernel
theorem dX10_init_91 : decode cX10_init 91 = .ok (.iconst 3, 1) := by decide +kernel
theorem dX10_init_92 : decode cX10_init 92 = .ok (.newarray .int, 2) := by decide +kernel
theorem dX10_init_94 : decode cX10_init 94 = .ok (.putfield 43, 3) := by decide +kernel
theorem dX10_init_97 : decode cX10_init 97 = .ok (.aload_n 0, 1) := by decide +kernel
theorem dX10_init_98 : decode cX10_init 98 = .ok (.sipush 960, 3) := by decide +kernel
theorem dX10_init_101 : decode cX10_init 101 = .ok (.newarray .int, 2) := by decide +kernel
theorem dX10_init_103 : decode cX10_init 103 = .ok (.putfield 46, 3) := by decide +kernel
theorem dX10_init_106 : decode cX10_init 106 = .ok (.aload_n 0, 1) := by decide +kernel
theorem dX10_init_107 : decode cX10_init 107 = .ok (.sipush 24960, 3) := by decide +kernel
theorem dX10_init_110 : decode cX10_init 110 = .ok (.newarray .int, 2) := by decide +kernel
theorem dX10_init_112 : decode cX10_init 112 = .ok (.putfield 49, 3) := by decide +kernel
theorem dX10_init_115 : decode cX10_init 115 = .ok (.aload_n 0, 1) := by decide +kernel
theorem dX10_init_116 : decode cX10_init 116 = .ok (.bipush 40, 2) := by decide +kernel
theorem dX10_init_118 : decode cX10_init 118 = .ok (.newarray .int, 2) := by decide +kernel
theorem dX10_init_120 : decode cX10_init 120 = .ok (.putfield 52, 3) := by decide +kernel
theorem dX10_init_123 : decode cX10_init 123 = .ok (.aload_n 0, 1) := by decide +kernel
theorem dX10_init_124 : decode cX10_init 124 = .ok (.bipush 12, 2) := by decide +kernel
theorem dX10_init_126 : decode cX10_init 126 = .ok (.newarray .int, 2) := by decide +kernel
theorem dX10_init_128 : decode cX10_init 128 = .ok (.putfield 55, 3) := by decide +kernel
theorem dX10_init_131 : decode cX10_init 131 = .ok (.aload_n 0, 1) := by decide +kernel
theorem dX10_init_132 : decode cX10_init 132 = .ok (.bipush 96, 2) := by decide +kernel
theorem dX10_init_134 : decode cX10_init 134 = .ok (.newarray .int, 2) := by decide +kernel
theorem dX10_init_136 : decode cX10_init 136 = .ok (.putfield 58, 3) := by decide +kernel
theorem dX10_init_139 : decode cX10_init 139 = .ok (.aload_n 0, 1) := by decide +kernel
theorem dX10_init_140 : decode cX10_init 140 = .ok (.iconst 4, 1) := by decide +kernel
theorem dX10_init_141 : decode cX10_init 141 = .ok (.newarray .int, 2) := by decide +kernel
theorem dX10_init_143 : decode cX10_init 143 = .ok (.putfield 61, 3) := by decide +kernel
theorem dX10_init_146 : decode cX10_init 146 = .ok (.aload_n 0, 1) := by decide +kernel
theorem dX10_init_147 : decode cX10_init 147 = .ok (.sipush 160, 3) := by decide +kernel
theorem dX10_init_150 : decode cX10_init 150 = .ok (.newarray .int, 2) := by decide +kernel
theorem dX10_init_152 : decode cX10_init 152 = .ok (.putfield 64, 3) := by decide +kernel
theorem dX10_init_155 : decode cX10_init 155 = .ok (.aload_n 0, 1) := by decide +kernel
theorem dX10_init_156 : decode cX10_init 156 = .ok (.bipush 12, 2) := by decide +kernel
theorem dX10_init_158 : decode cX10_init 158 = .ok (.newarray .int, 2) := by decide +kernel
theorem dX10_init_160 : decode cX10_init 160 = .ok (.putfield 67, 3) := by decide +kernel
theorem dX10_init_163 : decode cX10_init 163 = .ok (.aload_n 0, 1) := by decide +kernel
theorem dX10_init_164 : decode cX10_init 164 = .ok (.bipush 12, 2) := by decide +kernel
theorem dX10_init_166 : decode cX10_init 166 = .ok (.newarray .int, 2) := by decide +kernel
theorem dX10_init_168 : decode cX10_init 168 = .ok (.putfield 70, 3) := by decide +kernel
theorem dX10_init_171 : decode cX10_init 171 = .ok (.aload_n 0, 1) := by decide +kernel
theorem dX10_init_172 : decode cX10_init 172 = .ok (.bipush 12, 2) := by decide +kernel
theorem dX10_init_174 : decode cX10_init 174 = .ok (.newarray .int, 2) := by decide +kernel
theorem dX10_init_176 : decode cX10_init 176 = .ok (.putfield 73, 3) := by decide +kernel
theorem dX10_init_179 : decode cX10_init 179 = .ok (.aload_n 0, 1) := by decide +kernel
theorem dX10_init_180 : decode cX10_init 180 = .ok (.bipush 12, 2) := by decide +kernel
theorem dX10_init_182 : decode cX10_init 182 = .ok (.newarray .boolean, 2) := by decide +kernel
theorem dX10_init_184 : decode cX10_init 184 = .ok (.putfield 76, 3) := by decide +kernel
theorem dX10_init_187 : decode cX10_init 187 = .ok (.aload_n 0, 1) := by decide +kernel
theorem dX10_init_188 : decode cX10_init 188 = .ok (.bipush 12, 2) := by decide +kernel
theorem dX10_init_190 : decode cX10_init 190 = .ok (.newarray .boolean, 2) := by decide +kernel
theorem dX10_init_192 : decode cX10_init 192 = .ok (.putfield 80, 3) := by decide +kernel
theorem dX10_init_195 : decode cX10_init 195 = .ok (.aload_n 0, 1) := by decide +kernel
theorem dX10_init_196 : decode cX10_init 196 = .ok (.bipush 9, 2) := by decide +kernel
theorem dX10_init_198 : decode cX10_init 198 = .ok (.newarray .int, 2) := by decide +kernel
theorem dX10_init_200 : decode cX10_init 200 = .ok (.putfield 83, 3) := by decide +kernel
theorem dX10_init_203 : decode cX10_init 203 = .ok (.aload_n 0, 1) := by decide +kernel
theorem dX10_init_204 : decode cX10_init 204 = .ok (.bipush 9, 2) := by decide +kernel
theorem dX10_init_206 : decode cX10_init 206 = .ok (.newarray .int, 2) := by decide +kernel
theorem dX10_init_208 : decode cX10_init 208 = .ok (.putfield 86, 3) := by decide +kernel
theorem dX10_init_211 : decode cX10_init 211 = .ok (.aload_n 0, 1) := by decide +kernel
theorem dX10_init_212 : decode cX10_init 212 = .ok (.bipush 9, 2) := by decide +kernel
theorem dX10_init_214 : decode cX10_init 214 = .ok (.newarray .int, 2) := by decide +kernel
theorem dX10_init_216 : decode cX10_init 216 = .ok (.putfield 89, 3) := by decide +kernel
theorem dX10_init_219 : decode cX10_init 219 = .ok (.aload_n 0, 1) := by decide +kernel
theorem dX10_init_220 : decode cX10_init 220 = .ok (.bipush 72, 2) := by decide +kernel
theorem dX10_init_222 : decode cX10_init 222 = .ok (.newarray .int, 2) := by decide +kernel
theorem dX10_init_224 : decode cX10_init 224 = .ok (.putfield 92, 3) := by decide +kernel
theorem dX10_init_227 : decode cX10_init 227 = .ok (.aload_n 0, 1) := by decide +kernel
theorem dX10_init_228 : decode cX10_init 228 = .ok (.bipush 8, 2) := by decide +kernel
theorem dX10_init_230 : decode cX10_init 230 = .ok (.newarray .boolean, 2) := by decide +kernel
theorem dX10_init_232 : decode cX10_init 232 = .ok (.putfield 95, 3) := by decide +kernel
theorem dX10_init_235 : decode cX10_init 235 = .ok (.aload_n 0, 1) := by decide +kernel
theorem dX10_init_236 : decode cX10_init 236 = .ok (.sipush 208, 3) := by decide +kernel
theorem dX10_init_239 : decode cX10_init 239 = .ok (.newarray .int, 2) := by decide +kernel
theorem dX10_init_241 : decode cX10_init 241 = .ok (.putfield 98, 3) := by decide +kernel
theorem dX10_init_244 : decode cX10_init 244 = .ok (.aload_n 0, 1) := by decide +kernel
theorem dX10_init_245 : decode cX10_init 245 = .ok (.bipush 8, 2) := by decide +kernel
theorem dX10_init_247 : decode cX10_init 247 = .ok (.newarray .int, 2) := by decide +kernel
theorem dX10_init_249 : decode cX10_init 249 = .ok (.putfield 101, 3) := by decide +kernel
theorem dX10_init_252 : decode cX10_init 252 = .ok (.aload_n 0, 1) := by decide +kernel
theorem dX10_init_253 : decode cX10_init 253 = .ok (.bipush 6, 2) := by decide +kernel
theorem dX10_init_255 : decode cX10_init 255 = .ok (.newarray .int, 2) := by decide +kernel
theorem dX10_init_257 : decode cX10_init 257 = .ok (.putfield 104, 3) := by decide +kernel
theorem dX10_init_260 : decode cX10_init 260 = .ok (.aload_n 0, 1) := by decide +kernel
theorem dX10_init_261 : decode cX10_init 261 = .ok (.bipush 6, 2) := by decide +kernel
theorem dX10_init_263 : decode cX10_init 263 = .ok (.newarray .int, 2) := by decide +kernel
theorem dX10_init_265 : decode cX10_init 265 = .ok (.putfield 107, 3) := by decide +kernel
theorem dX10_init_268 : decode cX10_init 268 = .ok (.aload_n 0, 1) := by decide +kernel
theorem dX10_init_269 : decode cX10_init 269 = .ok (.bipush 10, 2) := by decide +kernel
theorem dX10_init_271 : decode cX10_init 271 = .ok (.newarray .int, 2) := by decide +kernel
theorem dX10_init_273 : decode cX10_init 273 = .ok (.putfield 110, 3) := by decide +kernel
theorem dX10_init_276 : decode cX10_init 276 = .ok (.aload_n 0, 1) := by decide +kernel
theorem dX10_init_277 : decode cX10_init 277 = .ok (.bipush 10, 2) := by decide +kernel
theorem dX10_init_279 : decode cX10_init 279 = .ok (.newarray .int, 2) := by decide +kernel
theorem dX10_init_281 : decode cX10_init 281 = .ok (.putfield 113, 3) := by decide +kernel
theorem dX10_init_284 : decode cX10_init 284 = .ok (.aload_n 0, 1) := by decide +kernel
theorem dX10_init_285 : decode cX10_init 285 = .ok (.bipush 41, 2) := by decide +kernel
theorem dX10_init_287 : decode cX10_init 287 = .ok (.newarray .int, 2) := by decide +kernel
theorem dX10_init_289 : decode cX10_init 289 = .ok (.putfield 116, 3) := by decide +kernel
theorem dX10_init_292 : decode cX10_init 292 = .ok (.aload_n 0, 1) := by decide +kernel
theorem dX10_init_293 : decode cX10_init 293 = .ok (.bipush 41, 2) := by decide +kernel
theorem dX10_init_295 : decode cX10_init 295 = .ok (.newarray .int, 2) := by decide +kernel
theorem dX10_init_297 : decode cX10_init 297 = .ok (.putfield 119, 3) := by decide +kernel
theorem dX10_init_300 : decode cX10_init 300 = .ok (.aload_n 0, 1) := by decide +kernel
theorem dX10_init_301 : decode cX10_init 301 = .ok (.getfield 37, 3) := by decide +kernel
theorem dX10_init_304 : decode cX10_init 304 = .ok (.iconst 0, 1) := by decide +kernel
theorem dX10_init_305 : decode cX10_init 305 = .ok (.iconst 4, 1) := by decide +kernel
theorem dX10_init_306 : decode cX10_init 306 = .ok (.iastore, 1) := by decide +kernel
theorem dX10_init_307 : decode cX10_init 307 = .ok (.aload_n 0, 1) := by decide +kernel
theorem dX10_init_308 : decode cX10_init 308 = .ok (.getfield 37, 3) := by decide +kernel
theorem dX10_init_311 : decode cX10_init 311 = .ok (.iconst 1, 1) := by decide +kernel
theorem dX10_init_312 : decode cX10_init 312 = .ok (.iconst 4, 1) := by decide +kernel
theorem dX10_init_313 : decode cX10_init 313 = .ok (.iastore, 1) := by decide +kernel
theorem dX10_init_314 : decode cX10_init 314 = .ok (.iconst 0, 1) := by decide +kernel
theorem dX10_init_315 : decode cX10_init 315 = .ok (.istore_n 1, 1) := by decide +kernel
theorem dX10_init_316 : decode cX10_init 316 = .ok (.iload_n 1, 1) := by decide +kernel
theorem dX10_init_317 : decode cX10_init 317 = .ok (.iconst 3, 1) := by decide +kernel
theorem dX10_init_318 : decode cX10_init 318 = .ok (.if_icmp .ge 23, 3) := by decide +kernel
theorem dX10_init_321 : decode cX10_init 321 = .ok (.aload_n 0, 1) := by decide +kernel
theorem dX10_init_322 : decode cX10_init 322 = .ok (.getfield 40, 3) := by decide +kernel
theorem dX10_init_325 : decode cX10_init 325 = .ok (.iload_n 1, 1) := by decide +kernel
theorem dX10_init_326 : decode cX10_init 326 = .ok (.iconst 1, 1) := by decide +kernel
theorem dX10_init_327 : decode cX10_init 327 = .ok (.iastore, 1) := by decide +kernel
theorem dX10_init_328 : decode cX10_init 328 = .ok (.aload_n 0, 1) := by decide +kernel
theorem dX10_init_329 : decode cX10_init 329 = .ok (.getfield 43, 3) := by decide +kernel
theorem dX10_init_332 : decode cX10_init 332 = .ok (.iload_n 1, 1) := by decide +kernel
theorem dX10_init_333 : decode cX10_init 333 = .ok (.iconst 1, 1) := by decide +kernel
theorem dX10_init_334 : decode cX10_init 334 = .ok (.iastore, 1) := by decide +kernel
theorem dX10_init_335 : decode cX10_init 335 = .ok (.iinc 1 1, 3) := by decide +kernel
theorem dX10_init_338 : decode cX10_init 338 = .ok (.goto (-22), 3) := by decide +kernel
theorem dX10_init_341 : decode cX10_init 341 = .ok (.iconst 0, 1) := by decide +kernel
theorem dX10_init_342 : decode cX10_init 342 = .ok (.istore_n 1, 1) := by decide +kernel
theorem dX10_init_343 : decode cX10_init 343 = .ok (.iload_n 1, 1) := by decide +kernel
theorem dX10_init_344 : decode cX10_init 344 = .ok (.sipush 960, 3) := by decide +kernel
theorem dX10_init_347 : decode cX10_init 347 = .ok (.if_icmp .ge 16, 3) := by decide +kernel
theorem dX10_init_350 : decode cX10_init 350 = .ok (.aload_n 0, 1) := by decide +kernel
theorem dX10_init_351 : decode cX10_init 351 = .ok (.getfield 46, 3) := by decide +kernel
theorem dX10_init_354 : decode cX10_init 354 = .ok (.iload_n 1, 1) := by decide +kernel
theorem dX10_init_355 : decode cX10_init 355 = .ok (.iconst (-1), 1) := by decide +kernel
theorem dX10_init_356 : decode cX10_init 356 = .ok (.iastore, 1) := by decide +kernel
theorem dX10_init_357 : decode cX10_init 357 = .ok (.iinc 1 1, 3) := by decide +kernel
theorem dX10_init_360 : decode cX10_init 360 = .ok (.goto (-17), 3) := by decide +kernel
theorem dX10_init_363 : decode cX10_init 363 = .ok (.return_, 1) := by decide +kernel
theorem dX10_thrown_0 : decode cX10_thrown 0 = .ok (.aload_n 0, 1) := by decide +kernel
theorem dX10_thrown_1 : decode cX10_thrown 1 = .ok (.getfield 122, 3) := by decide +kernel
theorem dX10_thrown_4 : decode cX10_thrown 4 = .ok (.ireturn, 1) := by decide +kernel
theorem dX10_in_0 : decode cX10_in 0 = .ok (.iload_n 0, 1) := by decide +kernel
theorem dX10_in_1 : decode cX10_in 1 = .ok (.iload_n 1, 1) := by decide +kernel
theorem dX10_in_2 : decode cX10_in 2 = .ok (.if_icmp .lt 12, 3) := by decide +kernel
theorem dX10_in_5 : decode cX10_in 5 = .ok (.iload_n 0, 1) := by decide +kernel
theorem dX10_in_6 : decode cX10_in 6 = .ok (.iload_n 2, 1) := by decide +kernel
theorem dX10_in_7 : decode cX10_in 7 = .ok (.if_icmp .gt 7, 3) := by decide +kernel
theorem dX10_in_10 : decode cX10_in 10 = .ok (.iconst 1, 1) := by decide +kernel
theorem dX10_in_11 : decode cX10_in 11 = .ok (.goto 4, 3) := by decide +kernel
theorem dX10_in_14 : decode cX10_in 14 = .ok (.iconst 0, 1) := by decide +kernel
theorem dX10_in_15 : decode cX10_in 15 = .ok (.ireturn, 1) := by decide +kernel
theorem dX10_isLeaf_0 : decode cX10_isLeaf 0 = .ok (.iload_n 1, 1) := by decide +kernel
theorem dX10_isLeaf_1 : decode cX10_isLeaf 1 = .ok (.iconst 0, 1) := by decide +kernel
theorem dX10_isLeaf_2 : decode cX10_isLeaf 2 = .ok (.aload_n 0, 1) := by decide +kernel
theorem dX10_isLeaf_3 : decode cX10_isLeaf 3 = .ok (.getfield 126, 3) := by decide +kernel
theorem dX10_isLeaf_6 : decode cX10_isLeaf 6 = .ok (.iconst 1, 1) := by decide +kernel
theorem dX10_isLeaf_7 : decode cX10_isLeaf 7 = .ok (.isub, 1) := by decide +kernel
theorem dX10_isLeaf_8 : decode cX10_isLeaf 8 = .ok (.invokestatic 129, 3) := by decide +kernel
theorem dX10_isLeaf_11 : decode cX10_isLeaf 11 = .ok (.ireturn, 1) := by decide +kernel
theorem dX10_isCell_0 : decode cX10_isCell 0 = .ok (.aload_n 0, 1) := by decide +kernel
theorem dX10_isCell_1 : decode cX10_isCell 1 = .ok (.iload_n 1, 1) := by decide +kernel
theorem dX10_isCell_2 : decode cX10_isCell 2 = .ok (.invokevirtual 133, 3) := by decide +kernel
theorem dX10_isCell_5 : decode cX10_isCell 5 = .ok (.ifCond .eq 39, 3) := by decide +kernel
theorem dX10_isCell_8 : decode cX10_isCell 8 = .ok (.iload_n 2, 1) := by decide +kernel
theorem dX10_isCell_9 : decode cX10_isCell 9 = .ok (.iconst 0, 1) := by decide +kernel
theorem dX10_isCell_10 : decode cX10_isCell 10 = .ok (.aload_n 0, 1) := by decide +kernel
theorem dX10_isCell_11 : decode cX10_isCell 11 = .ok (.getfield 13, 3) := by decide +kernel
theorem dX10_isCell_14 : decode cX10_isCell 14 = .ok (.iload_n 1, 1) := by decide +kernel
theorem dX10_isCell_15 : decode cX10_isCell 15 = .ok (.iaload, 1) := by decide +kernel
theorem dX10_isCell_16 : decode cX10_isCell 16 = .ok (.iconst 1, 1) := by decide +kernel
theorem dX10_isCell_17 : decode cX10_isCell 17 = .ok (.isub, 1) := by decide +kernel
theorem dX10_isCell_18 : decode cX10_isCell 18 = .ok (.invokestatic 129, 3) := by decide +kernel
theorem dX10_isCell_21 : decode cX10_isCell 21 = .ok (.ifCond .eq 23, 3) := by decide +kernel
theorem dX10_isCell_24 : decode cX10_isCell 24 = .ok (.iload_n 3, 1) := by decide +kernel
theorem dX10_isCell_25 : decode cX10_isCell 25 = .ok (.iconst 0, 1) := by decide +kernel
theorem dX10_isCell_26 : decode cX10_isCell 26 = .ok (.aload_n 0, 1) := by decide +kernel
theorem dX10_isCell_27 : decode cX10_isCell 27 = .ok (.getfield 16, 3) := by decide +kernel
theorem dX10_isCell_30 : decode cX10_isCell 30 = .ok (.iload_n 1, 1) := by decide +kernel
theorem dX10_isCell_31 : decode cX10_isCell 31 = .ok (.iaload, 1) := by decide +kernel
theorem dX10_isCell_32 : decode cX10_isCell 32 = .ok (.iconst 1, 1) := by decide +kernel
theorem dX10_isCell_33 : decode cX10_isCell 33 = .ok (.isub, 1) := by decide +kernel
theorem dX10_isCell_34 : decode cX10_isCell 34 = .ok (.invokestatic 129, 3) := by decide +kernel
theorem dX10_isCell_37 : decode cX10_isCell 37 = .ok (.ifCond .eq 7, 3) := by decide +kernel
theorem dX10_isCell_40 : decode cX10_isCell 40 = .ok (.iconst 1, 1) := by decide +kernel
theorem dX10_isCell_41 : decode cX10_isCell 41 = .ok (.goto 4, 3) := by decide +kernel
theorem dX10_isCell_44 : decode cX10_isCell 44 = .ok (.iconst 0, 1) := by decide +kernel
theorem dX10_isCell_45 : decode cX10_isCell 45 = .ok (.ireturn, 1) := by decide +kernel
theorem dX10_cellAt_0 : decode cX10_cellAt 0 = .ok (.bipush 32, 2) := by decide +kernel
theorem dX10_cellAt_2 : decode cX10_cellAt 2 = .ok (.iload_n 0, 1) := by decide +kernel
theorem dX10_cellAt_3 : decode cX10_cellAt 3 = .ok (.imul, 1) := by decide +kernel
theorem dX10_cellAt_4 : decode cX10_cellAt 4 = .ok (.bipush 8, 2) := by decide +kernel
theorem dX10_cellAt_6 : decode cX10_cellAt 6 = .ok (.iload_n 1, 1) := by decide +kernel
theorem dX10_cellAt_7 : decode cX10_cellAt 7 = .ok (.imul, 1) := by decide +kernel
theorem dX10_cellAt_8 : decode cX10_cellAt 8 = .ok (.iadd, 1) := by decide +kernel
theorem dX10_cellAt_9 : decode cX10_cellAt 9 = .ok (.iload_n 2, 1) := by decide +kernel
theorem dX10_cellAt_10 : decode cX10_cellAt 10 = .ok (.iadd, 1) := by decide +kernel
theorem dX10_cellAt_11 : decode cX10_cellAt 11 = .ok (.ireturn, 1) := by decide +kernel
theorem dX10_leavesOf_0 : decode cX10_leavesOf 0 = .ok (.iconst 0, 1) := by decide +kernel
theorem dX10_leavesOf_1 : decode cX10_leavesOf 1 = .ok (.istore_n 2, 1) := by decide +kernel
theorem dX10_leavesOf_2 : decode cX10_leavesOf 2 = .ok (.iconst 0, 1) := by decide +kernel
theorem dX10_leavesOf_3 : decode cX10_leavesOf 3 = .ok (.istore_n 3, 1) := by decide +kernel
theorem dX10_leavesOf_4 : decode cX10_leavesOf 4 = .ok (.iload_n 3, 1) := by decide +kernel
theorem dX10_leavesOf_5 : decode cX10_leavesOf 5 = .ok (.aload_n 0, 1) := by decide +kernel
theorem dX10_leavesOf_6 : decode cX10_leavesOf 6 = .ok (.getfield 126, 3) := by decide +kernel
theorem dX10_leavesOf_9 : decode cX10_leavesOf 9 = .ok (.if_icmp .ge 27, 3) := by decide +kernel
theorem dX10_leavesOf_12 : decode cX10_leavesOf 12 = .ok (.iload_n 2, 1) := by decide +kernel
theorem dX10_leavesOf_13 : decode cX10_leavesOf 13 = .ok (.aload_n 0, 1) := by decide +kernel
theorem dX10_leavesOf_14 : decode cX10_leavesOf 14 = .ok (.getfield 7, 3) := by decide +kernel
theorem dX10_leavesOf_17 : decode cX10_leavesOf 17 = .ok (.iload_n 3, 1) := by decide +kernel
theorem dX10_leavesOf_18 : decode cX10_leavesOf 18 = .ok (.iaload, 1) := by decide +kernel
theorem dX10_leavesOf_19 : decode cX10_leavesOf 19 = .ok (.iload_n 1, 1) := by decide +kernel
theorem dX10_leavesOf_20 : decode cX10_leavesOf 20 = .ok (.if_icmp .ne 7, 3) := by decide +kernel
theorem dX10_leavesOf_23 : decode cX10_leavesOf 23 = .ok (.iconst 1, 1) := by decide +kernel
theorem dX10_leavesOf_24 : decode cX10_leavesOf 24 = .ok (.goto 4, 3) := by decide +kernel
theorem dX10_leavesOf_27 : decode cX10_leavesOf 27 = .ok (.iconst 0, 1) := by decide +kernel
theorem dX10_leavesOf_28 : decode cX10_leavesOf 28 = .ok (.iadd, 1) := by decide +kernel
theorem dX10_leavesOf_29 : decode cX10_leavesOf 29 = .ok (.istore_n 2, 1) := by decide +kernel
theorem dX10_leavesOf_30 : decode cX10_leavesOf 30 = .ok (.iinc 3 1, 3) := by decide +kernel
theorem dX10_leavesOf_33 : decode cX10_leavesOf 33 = .ok (.goto (-29), 3) := by decide +kernel
theorem dX10_leavesOf_36 : decode cX10_leavesOf 36 = .ok (.iload_n 2, 1) := by decide +kernel
theorem dX10_leavesOf_37 : decode cX10_leavesOf 37 = .ok (.ireturn, 1) := by decide +kernel
theorem dX10_leaf_0 : decode cX10_leaf 0 = .ok (.aload_n 0, 1) := by decide +kernel
theorem dX10_leaf_1 : decode cX10_leaf 1 = .ok (.iload_n 1, 1) := by decide +kernel
theorem dX10_leaf_2 : decode cX10_leaf 2 = .ok (.iconst 0, 1) := by decide +kernel
theorem dX10_leaf_3 : decode cX10_leaf 3 = .ok (.iconst 1, 1) := by decide +kernel
theorem dX10_leaf_4 : decode cX10_leaf 4 = .ok (.invokestatic 129, 3) := by decide +kernel
theorem dX10_leaf_7 : decode cX10_leaf 7 = .ok (.ifCond .ne 7, 3) := by decide +kernel
theorem dX10_leaf_10 : decode cX10_leaf 10 = .ok (.iconst 1, 1) := by decide +kernel
theorem dX10_leaf_11 : decode cX10_leaf 11 = .ok (.goto 49, 3) := by decide +kernel
theorem dX10_leaf_14 : decode cX10_leaf 14 = .ok (.iload_n 2, 1) := by decide +kernel
theorem dX10_leaf_15 : decode cX10_leaf 15 = .ok (.iconst 1, 1) := by decide +kernel
theorem dX10_leaf_16 : decode cX10_leaf 16 = .ok (.iconst 4, 1) := by decide +kernel
theorem dX10_leaf_17 : decode cX10_leaf 17 = .ok (.invokestatic 129, 3) := by decide +kernel
theorem dX10_leaf_20 : decode cX10_leaf 20 = .ok (.ifCond .eq 35, 3) := by decide +kernel
theorem dX10_leaf_23 : decode cX10_leaf 23 = .ok (.iload_n 3, 1) := by decide +kernel
theorem dX10_leaf_24 : decode cX10_leaf 24 = .ok (.iconst 1, 1) := by decide +kernel
theorem dX10_leaf_25 : decode cX10_leaf 25 = .ok (.bipush 8, 2) := by decide +kernel
theorem dX10_leaf_27 : decode cX10_leaf 27 = .ok (.invokestatic 129, 3) := by decide +kernel
theorem dX10_leaf_30 : decode cX10_leaf 30 = .ok (.ifCond .eq 25, 3) := by decide +kernel
theorem dX10_leaf_33 : decode cX10_leaf 33 = .ok (.iload 4, 2) := by decide +kernel
theorem dX10_leaf_35 : decode cX10_leaf 35 = .ok (.iconst (-1), 1) := by decide +kernel
theorem dX10_leaf_36 : decode cX10_leaf 36 = .ok (.iconst 1, 1) := by decide +kernel
theorem dX10_leaf_37 : decode cX10_leaf 37 = .ok (.invokestatic 129, 3) := by decide +kernel
theorem dX10_leaf_40 : decode cX10_leaf 40 = .ok (.ifCond .eq 15, 3) := by decide +kernel
theorem dX10_leaf_43 : decode cX10_leaf 43 = .ok (.iload 5, 2) := by decide +kernel
theorem dX10_leaf_45 : decode cX10_leaf 45 = .ok (.iconst 0, 1) := by decide +kernel
theorem dX10_leaf_46 : decode cX10_leaf 46 = .ok (.sipush 255, 3) := by decide +kernel
theorem dX10_leaf_49 : decode cX10_leaf 49 = .ok (.invokestatic 129, 3) := by decide +kernel
theorem dX10_leaf_52 : decode cX10_leaf 52 = .ok (.ifCond .ne 7, 3) := by decide +kernel
theorem dX10_leaf_55 : decode cX10_leaf 55 = .ok (.iconst 2, 1) := by decide +kernel
theorem dX10_leaf_56 : decode cX10_leaf 56 = .ok (.goto 4, 3) := by decide +kernel
theorem dX10_leaf_59 : decode cX10_leaf 59 = .ok (.iconst 0, 1) := by decide +kernel
theorem dX10_leaf_60 : decode cX10_leaf 60 = .ok (.putfield 122, 3) := by decide +kernel
theorem dX10_leaf_63 : decode cX10_leaf 63 = .ok (.aload_n 0, 1) := by decide +kernel
theorem dX10_leaf_64 : decode cX10_leaf 64 = .ok (.getfield 122, 3) := by decide +kernel
theorem dX10_leaf_67 : decode cX10_leaf 67 = .ok (.ifCond .le 5, 3) := by decide +kernel
theorem dX10_leaf_70 : decode cX10_leaf 70 = .ok (.iconst 0, 1) := by decide +kernel
theorem dX10_leaf_71 : decode cX10_leaf 71 = .ok (.ireturn, 1) := by decide +kernel
theorem dX10_leaf_72 : decode cX10_leaf 72 = .ok (.aload_n 0, 1) := by decide +kernel
theorem dX10_leaf_73 : decode cX10_leaf 73 = .ok (.iload_n 1, 1) := by decide +kernel
theorem dX10_leaf_74 : decode cX10_leaf 74 = .ok (.invokevirtual 137, 3) := by decide +kernel
theorem dX10_leaf_77 : decode cX10_leaf 77 = .ok (.istore 6, 2) := by decide +kernel
theorem dX10_leaf_79 : decode cX10_leaf 79 = .ok (.aload_n 0, 1) := by decide +kernel
theorem dX10_leaf_80 : decode cX10_leaf 80 = .ok (.aload_n 0, 1) := by decide +kernel
theorem dX10_leaf_81 : decode cX10_leaf 81 = .ok (.getfield 126, 3) := by decide +kernel
theorem dX10_leaf_84 : decode cX10_leaf 84 = .ok (.bipush 10, 2) := by decide +kernel
theorem dX10_leaf_86 : decode cX10_leaf 86 = .ok (.if_icmp .eq 23, 3) := by decide +kernel
theorem dX10_leaf_89 : decode cX10_leaf 89 = .ok (.iload 6, 2) := by decide +kernel
theorem dX10_leaf_91 : decode cX10_leaf 91 = .ok (.bipush 6, 2) := by decide +kernel
theorem dX10_leaf_93 : decode cX10_leaf 93 = .ok (.if_icmp .eq 16, 3) := by decide +kernel
theorem dX10_leaf_96 : decode cX10_leaf 96 = .ok (.iload 6, 2) := by decide +kernel
theorem dX10_leaf_98 : decode cX10_leaf 98 = .ok (.iconst 2, 1) := by decide +kernel
theorem dX10_leaf_99 : decode cX10_leaf 99 = .ok (.aload_n 0, 1) := by decide +kernel
theorem dX10_leaf_100 : decode cX10_leaf 100 = .ok (.getfield 37, 3) := by decide +kernel
theorem dX10_leaf_103 : decode cX10_leaf 103 = .ok (.iload_n 1, 1) := by decide +kernel
theorem dX10_leaf_104 : decode cX10_leaf 104 = .ok (.iaload, 1) := by decide +kernel
theorem dX10_leaf_105 : decode cX10_leaf 105 = .ok (.imul, 1) := by decide +kernel
theorem dX10_leaf_106 : decode cX10_leaf 106 = .ok (.if_icmp .ne 7, 3) := by decide +kernel
theorem dX10_leaf_109 : decode cX10_leaf 109 = .ok (.iconst 3, 1) := by decide +kernel
theorem dX10_leaf_110 : decode cX10_leaf 110 = .ok (.goto 4, 3) := by decide +kernel
theorem dX10_leaf_113 : decode cX10_leaf 113 = .ok (.iconst 0, 1) := by decide +kernel
theorem dX10_leaf_114 : decode cX10_leaf 114 = .ok (.putfield 122, 3) := by decide +kernel
theorem dX10_leaf_117 : decode cX10_leaf 117 = .ok (.aload_n 0, 1) := by decide +kernel
theorem dX10_leaf_118 : decode cX10_leaf 118 = .ok (.getfield 122, 3) := by decide +kernel
theorem dX10_leaf_121 : decode cX10_leaf 121 = .ok (.ifCond .le 5, 3) := by decide +kernel
theorem dX10_leaf_124 : decode cX10_leaf 124 = .ok (.iconst 0, 1) := by decide +kernel
theorem dX10_leaf_125 : decode cX10_leaf 125 = .ok (.ireturn, 1) := by decide +kernel
theorem dX10_leaf_126 : decode cX10_leaf 126 = .ok (.aload_n 0, 1) := by decide +kernel
theorem dX10_leaf_127 : decode cX10_leaf 127 = .ok (.getfield 7, 3) := by decide +kernel
theorem dX10_leaf_130 : decode cX10_leaf 130 = .ok (.aload_n 0, 1) := by decide +kernel
theorem dX10_leaf_131 : decode cX10_leaf 131 = .ok (.getfield 126, 3) := by decide +kernel
theorem dX10_leaf_134 : decode cX10_leaf 134 = .ok (.iload_n 1, 1) := by decide +kernel
theorem dX10_leaf_135 : decode cX10_leaf 135 = .ok (.iastore, 1) := by decide +kernel
theorem dX10_leaf_136 : decode cX10_leaf 136 = .ok (.aload_n 0, 1) := by decide +kernel
theorem dX10_leaf_137 : decode cX10_leaf 137 = .ok (.getfield 13, 3) := by decide +kernel
theorem dX10_leaf_140 : decode cX10_leaf 140 = .ok (.aload_n 0, 1) := by decide +kernel
theorem dX10_leaf_141 : decode cX10_leaf 141 = .ok (.getfield 126, 3) := by decide +kernel
theorem dX10_leaf_144 : decode cX10_leaf 144 = .ok (.iload_n 2, 1) := by decide +kernel
theorem dX10_leaf_145 : decode cX10_leaf 145 = .ok (.iastore, 1) := by decide +kernel
theorem dX10_leaf_146 : decode cX10_leaf 146 = .ok (.aload_n 0, 1) := by decide +kernel
theorem dX10_leaf_147 : decode cX10_leaf 147 = .ok (.getfield 16, 3) := by decide +kernel
theorem dX10_leaf_150 : decode cX10_leaf 150 = .ok (.aload_n 0, 1) := by decide +kernel
theorem dX10_leaf_151 : decode cX10_leaf 151 = .ok (.getfield 126, 3) := by decide +kernel
theorem dX10_leaf_154 : decode cX10_leaf 154 = .ok (.iload_n 3, 1) := by decide +kernel
theorem dX10_leaf_155 : decode cX10_leaf 155 = .ok (.iastore, 1) := by decide +kernel
theorem dX10_leaf_156 : decode cX10_leaf 156 = .ok (.aload_n 0, 1) := by decide +kernel
theorem dX10_leaf_157 : decode cX10_leaf 157 = .ok (.getfield 19, 3) := by decide +kernel
theorem dX10_leaf_160 : decode cX10_leaf 160 = .ok (.aload_n 0, 1) := by decide +kernel
theorem dX10_leaf_161 : decode cX10_leaf 161 = .ok (.getfield 126, 3) := by decide +kernel
theorem dX10_leaf_164 : decode cX10_leaf 164 = .ok (.iload 4, 2) := by decide +kernel
theorem dX10_leaf_166 : decode cX10_leaf 166 = .ok (.iastore, 1) := by decide +kernel
theorem dX10_leaf_167 : decode cX10_leaf 167 = .ok (.aload_n 0, 1) := by decide +kernel
theorem dX10_leaf_168 : decode cX10_leaf 168 = .ok (.getfield 22, 3) := by decide +kernel
theorem dX10_leaf_171 : decode cX10_leaf 171 = .ok (.aload_n 0, 1) := by decide +kernel
theorem dX10_leaf_172 : decode cX10_leaf 172 = .ok (.getfield 126, 3) := by decide +kernel
theorem dX10_leaf_175 : decode cX10_leaf 175 = .ok (.iload 5, 2) := by decide +kernel
theorem dX10_leaf_177 : decode cX10_leaf 177 = .ok (.iastore, 1) := by decide +kernel
theorem dX10_leaf_178 : decode cX10_leaf 178 = .ok (.aload_n 0, 1) := by decide +kernel
theorem dX10_leaf_179 : decode cX10_leaf 179 = .ok (.getfield 34, 3) := by decide +kernel
theorem dX10_leaf_182 : decode cX10_leaf 182 = .ok (.aload_n 0, 1) := by decide +kernel
theorem dX10_leaf_183 : decode cX10_leaf 183 = .ok (.getfield 126, 3) := by decide +kernel
theorem dX10_leaf_186 : decode cX10_leaf 186 = .ok (.sipush 4095, 3) := by decide +kernel
theorem dX10_leaf_189 : decode cX10_leaf 189 = .ok (.iastore, 1) := by decide +kernel
theorem dX10_leaf_190 : decode cX10_leaf 190 = .ok (.aload_n 0, 1) := by decide +kernel
theorem dX10_leaf_191 : decode cX10_leaf 191 = .ok (.dup, 1) := by decide +kernel
theorem dX10_leaf_192 : decode cX10_leaf 192 = .ok (.getfield 126, 3) := by decide +kernel
theorem dX10_leaf_195 : decode cX10_leaf 195 = .ok (.iconst 1, 1) := by decide +kernel
theorem dX10_leaf_196 : decode cX10_leaf 196 = .ok (.iadd, 1) := by decide +kernel
theorem dX10_leaf_197 : decode cX10_leaf 197 = .ok (.putfield 126, 3) := by decide +kernel
theorem dX10_leaf_200 : decode cX10_leaf 200 = .ok (.aload_n 0, 1) := by decide +kernel
theorem dX10_leaf_201 : decode cX10_leaf 201 = .ok (.getfield 126, 3) := by decide +kernel
theorem dX10_leaf_204 : decode cX10_leaf 204 = .ok (.iconst 1, 1) := by decide +kernel
theorem dX10_leaf_205 : decode cX10_leaf 205 = .ok (.isub, 1) := by decide +kernel
theorem dX10_leaf_206 : decode cX10_leaf 206 = .ok (.ireturn, 1) := by decide +kernel
theorem dX10_sheets_0 : decode cX10_sheets 0 = .ok (.aload_n 0, 1) := by decide +kernel
theorem dX10_sheets_1 : decode cX10_sheets 1 = .ok (.iload_n 1, 1) := by decide +kernel
theorem dX10_sheets_2 : decode cX10_sheets 2 = .ok (.iconst 0, 1) := by decide +kernel
theorem dX10_sheets_3 : decode cX10_sheets 3 = .ok (.iconst 1, 1) := by decide +kernel
theorem dX10_sheets_4 : decode cX10_sheets 4 = .ok (.invokestatic 129, 3) := by decide +kernel
theorem dX10_sheets_7 : decode cX10_sheets 7 = .ok (.ifCond .ne 7, 3) := by decide +kernel
theorem dX10_sheets_10 : decode cX10_sheets 10 = .ok (.iconst 1, 1) := by decide +kernel
theorem dX10_sheets_11 : decode cX10_sheets 11 = .ok (.goto 32, 3) := by decide +kernel
theorem dX10_sheets_14 : decode cX10_sheets 14 = .ok (.iload_n 2, 1) := by decide +kernel
theorem dX10_sheets_15 : decode cX10_sheets 15 = .ok (.iconst 1, 1) := by decide +kernel
theorem dX10_sheets_16 : decode cX10_sheets 16 = .ok (.iconst 4, 1) := by decide +kernel
theorem dX10_sheets_17 : decode cX10_sheets 17 = .ok (.invokestatic 129, 3) := by decide +kernel
theorem dX10_sheets_20 : decode cX10_sheets 20 = .ok (.ifCond .ne 7, 3) := by decide +kernel
theorem dX10_sheets_23 : decode cX10_sheets 23 = .ok (.iconst 2, 1) := by decide +kernel
theorem dX10_sheets_24 : decode cX10_sheets 24 = .ok (.goto 19, 3) := by decide +kernel
theorem dX10_sheets_27 : decode cX10_sheets 27 = .ok (.aload_n 0, 1) := by decide +kernel
theorem dX10_sheets_28 : decode cX10_sheets 28 = .ok (.iload_n 1, 1) := by decide +kernel
theorem dX10_sheets_29 : decode cX10_sheets 29 = .ok (.invokevirtual 137, 3) := by decide +kernel
theorem dX10_sheets_32 : decode cX10_sheets 32 = .ok (.iconst 2, 1) := by decide +kernel
theorem dX10_sheets_33 : decode cX10_sheets 33 = .ok (.iload_n 2, 1) := by decide +kernel
theorem dX10_sheets_34 : decode cX10_sheets 34 = .ok (.imul, 1) := by decide +kernel
theorem dX10_sheets_35 : decode cX10_sheets 35 = .ok (.if_icmp .le 7, 3) := by decide +kernel
theorem dX10_sheets_38 : decode cX10_sheets 38 = .ok (.iconst 3, 1) := by decide +kernel
theorem dX10_sheets_39 : decode cX10_sheets 39 = .ok (.goto 4, 3) := by decide +kernel
theorem dX10_sheets_42 : decode cX10_sheets 42 = .ok (.iconst 0, 1) := by decide +kernel
theorem dX10_sheets_43 : decode cX10_sheets 43 = .ok (.putfield 122, 3) := by decide +kernel
theorem dX10_sheets_46 : decode cX10_sheets 46 = .ok (.aload_n 0, 1) := by decide +kernel
theorem dX10_sheets_47 : decode cX10_sheets 47 = .ok (.getfield 122, 3) := by decide +kernel
theorem dX10_sheets_50 : decode cX10_sheets 50 = .ok (.ifCond .le 5, 3) := by decide +kernel
theorem dX10_sheets_53 : decode cX10_sheets 53 = .ok (.iconst 0, 1) := by decide +kernel
theorem dX10_sheets_54 : decode cX10_sheets 54 = .ok (.ireturn, 1) := by decide +kernel
theorem dX10_sheets_55 : decode cX10_sheets 55 = .ok (.aload_n 0, 1) := by decide +kernel
theorem dX10_sheets_56 : decode cX10_sheets 56 = .ok (.getfield 37, 3) := by decide +kernel
theorem dX10_sheets_59 : decode cX10_sheets 59 = .ok (.iload_n 1, 1) := by decide +kernel
theorem dX10_sheets_60 : decode cX10_sheets 60 = .ok (.iaload, 1) := by decide +kernel
theorem dX10_sheets_61 : decode cX10_sheets 61 = .ok (.istore_n 3, 1) := by decide +kernel
theorem dX10_sheets_62 : decode cX10_sheets 62 = .ok (.aload_n 0, 1) := by decide +kernel
theorem dX10_sheets_63 : decode cX10_sheets 63 = .ok (.getfield 37, 3) := by decide +kernel
theorem dX10_sheets_66 : decode cX10_sheets 66 = .ok (.iload_n 1, 1) := by decide +kernel
theorem dX10_sheets_67 : decode cX10_sheets 67 = .ok (.iload_n 2, 1) := by decide +kernel
theorem dX10_sheets_68 : decode cX10_sheets 68 = .ok (.iastore, 1) := by decide +kernel
theorem dX10_sheets_69 : decode cX10_sheets 69 = .ok (.iload_n 3, 1) := by decide +kernel
theorem dX10_sheets_70 : decode cX10_sheets 70 = .ok (.ireturn, 1) := by decide +kernel
theorem dX10_light_0 : decode cX10_light 0 = .ok (.aload_n 0, 1) := by decide +kernel
theorem dX10_light_1 : decode cX10_light 1 = .ok (.iload_n 1, 1) := by decide +kernel
theorem dX10_light_2 : decode cX10_light 2 = .ok (.iconst 0, 1) := by decide +kernel
theorem dX10_light_3 : decode cX10_light 3 = .ok (.iconst 2, 1) := by decide +kernel
theorem dX10_light_4 : decode cX10_light 4 = .ok (.invokestatic 129, 3) := by decide +kernel
theorem dX10_light_7 : decode cX10_light 7 = .ok (.ifCond .ne 7, 3) := by decide +kernel
theorem dX10_light_10 : decode cX10_light 10 = .ok (.iconst 1, 1) := by decide +kernel
theorem dX10_light_11 : decode cX10_light 11 = .ok (.goto 28, 3) := by decide +kernel
theorem dX10_light_14 : decode cX10_light 14 = .ok (.iload_n 2, 1) := by decide +kernel
theorem dX10_light_15 : decode cX10_light 15 = .ok (.iconst 0, 1) := by decide +kernel
theorem dX10_light_16 : decode cX10_light 16 = .ok (.bipush 9, 2) := by decide +kernel
theorem dX10_light_18 : decode cX10_light 18 = .ok (.invokestatic 129, 3) := by decide +kernel
theorem dX10_light_21 : decode cX10_light 21 = .ok (.ifCond .eq 13, 3) := by decide +kernel
theorem dX10_light_24 : decode cX10_light 24 = .ok (.iload_n 3, 1) := by decide +kernel
theorem dX10_light_25 : decode cX10_light 25 = .ok (.iconst 0, 1) := by decide +kernel
theorem dX10_light_26 : decode cX10_light 26 = .ok (.bipush 9, 2) := by decide +kernel
theorem dX10_light_28 : decode cX10_light 28 = .ok (.invokestatic 129, 3) := by decide +kernel
theorem dX10_light_31 : decode cX10_light 31 = .ok (.ifCond .ne 7, 3) := by decide +kernel
theorem dX10_light_34 : decode cX10_light 34 = .ok (.iconst 2, 1) := by decide +kernel
theorem dX10_light_35 : decode cX10_light 35 = .ok (.goto 4, 3) := by decide +kernel
theorem dX10_light_38 : decode cX10_light 38 = .ok (.iconst 0, 1) := by decide +kernel
theorem dX10_light_39 : decode cX10_light 39 = .ok (.putfield 122, 3) := by decide +kernel
theorem dX10_light_42 : decode cX10_light 42 = .ok (.aload_n 0, 1) := by decide +kernel
theorem dX10_light_43 : decode cX10_light 43 = .ok (.getfield 122, 3) := by decide +kernel
theorem dX10_light_46 : decode cX10_light 46 = .ok (.ifCond .ne 17, 3) := by decide +kernel
theorem dX10_light_49 : decode cX10_light 49 = .ok (.aload_n 0, 1) := by decide +kernel
theorem dX10_light_50 : decode cX10_light 50 = .ok (.getfield 40, 3) := by decide +kernel
theorem dX10_light_53 : decode cX10_light 53 = .ok (.iload_n 1, 1) := by decide +kernel
theorem dX10_light_54 : decode cX10_light 54 = .ok (.iload_n 2, 1) := by decide +kernel
theorem dX10_light_55 : decode cX10_light 55 = .ok (.iastore, 1) := by decide +kernel
theorem dX10_light_56 : decode cX10_light 56 = .ok (.aload_n 0, 1) := by decide +kernel
theorem dX10_light_57 : decode cX10_light 57 = .ok (.getfield 43, 3) := by decide +kernel
theorem dX10_light_60 : decode cX10_light 60 = .ok (.iload_n 1, 1) := by decide +kernel
theorem dX10_light_61 : decode cX10_light 61 = .ok (.iload_n 3, 1) := by decide +kernel
theorem dX10_light_62 : decode cX10_light 62 = .ok (.iastore, 1) := by decide +kernel
theorem dX10_light_63 : decode cX10_light 63 = .ok (.return_, 1) := by decide +kernel
theorem dX10_unmixes_0 : decode cX10_unmixes 0 = .ok (.iconst 0, 1) := by decide +kernel
theorem dX10_unmixes_1 : decode cX10_unmixes 1 = .ok (.istore_n 2, 1) := by decide +kernel
theorem dX10_unmixes_2 : decode cX10_unmixes 2 = .ok (.iconst 0, 1) := by decide +kernel
theorem dX10_unmixes_3 : decode cX10_unmixes 3 = .ok (.istore_n 3, 1) := by decide +kernel
theorem dX10_unmixes_4 : decode cX10_unmixes 4 = .ok (.iload_n 3, 1) := by decide +kernel
theorem dX10_unmixes_5 : decode cX10_unmixes 5 = .ok (.bipush 100, 2) := by decide +kernel
theorem dX10_unmixes_7 : decode cX10_unmixes 7 = .ok (.if_icmp .ge 112, 3) := by decide +kernel
theorem dX10_unmixes_10 : decode cX10_unmixes 10 = .ok (.iconst 1, 1) := by decide +kernel
theorem dX10_unmixes_11 : decode cX10_unmixes 11 = .ok (.istore 4, 2) := by decide +kernel
theorem dX10_unmixes_13 : decode cX10_unmixes 13 = .ok (.iconst 0, 1) := by decide +kernel
theorem dX10_unmixes_14 : decode cX10_unmixes 14 = .ok (.istore 5, 2) := by decide +kernel
theorem dX10_unmixes_16 : decode cX10_unmixes 16 = .ok (.iload 5, 2) := by decide +kernel
theorem dX10_unmixes_18 : decode cX10_unmixes 18 = .ok (.iconst 3, 1) := by decide +kernel
theorem dX10_unmixes_19 : decode cX10_unmixes 19 = .ok (.if_icmp .ge 70, 3) := by decide +kernel
theorem dX10_unmixes_22 : decode cX10_unmixes 22 = .ok (.aload_n 0, 1) := by decide +kernel
theorem dX10_unmixes_23 : decode cX10_unmixes 23 = .ok (.getfield 46, 3) := by decide +kernel
theorem dX10_unmixes_26 : decode cX10_unmixes 26 = .ok (.iconst 3, 1) := by decide +kernel
theorem dX10_unmixes_27 : decode cX10_unmixes 27 = .ok (.iload_n 1, 1) := by decide +kernel
theorem dX10_unmixes_28 : decode cX10_unmixes 28 = .ok (.imul, 1) := by decide +kernel
theorem dX10_unmixes_29 : decode cX10_unmixes 29 = .ok (.iload 5, 2) := by decide +kernel
theorem dX10_unmixes_31 : decode cX10_unmixes 31 = .ok (.iadd, 1) := by decide +kernel
theorem dX10_unmixes_32 : decode cX10_unmixes 32 = .ok (.iaload, 1) := by decide +kernel
theorem dX10_unmixes_33 : decode cX10_unmixes 33 = .ok (.istore 6, 2) := by decide +kernel
theorem dX10_unmixes_35 : decode cX10_unmixes 35 = .ok (.iload 4, 2) := by decide +kernel
theorem dX10_unmixes_37 : decode cX10_unmixes 37 = .ok (.ifCond .eq 43, 3) := by decide +kernel
theorem dX10_unmixes_40 : decode cX10_unmixes 40 = .ok (.iload 6, 2) := by decide +kernel
theorem dX10_unmixes_42 : decode cX10_unmixes 42 = .ok (.iconst (-1), 1) := by decide +kernel
theorem dX10_unmixes_43 : decode cX10_unmixes 43 = .ok (.if_icmp .eq 33, 3) := by decide +kernel
theorem dX10_unmixes_46 : decode cX10_unmixes 46 = .ok (.iload 6, 2) := by decide +kernel
theorem dX10_unmixes_48 : decode cX10_unmixes 48 = .ok (.aload_n 0, 1) := by decide +kernel
theorem dX10_unmixes_49 : decode cX10_unmixes 49 = .ok (.getfield 40, 3) := by decide +kernel
theorem dX10_unmixes_52 : decode cX10_unmixes 52 = .ok (.iload 5, 2) := by decide +kernel
theorem dX10_unmixes_54 : decode cX10_unmixes 54 = .ok (.iaload, 1) := by decide +kernel
theorem dX10_unmixes_55 : decode cX10_unmixes 55 = .ok (.iload_n 3, 1) := by decide +kernel
theorem dX10_unmixes_56 : decode cX10_unmixes 56 = .ok (.bipush 10, 2) := by decide +kernel
theorem dX10_unmixes_58 : decode cX10_unmixes 58 = .ok (.idiv, 1) := by decide +kernel
theorem dX10_unmixes_59 : decode cX10_unmixes 59 = .ok (.imul, 1) := by decide +kernel
theorem dX10_unmixes_60 : decode cX10_unmixes 60 = .ok (.aload_n 0, 1) := by decide +kernel
theorem dX10_unmixes_61 : decode cX10_unmixes 61 = .ok (.getfield 43, 3) := by decide +kernel
theorem dX10_unmixes_64 : decode cX10_unmixes 64 = .ok (.iload 5, 2) := by decide +kernel
theorem dX10_unmixes_66 : decode cX10_unmixes 66 = .ok (.iaload, 1) := by decide +kernel
theorem dX10_unmixes_67 : decode cX10_unmixes 67 = .ok (.iload_n 3, 1) := by decide +kernel
theorem dX10_unmixes_68 : decode cX10_unmixes 68 = .ok (.bipush 10, 2) := by decide +kernel
theorem dX10_unmixes_70 : decode cX10_unmixes 70 = .ok (.irem, 1) := by decide +kernel
theorem dX10_unmixes_71 : decode cX10_unmixes 71 = .ok (.imul, 1) := by decide +kernel
theorem dX10_unmixes_72 : decode cX10_unmixes 72 = .ok (.iadd, 1) := by decide +kernel
theorem dX10_unmixes_73 : decode cX10_unmixes 73 = .ok (.if_icmp .ne 7, 3) := by decide +kernel
theorem dX10_unmixes_76 : decode cX10_unmixes 76 = .ok (.iconst 1, 1) := by decide +kernel
theorem dX10_unmixes_77 : decode cX10_unmixes 77 = .ok (.goto 4, 3) := by decide +kernel
theorem dX10_unmixes_80 : decode cX10_unmixes 80 = .ok (.iconst 0, 1) := by decide +kernel
theorem dX10_unmixes_81 : decode cX10_unmixes 81 = .ok (.istore 4, 2) := by decide +kernel
theorem dX10_unmixes_83 : decode cX10_unmixes 83 = .ok (.iinc 5 1, 3) := by decide +kernel
theorem dX10_unmixes_86 : decode cX10_unmixes 86 = .ok (.goto (-70), 3) := by decide +kernel
theorem dX10_unmixes_89 : decode cX10_unmixes 89 = .ok (.iload 4, 2) := by decide +kernel
theorem dX10_unmixes_91 : decode cX10_unmixes 91 = .ok (.ifCond .eq 22, 3) := by decide +kernel
theorem dX10_unmixes_94 : decode cX10_unmixes 94 = .ok (.iinc 2 1, 3) := by decide +kernel
theorem dX10_unmixes_97 : decode cX10_unmixes 97 = .ok (.aload_n 0, 1) := by decide +kernel
theorem dX10_unmixes_98 : decode cX10_unmixes 98 = .ok (.iload_n 3, 1) := by decide +kernel
theorem dX10_unmixes_99 : decode cX10_unmixes 99 = .ok (.bipush 10, 2) := by decide +kernel
theorem dX10_unmixes_101 : decode cX10_unmixes 101 = .ok (.idiv, 1) := by decide +kernel
theorem dX10_unmixes_102 : decode cX10_unmixes 102 = .ok (.putfield 141, 3) := by decide +kernel
theorem dX10_unmixes_105 : decode cX10_unmixes 105 = .ok (.aload_n 0, 1) := by decide +kernel
theorem dX10_unmixes_106 : decode cX10_unmixes 106 = .ok (.iload_n 3, 1) := by decide +kernel
theorem dX10_unmixes_107 : decode cX10_unmixes 107 = .ok (.bipush 10, 2) := by decide +kernel
theorem dX10_unmixes_109 : decode cX10_unmixes 109 = .ok (.irem, 1) := by decide +kernel
theorem dX10_unmixes_110 : decode cX10_unmixes 110 = .ok (.putfield 144, 3) := by decide +kernel
theorem dX10_unmixes_113 : decode cX10_unmixes 113 = .ok (.iinc 3 1, 3) := by decide +kernel
theorem dX10_unmixes_116 : decode cX10_unmixes 116 = .ok (.goto (-112), 3) := by decide +kernel
theorem dX10_unmixes_119 : decode cX10_unmixes 119 = .ok (.iload_n 2, 1) := by decide +kernel
theorem dX10_unmixes_120 : decode cX10_unmixes 120 = .ok (.iconst 1, 1) := by decide +kernel
theorem dX10_unmixes_121 : decode cX10_unmixes 121 = .ok (.if_icmp .ne 7, 3) := by decide +kernel
theorem dX10_unmixes_124 : decode cX10_unmixes 124 = .ok (.iconst 1, 1) := by decide +kernel
theorem dX10_unmixes_125 : decode cX10_unmixes 125 = .ok (.goto 4, 3) := by decide +kernel
theorem dX10_unmixes_128 : decode cX10_unmixes 128 = .ok (.iconst 0, 1) := by decide +kernel
theorem dX10_unmixes_129 : decode cX10_unmixes 129 = .ok (.ireturn, 1) := by decide +kernel
theorem dX10_isBlankCell_0 : decode cX10_isBlankCell 0 = .ok (.aload_n 0, 1) := by decide +kernel
theorem dX10_isBlankCell_1 : decode cX10_isBlankCell 1 = .ok (.iload_n 1, 1) := by decide +kernel
theorem dX10_isBlankCell_2 : decode cX10_isBlankCell 2 = .ok (.invokevirtual 147, 3) := by decide +kernel
theorem dX10_isBlankCell_5 : decode cX10_isBlankCell 5 = .ok (.ifCond .eq 14, 3) := by decide +kernel
theorem dX10_isBlankCell_8 : decode cX10_isBlankCell 8 = .ok (.aload_n 0, 1) := by decide +kernel
theorem dX10_isBlankCell_9 : decode cX10_isBlankCell 9 = .ok (.getfield 144, 3) := by decide +kernel
theorem dX10_isBlankCell_12 : decode cX10_isBlankCell 12 = .ok (.ifCond .ne 7, 3) := by decide +kernel
theorem dX10_isBlankCell_15 : decode cX10_isBlankCell 15 = .ok (.iconst 1, 1) := by decide +kernel
theorem dX10_isBlankCell_16 : decode cX10_isBlankCell 16 = .ok (.goto 4, 3) := by decide +kernel
theorem dX10_isBlankCell_19 : decode cX10_isBlankCell 19 = .ok (.iconst 0, 1) := by decide +kernel
theorem dX10_isBlankCell_20 : decode cX10_isBlankCell 20 = .ok (.ireturn, 1) := by decide +kernel
theorem dX10_image_0 : decode cX10_image 0 = .ok (.aload_n 0, 1) := by decide +kernel
theorem dX10_image_1 : decode cX10_image 1 = .ok (.aload_n 0, 1) := by decide +kernel
theorem dX10_image_2 : decode cX10_image 2 = .ok (.iload_n 1, 1) := by decide +kernel
theorem dX10_image_3 : decode cX10_image 3 = .ok (.iload_n 2, 1) := by decide +kernel
theorem dX10_image_4 : decode cX10_image 4 = .ok (.iload_n 3, 1) := by decide +kernel
theorem dX10_image_5 : decode cX10_image 5 = .ok (.invokevirtual 150, 3) := by decide +kernel
theorem dX10_image_8 : decode cX10_image 8 = .ok (.ifCond .eq 13, 3) := by decide +kernel
theorem dX10_image_11 : decode cX10_image 11 = .ok (.iload 4, 2) := by decide +kernel
theorem dX10_image_13 : decode cX10_image 13 = .ok (.iconst 0, 1) := by decide +kernel
theorem dX10_image_14 : decode cX10_image 14 = .ok (.iconst 2, 1) := by decide +kernel
theorem dX10_image_15 : decode cX10_image 15 = .ok (.invokestatic 129, 3) := by decide +kernel
theorem dX10_image_18 : decode cX10_image 18 = .ok (.ifCond .ne 7, 3) := by decide +kernel
theorem dX10_image_21 : decode cX10_image 21 = .ok (.iconst 1, 1) := by decide +kernel
theorem dX10_image_22 : decode cX10_image 22 = .ok (.goto 20, 3) := by decide +kernel
theorem dX10_image_25 : decode cX10_image 25 = .ok (.iload 5, 2) := by decide +kernel
theorem dX10_image_27 : decode cX10_image 27 = .ok (.iconst (-1), 1) := by decide +kernel
theorem dX10_image_28 : decode cX10_image 28 = .ok (.sipush 162, 3) := by decide +kernel
theorem dX10_image_31 : decode cX10_image 31 = .ok (.invokestatic 129, 3) := by decide +kernel
theorem dX10_image_34 : decode cX10_image 34 = .ok (.ifCond .ne 7, 3) := by decide +kernel
theorem dX10_image_37 : decode cX10_image 37 = .ok (.iconst 2, 1) := by decide +kernel
theorem dX10_image_38 : decode cX10_image 38 = .ok (.goto 4, 3) := by decide +kernel
theorem dX10_image_41 : decode cX10_image 41 = .ok (.iconst 0, 1) := by decide +kernel
theorem dX10_image_42 : decode cX10_image 42 = .ok (.putfield 122, 3) := by decide +kernel
theorem dX10_image_45 : decode cX10_image 45 = .ok (.aload_n 0, 1) := by decide +kernel
theorem dX10_image_46 : decode cX10_image 46 = .ok (.getfield 122, 3) := by decide +kernel
theorem dX10_image_49 : decode cX10_image 49 = .ok (.ifCond .le 5, 3) := by decide +kernel
theorem dX10_image_52 : decode cX10_image 52 = .ok (.iconst 0, 1) := by decide +kernel
theorem dX10_image_53 : decode cX10_image 53 = .ok (.ireturn, 1) := by decide +kernel
theorem dX10_image_54 : decode cX10_image 54 = .ok (.iload_n 1, 1) := by decide +kernel
theorem dX10_image_55 : decode cX10_image 55 = .ok (.iload_n 2, 1) := by decide +kernel
theorem dX10_image_56 : decode cX10_image 56 = .ok (.iload_n 3, 1) := by decide +kernel
theorem dX10_image_57 : decode cX10_image 57 = .ok (.invokestatic 153, 3) := by decide +kernel
theorem dX10_image_60 : decode cX10_image 60 = .ok (.istore 6, 2) := by decide +kernel
theorem dX10_image_62 : decode cX10_image 62 = .ok (.aload_n 0, 1) := by decide +kernel
theorem dX10_image_63 : decode cX10_image 63 = .ok (.getfield 46, 3) := by decide +kernel
theorem dX10_image_66 : decode cX10_image 66 = .ok (.iconst 3, 1) := by decide +kernel
theorem dX10_image_67 : decode cX10_image 67 = .ok (.iload 6, 2) := by decide +kernel
theorem dX10_image_69 : decode cX10_image 69 = .ok (.imul, 1) := by decide +kernel
theorem dX10_image_70 : decode cX10_image 70 = .ok (.iload 4, 2) := by decide +kernel
theorem dX10_image_72 : decode cX10_image 72 = .ok (.iadd, 1) := by decide +kernel
theorem dX10_image_73 : decode cX10_image 73 = .ok (.iload 5, 2) := by decide +kernel
theorem dX10_image_75 : decode cX10_image 75 = .ok (.iastore, 1) := by decide +kernel
theorem dX10_image_76 : decode cX10_image 76 = .ok (.aload_n 0, 1) := by decide +kernel
theorem dX10_image_77 : decode cX10_image 77 = .ok (.iload 6, 2) := by decide +kernel
theorem dX10_image_79 : decode cX10_image 79 = .ok (.invokevirtual 147, 3) := by decide +kernel
theorem dX10_image_82 : decode cX10_image 82 = .ok (.ifCond .eq 10, 3) := by decide +kernel
theorem dX10_image_85 : decode cX10_image 85 = .ok (.aload_n 0, 1) := by decide +kernel
theorem dX10_image_86 : decode cX10_image 86 = .ok (.getfield 144, 3) := by decide +kernel
theorem dX10_image_89 : decode cX10_image 89 = .ok (.goto 4, 3) := by decide +kernel
theorem dX10_image_92 : decode cX10_image 92 = .ok (.iconst (-1), 1) := by decide +kernel
theorem dX10_image_93 : decode cX10_image 93 = .ok (.ireturn, 1) := by decide +kernel
theorem dX10_unmix_0 : decode cX10_unmix 0 = .ok (.aload_n 0, 1) := by decide +kernel
theorem dX10_unmix_1 : decode cX10_unmix 1 = .ok (.aload_n 0, 1) := by decide +kernel
theorem dX10_unmix_2 : decode cX10_unmix 2 = .ok (.iload_n 1, 1) := by decide +kernel
theorem dX10_unmix_3 : decode cX10_unmix 3 = .ok (.iload_n 2, 1) := by decide +kernel
theorem dX10_unmix_4 : decode cX10_unmix 4 = .ok (.iload_n 3, 1) := by decide +kernel
theorem dX10_unmix_5 : decode cX10_unmix 5 = .ok (.invokevirtual 150, 3) := by decide +kernel
theorem dX10_unmix_8 : decode cX10_unmix 8 = .ok (.ifCond .eq 7, 3) := by decide +kernel
theorem dX10_unmix_11 : decode cX10_unmix 11 = .ok (.iconst 0, 1) := by decide +kernel
theorem dX10_unmix_12 : decode cX10_unmix 12 = .ok (.goto 4, 3) := by decide +kernel
theorem dX10_unmix_15 : decode cX10_unmix 15 = .ok (.iconst 1, 1) := by decide +kernel
theorem dX10_unmix_16 : decode cX10_unmix 16 = .ok (.putfield 122, 3) := by decide +kernel
theorem dX10_unmix_19 : decode cX10_unmix 19 = .ok (.aload_n 0, 1) := by decide +kernel
theorem dX10_unmix_20 : decode cX10_unmix 20 = .ok (.getfield 122, 3) := by decide +kernel
theorem dX10_unmix_23 : decode cX10_unmix 23 = .ok (.ifCond .le 5, 3) := by decide +kernel
theorem dX10_unmix_26 : decode cX10_unmix 26 = .ok (.iconst 0, 1) := by decide +kernel
theorem dX10_unmix_27 : decode cX10_unmix 27 = .ok (.ireturn, 1) := by decide +kernel
theorem dX10_unmix_28 : decode cX10_unmix 28 = .ok (.aload_n 0, 1) := by decide +kernel
theorem dX10_unmix_29 : decode cX10_unmix 29 = .ok (.iload_n 1, 1) := by decide +kernel
theorem dX10_unmix_30 : decode cX10_unmix 30 = .ok (.iload_n 2, 1) := by decide +kernel
theorem dX10_unmix_31 : decode cX10_unmix 31 = .ok (.iload_n 3, 1) := by decide +kernel
theorem dX10_unmix_32 : decode cX10_unmix 32 = .ok (.invokestatic 153, 3) := by decide +kernel
theorem dX10_unmix_35 : decode cX10_unmix 35 = .ok (.invokevirtual 147, 3) := by decide +kernel
theorem dX10_unmix_38 : decode cX10_unmix 38 = .ok (.ifCond .ne 7, 3) := by decide +kernel
theorem dX10_unmix_41 : decode cX10_unmix 41 = .ok (.iconst (-1), 1) := by decide +kernel
theorem dX10_unmix_42 : decode cX10_unmix 42 = .ok (.goto 19, 3) := by decide +kernel
theorem dX10_unmix_45 : decode cX10_unmix 45 = .ok (.iload 4, 2) := by decide +kernel
theorem dX10_unmix_47 : decode cX10_unmix 47 = .ok (.ifCond .eq 10, 3) := by decide +kernel
theorem dX10_unmix_50 : decode cX10_unmix 50 = .ok (.aload_n 0, 1) := by decide +kernel
theorem dX10_unmix_51 : decode cX10_unmix 51 = .ok (.getfield 144, 3) := by decide +kernel
theorem dX10_unmix_54 : decode cX10_unmix 54 = .ok (.goto 7, 3) := by decide +kernel
theorem dX10_unmix_57 : decode cX10_unmix 57 = .ok (.aload_n 0, 1) := by decide +kernel
theorem dX10_unmix_58 : decode cX10_unmix 58 = .ok (.getfield 141, 3) := by decide +kernel
theorem dX10_unmix_61 : decode cX10_unmix 61 = .ok (.ireturn, 1) := by decide +kernel
theorem dX10_give_0 : decode cX10_give 0 = .ok (.aload_n 0, 1) := by decide +kernel
theorem dX10_give_1 : decode cX10_give 1 = .ok (.iload_n 1, 1) := by decide +kernel
theorem dX10_give_2 : decode cX10_give 2 = .ok (.iconst 0, 1) := by decide +kernel
theorem dX10_give_3 : decode cX10_give 3 = .ok (.iconst 2, 1) := by decide +kernel
theorem dX10_give_4 : decode cX10_give 4 = .ok (.invokestatic 129, 3) := by decide +kernel
theorem dX10_give_7 : decode cX10_give 7 = .ok (.ifCond .eq 14, 3) := by decide +kernel
theorem dX10_give_10 : decode cX10_give 10 = .ok (.aload_n 0, 1) := by decide +kernel
theorem dX10_give_11 : decode cX10_give 11 = .ok (.iload_n 2, 1) := by decide +kernel
theorem dX10_give_12 : decode cX10_give 12 = .ok (.iload_n 3, 1) := by decide +kernel
theorem dX10_give_13 : decode cX10_give 13 = .ok (.iload 4, 2) := by decide +kernel
theorem dX10_give_15 : decode cX10_give 15 = .ok (.invokevirtual 150, 3) := by decide +kernel
theorem dX10_give_18 : decode cX10_give 18 = .ok (.ifCond .ne 7, 3) := by decide +kernel
theorem dX10_give_21 : decode cX10_give 21 = .ok (.iconst 1, 1) := by decide +kernel
theorem dX10_give_22 : decode cX10_give 22 = .ok (.goto 30, 3) := by decide +kernel
theorem dX10_give_25 : decode cX10_give 25 = .ok (.iload 5, 2) := by decide +kernel
theorem dX10_give_27 : decode cX10_give 27 = .ok (.iconst 0, 1) := by decide +kernel
theorem dX10_give_28 : decode cX10_give 28 = .ok (.bipush 25, 2) := by decide +kernel
theorem dX10_give_30 : decode cX10_give 30 = .ok (.invokestatic 129, 3) := by decide +kernel
theorem dX10_give_33 : decode cX10_give 33 = .ok (.ifCond .eq 14, 3) := by decide +kernel
theorem dX10_give_36 : decode cX10_give 36 = .ok (.iload 6, 2) := by decide +kernel
theorem dX10_give_38 : decode cX10_give 38 = .ok (.iconst 0, 1) := by decide +kernel
theorem dX10_give_39 : decode cX10_give 39 = .ok (.bipush 9, 2) := by decide +kernel
theorem dX10_give_41 : decode cX10_give 41 = .ok (.invokestatic 129, 3) := by decide +kernel
theorem dX10_give_44 : decode cX10_give 44 = .ok (.ifCond .ne 7, 3) := by decide +kernel
theorem dX10_give_47 : decode cX10_give 47 = .ok (.iconst 2, 1) := by decide +kernel
theorem dX10_give_48 : decode cX10_give 48 = .ok (.goto 4, 3) := by decide +kernel
theorem dX10_give_51 : decode cX10_give 51 = .ok (.iconst 0, 1) := by decide +kernel
theorem dX10_give_52 : decode cX10_give 52 = .ok (.putfield 122, 3) := by decide +kernel
theorem dX10_give_55 : decode cX10_give 55 = .ok (.aload_n 0, 1) := by decide +kernel
theorem dX10_give_56 : decode cX10_give 56 = .ok (.getfield 122, 3) := by decide +kernel
theorem dX10_give_59 : decode cX10_give 59 = .ok (.ifCond .le 5, 3) := by decide +kernel
theorem dX10_give_62 : decode cX10_give 62 = .ok (.iconst 0, 1) := by decide +kernel
theorem dX10_give_63 : decode cX10_give 63 = .ok (.ireturn, 1) := by decide +kernel
theorem dX10_give_64 : decode cX10_give 64 = .ok (.iload_n 2, 1) := by decide +kernel
theorem dX10_give_65 : decode cX10_give 65 = .ok (.iload_n 3, 1) := by decide +kernel
theorem dX10_give_66 : decode cX10_give 66 = .ok (.iload 4, 2) := by decide +kernel
theorem dX10_give_68 : decode cX10_give 68 = .ok (.invokestatic 153, 3) := by decide +kernel
theorem dX10_give_71 : decode cX10_give 71 = .ok (.istore 7, 2) := by decide +kernel
theorem dX10_give_73 : decode cX10_give 73 = .ok (.bipush 26, 2) := by decide +kernel
theorem dX10_give_75 : decode cX10_give 75 = .ok (.sipush 320, 3) := by decide +kernel
theorem dX10_give_78 : decode cX10_give 78 = .ok (.iload_n 1, 1) := by decide +kernel
theorem dX10_give_79 : decode cX10_give 79 = .ok (.imul, 1) := by decide +kernel
theorem dX10_give_80 : decode cX10_give 80 = .ok (.iload 7, 2) := by decide +kernel
theorem dX10_give_82 : decode cX10_give 82 = .ok (.iadd, 1) := by decide +kernel
theorem dX10_give_83 : decode cX10_give 83 = .ok (.imul, 1) := by decide +kernel
theorem dX10_give_84 : decode cX10_give 84 = .ok (.istore 8, 2) := by decide +kernel
theorem dX10_give_86 : decode cX10_give 86 = .ok (.iconst 0, 1) := by decide +kernel
theorem dX10_give_87 : decode cX10_give 87 = .ok (.istore 9, 2) := by decide +kernel
theorem dX10_give_89 : decode cX10_give 89 = .ok (.iconst 0, 1) := by decide +kernel
theorem dX10_give_90 : decode cX10_give 90 = .ok (.istore 10, 2) := by decide +kernel
theorem dX10_give_92 : decode cX10_give 92 = .ok (.iload 10, 2) := by decide +kernel
theorem dX10_give_94 : decode cX10_give 94 = .ok (.bipush 26, 2) := by decide +kernel
theorem dX10_give_96 : decode cX10_give 96 = .ok (.if_icmp .ge 32, 3) := by decide +kernel
theorem dX10_give_99 : decode cX10_give 99 = .ok (.iload 9, 2) := by decide +kernel
theorem dX10_give_101 : decode cX10_give 101 = .ok (.aload_n 0, 1) := by decide +kernel
theorem dX10_give_102 : decode cX10_give 102 = .ok (.getfield 49, 3) := by decide +kernel
theorem dX10_give_105 : decode cX10_give 105 = .ok (.iload 8, 2) := by decide +kernel
theorem dX10_give_107 : decode cX10_give 107 = .ok (.iload 10, 2) := by decide +kernel
theorem dX10_give_109 : decode cX10_give 109 = .ok (.iadd, 1) := by decide +kernel
theorem dX10_give_110 : decode cX10_give 110 = .ok (.iaload, 1) := by decide +kernel
theorem dX10_give_111 : decode cX10_give 111 = .ok (.ifCond .le 7, 3) := by decide +kernel
theorem dX10_give_114 : decode cX10_give 114 = .ok (.iconst 1, 1) := by decide +kernel
theorem dX10_give_115 : decode cX10_give 115 = .ok (.goto 4, 3) := by decide +kernel
theorem dX10_give_118 : decode cX10_give 118 = .ok (.iconst 0, 1) := by decide +kernel
theorem dX10_give_119 : decode cX10_give 119 = .ok (.iadd, 1) := by decide +kernel
theorem dX10_give_120 : decode cX10_give 120 = .ok (.istore 9, 2) := by decide +kernel
theorem dX10_give_122 : decode cX10_give 122 = .ok (.iinc 10 1, 3) := by decide +kernel
theorem dX10_give_125 : decode cX10_give 125 = .ok (.goto (-33), 3) := by decide +kernel
theorem dX10_give_128 : decode cX10_give 128 = .ok (.aload_n 0, 1) := by decide +kernel
theorem dX10_give_129 : decode cX10_give 129 = .ok (.getfield 49, 3) := by decide +kernel
theorem dX10_give_132 : decode cX10_give 132 = .ok (.iload 8, 2) := by decide +kernel
theorem dX10_give_134 : decode cX10_give 134 = .ok (.iload 5, 2) := by decide +kernel
theorem dX10_give_136 : decode cX10_give 136 = .ok (.iadd, 1) := by decide +kernel
theorem dX10_give_137 : decode cX10_give 137 = .ok (.iaload, 1) := by decide +kernel
theorem dX10_give_138 : decode cX10_give 138 = .ok (.ifCond .le 7, 3) := by decide +kernel
theorem dX10_give_141 : decode cX10_give 141 = .ok (.iconst 1, 1) := by decide +kernel
theorem dX10_give_142 : decode cX10_give 142 = .ok (.goto 4, 3) := by decide +kernel
theorem dX10_give_145 : decode cX10_give 145 = .ok (.iconst 0, 1) := by decide +kernel
theorem dX10_give_146 : decode cX10_give 146 = .ok (.istore 10, 2) := by decide +kernel
theorem dX10_give_148 : decode cX10_give 148 = .ok (.aload_n 0, 1) := by decide +kernel
theorem dX10_give_149 : decode cX10_give 149 = .ok (.aload_n 0, 1) := by decide +kernel
theorem dX10_give_150 : decode cX10_give 150 = .ok (.iload 7, 2) := by decide +kernel
theorem dX10_give_152 : decode cX10_give 152 = .ok (.invokevirtual 157, 3) := by decide +kernel
theorem dX10_give_155 : decode cX10_give 155 = .ok (.ifCond .ne 14, 3) := by decide +kernel
theorem dX10_give_158 : decode cX10_give 158 = .ok (.iload 10, 2) := by decide +kernel
theorem dX10_give_160 : decode cX10_give 160 = .ok (.ifCond .ne 13, 3) := by decide +kernel
theorem dX10_give_163 : decode cX10_give 163 = .ok (.iload 9, 2) := by decide +kernel
theorem dX10_give_165 : decode cX10_give 165 = .ok (.iconst 3, 1) := by decide +kernel
theorem dX10_give_166 : decode cX10_give 166 = .ok (.if_icmp .ne 7, 3) := by decide +kernel
theorem dX10_give_169 : decode cX10_give 169 = .ok (.iconst 3, 1) := by decide +kernel
theorem dX10_give_170 : decode cX10_give 170 = .ok (.goto 4, 3) := by decide +kernel
theorem dX10_give_173 : decode cX10_give 173 = .ok (.iconst 0, 1) := by decide +kernel
theorem dX10_give_174 : decode cX10_give 174 = .ok (.putfield 122, 3) := by decide +kernel
theorem dX10_give_177 : decode cX10_give 177 = .ok (.aload_n 0, 1) := by decide +kernel
theorem dX10_give_178 : decode cX10_give 178 = .ok (.getfield 122, 3) := by decide +kernel
theorem dX10_give_181 : decode cX10_give 181 = .ok (.ifCond .le 5, 3) := by decide +kernel
theorem dX10_give_184 : decode cX10_give 184 = .ok (.iconst 0, 1) := by decide +kernel
theorem dX10_give_185 : decode cX10_give 185 = .ok (.ireturn, 1) := by decide +kernel
theorem dX10_give_186 : decode cX10_give 186 = .ok (.aload_n 0, 1) := by decide +kernel
theorem dX10_give_187 : decode cX10_give 187 = .ok (.getfield 49, 3) := by decide +kernel
theorem dX10_give_190 : decode cX10_give 190 = .ok (.iload 8, 2) := by decide +kernel
theorem dX10_give_192 : decode cX10_give 192 = .ok (.iload 5, 2) := by decide +kernel
theorem dX10_give_194 : decode cX10_give 194 = .ok (.iadd, 1) := by decide +kernel
theorem dX10_give_195 : decode cX10_give 195 = .ok (.iload 6, 2) := by decide +kernel
theorem dX10_give_197 : decode cX10_give 197 = .ok (.iastore, 1) := by decide +kernel
theorem dX10_give_198 : decode cX10_give 198 = .ok (.iload 9, 2) := by decide +kernel
theorem dX10_give_200 : decode cX10_give 200 = .ok (.iload 6, 2) := by decide +kernel
theorem dX10_give_202 : decode cX10_give 202 = .ok (.ifCond .le 12, 3) := by decide +kernel
theorem dX10_give_205 : decode cX10_give 205 = .ok (.iload 10, 2) := by decide +kernel
theorem dX10_give_207 : decode cX10_give 207 = .ok (.ifCond .ne 7, 3) := by decide +kernel
theorem dX10_give_210 : decode cX10_give 210 = .ok (.iconst 1, 1) := by decide +kernel
theorem dX10_give_211 : decode cX10_give 211 = .ok (.goto 4, 3) := by decide +kernel
theorem dX10_give_214 : decode cX10_give 214 = .ok (.iconst 0, 1) := by decide +kernel
theorem dX10_give_215 : decode cX10_give 215 = .ok (.iadd, 1) := by decide +kernel
theorem dX10_give_216 : decode cX10_give 216 = .ok (.iload 6, 2) := by decide +kernel
theorem dX10_give_218 : decode cX10_give 218 = .ok (.ifCond .ne 12, 3) := by decide +kernel
theorem dX10_give_221 : decode cX10_give 221 = .ok (.iload 10, 2) := by decide +kernel
theorem dX10_give_223 : decode cX10_give 223 = .ok (.ifCond .eq 7, 3) := by decide +kernel
theorem dX10_give_226 : decode cX10_give 226 = .ok (.iconst 1, 1) := by decide +kernel
theorem dX10_give_227 : decode cX10_give 227 = .ok (.goto 4, 3) := by decide +kernel
theorem dX10_give_230 : decode cX10_give 230 = .ok (.iconst 0, 1) := by decide +kernel
theorem dX10_give_231 : decode cX10_give 231 = .ok (.isub, 1) := by decide +kernel
theorem dX10_give_232 : decode cX10_give 232 = .ok (.ireturn, 1) := by decide +kernel
theorem dX10_type_0 : decode cX10_type 0 = .ok (.aload_n 0, 1) := by decide +kernel
theorem dX10_type_1 : decode cX10_type 1 = .ok (.iload_n 1, 1) := by decide +kernel
theorem dX10_type_2 : decode cX10_type 2 = .ok (.iconst 0, 1) := by decide +kernel
theorem dX10_type_3 : decode cX10_type 3 = .ok (.bipush 25, 2) := by decide +kernel
theorem dX10_type_5 : decode cX10_type 5 = .ok (.invokestatic 129, 3) := by decide +kernel
theorem dX10_type_8 : decode cX10_type 8 = .ok (.ifCond .ne 7, 3) := by decide +kernel
theorem dX10_type_11 : decode cX10_type 11 = .ok (.iconst 1, 1) := by decide +kernel
theorem dX10_type_12 : decode cX10_type 12 = .ok (.goto 17, 3) := by decide +kernel
theorem dX10_type_15 : decode cX10_type 15 = .ok (.aload_n 0, 1) := by decide +kernel
theorem dX10_type_16 : decode cX10_type 16 = .ok (.getfield 160, 3) := by decide +kernel
theorem dX10_type_19 : decode cX10_type 19 = .ok (.bipush 40, 2) := by decide +kernel
theorem dX10_type_21 : decode cX10_type 21 = .ok (.if_icmp .ne 7, 3) := by decide +kernel
theorem dX10_type_24 : decode cX10_type 24 = .ok (.iconst 2, 1) := by decide +kernel
theorem dX10_type_25 : decode cX10_type 25 = .ok (.goto 4, 3) := by decide +kernel
theorem dX10_type_28 : decode cX10_type 28 = .ok (.iconst 0, 1) := by decide +kernel
theorem dX10_type_29 : decode cX10_type 29 = .ok (.putfield 122, 3) := by decide +kernel
theorem dX10_type_32 : decode cX10_type 32 = .ok (.aload_n 0, 1) := by decide +kernel
theorem dX10_type_33 : decode cX10_type 33 = .ok (.getfield 122, 3) := by decide +kernel
theorem dX10_type_36 : decode cX10_type 36 = .ok (.ifCond .le 5, 3) := by decide +kernel
theorem dX10_type_39 : decode cX10_type 39 = .ok (.iconst 0, 1) := by decide +kernel
theorem dX10_type_40 : decode cX10_type 40 = .ok (.ireturn, 1) := by decide +kernel
theorem dX10_type_41 : decode cX10_type 41 = .ok (.aload_n 0, 1) := by decide +kernel
theorem dX10_type_42 : decode cX10_type 42 = .ok (.getfield 52, 3) := by decide +kernel
theorem dX10_type_45 : decode cX10_type 45 = .ok (.aload_n 0, 1) := by decide +kernel
theorem dX10_type_46 : decode cX10_type 46 = .ok (.getfield 160, 3) := by decide +kernel
theorem dX10_type_49 : decode cX10_type 49 = .ok (.iload_n 1, 1) := by decide +kernel
theorem dX10_type_50 : decode cX10_type 50 = .ok (.iastore, 1) := by decide +kernel
theorem dX10_type_51 : decode cX10_type 51 = .ok (.aload_n 0, 1) := by decide +kernel
theorem dX10_type_52 : decode cX10_type 52 = .ok (.dup, 1) := by decide +kernel
theorem dX10_type_53 : decode cX10_type 53 = .ok (.getfield 160, 3) := by decide +kernel
theorem dX10_type_56 : decode cX10_type 56 = .ok (.iconst 1, 1) := by decide +kernel
theorem dX10_type_57 : decode cX10_type 57 = .ok (.iadd, 1) := by decide +kernel
theorem dX10_type_58 : decode cX10_type 58 = .ok (.putfield 160, 3) := by decide +kernel
theorem dX10_type_61 : decode cX10_type 61 = .ok (.aload_n 0, 1) := by decide +kernel
theorem dX10_type_62 : decode cX10_type 62 = .ok (.getfield 160, 3) := by decide +kernel
theorem dX10_type_65 : decode cX10_type 65 = .ok (.ireturn, 1) := by decide +kernel
theorem dX10_word_0 : decode cX10_word 0 = .ok (.aload_n 0, 1) := by decide +kernel
theorem dX10_word_1 : decode cX10_word 1 = .ok (.aload_n 0, 1) := by decide +kernel
theorem dX10_word_2 : decode cX10_word 2 = .ok (.getfield 160, 3) := by decide +kernel
theorem dX10_word_5 : decode cX10_word 5 = .ok (.ifCond .eq 12, 3) := by decide +kernel
theorem dX10_word_8 : decode cX10_word 8 = .ok (.aload_n 0, 1) := by decide +kernel
theorem dX10_word_9 : decode cX10_word 9 = .ok (.getfield 160, 3) := by decide +kernel
theorem dX10_word_12 : decode cX10_word 12 = .ok (.bipush 8, 2) := by decide +kernel
theorem dX10_word_14 : decode cX10_word 14 = .ok (.if_icmp .le 7, 3) := by decide +kernel
theorem dX10_word_17 : decode cX10_word 17 = .ok (.iconst 1, 1) := by decide +kernel
theorem dX10_word_18 : decode cX10_word 18 = .ok (.goto 4, 3) := by decide +kernel
theorem dX10_word_21 : decode cX10_word 21 = .ok (.iconst 0, 1) := by decide +kernel
theorem dX10_word_22 : decode cX10_word 22 = .ok (.putfield 122, 3) := by decide +kernel
theorem dX10_word_25 : decode cX10_word 25 = .ok (.aload_n 0, 1) := by decide +kernel
theorem dX10_word_26 : decode cX10_word 26 = .ok (.getfield 163, 3) := by decide +kernel
theorem dX10_word_29 : decode cX10_word 29 = .ok (.istore_n 1, 1) := by decide +kernel
theorem dX10_word_30 : decode cX10_word 30 = .ok (.aload_n 0, 1) := by decide +kernel
theorem dX10_word_31 : decode cX10_word 31 = .ok (.getfield 163, 3) := by decide +kernel
theorem dX10_word_34 : decode cX10_word 34 = .ok (.iconst 1, 1) := by decide +kernel
theorem dX10_word_35 : decode cX10_word 35 = .ok (.isub, 1) := by decide +kernel
theorem dX10_word_36 : decode cX10_word 36 = .ok (.istore_n 2, 1) := by decide +kernel
theorem dX10_word_37 : decode cX10_word 37 = .ok (.iload_n 2, 1) := by decide +kernel
theorem dX10_word_38 : decode cX10_word 38 = .ok (.ifCond .lt 95, 3) := by decide +kernel
theorem dX10_word_41 : decode cX10_word 41 = .ok (.aload_n 0, 1) := by decide +kernel
theorem dX10_word_42 : decode cX10_word 42 = .ok (.getfield 122, 3) := by decide +kernel
theorem dX10_word_45 : decode cX10_word 45 = .ok (.ifCond .ne 88, 3) := by decide +kernel
theorem dX10_word_48 : decode cX10_word 48 = .ok (.aload_n 0, 1) := by decide +kernel
theorem dX10_word_49 : decode cX10_word 49 = .ok (.getfield 55, 3) := by decide +kernel
theorem dX10_word_52 : decode cX10_word 52 = .ok (.iload_n 2, 1) := by decide +kernel
theorem dX10_word_53 : decode cX10_word 53 = .ok (.iaload, 1) := by decide +kernel
theorem dX10_word_54 : decode cX10_word 54 = .ok (.aload_n 0, 1) := by decide +kernel
theorem dX10_word_55 : decode cX10_word 55 = .ok (.getfield 160, 3) := by decide +kernel
theorem dX10_word_58 : decode cX10_word 58 = .ok (.if_icmp .ne 7, 3) := by decide +kernel
theorem dX10_word_61 : decode cX10_word 61 = .ok (.iconst 1, 1) := by decide +kernel
theorem dX10_word_62 : decode cX10_word 62 = .ok (.goto 4, 3) := by decide +kernel
theorem dX10_word_65 : decode cX10_word 65 = .ok (.iconst 0, 1) := by decide +kernel
theorem dX10_word_66 : decode cX10_word 66 = .ok (.istore_n 3, 1) := by decide +kernel
theorem dX10_word_67 : decode cX10_word 67 = .ok (.iconst 0, 1) := by decide +kernel
theorem dX10_word_68 : decode cX10_word 68 = .ok (.istore 4, 2) := by decide +kernel
theorem dX10_word_70 : decode cX10_word 70 = .ok (.iload 4, 2) := by decide +kernel
theorem dX10_word_72 : decode cX10_word 72 = .ok (.aload_n 0, 1) := by decide +kernel
theorem dX10_word_73 : decode cX10_word 73 = .ok (.getfield 160, 3) := by decide +kernel
theorem dX10_word_76 : decode cX10_word 76 = .ok (.if_icmp .ge 41, 3) := by decide +kernel
theorem dX10_word_79 : decode cX10_word 79 = .ok (.iload_n 3, 1) := by decide +kernel
theorem dX10_word_80 : decode cX10_word 80 = .ok (.ifCond .eq 37, 3) := by decide +kernel
theorem dX10_word_83 : decode cX10_word 83 = .ok (.aload_n 0, 1) := by decide +kernel
theorem dX10_word_84 : decode cX10_word 84 = .ok (.getfield 58, 3) := by decide +kernel
theorem dX10_word_87 : decode cX10_word 87 = .ok (.bipush 8, 2) := by decide +kernel
theorem dX10_word_89 : decode cX10_word 89 = .ok (.iload_n 2, 1) := by decide +kernel
theorem dX10_word_90 : decode cX10_word 90 = .ok (.imul, 1) := by decide +kernel
theorem dX10_word_91 : decode cX10_word 91 = .ok (.iload 4, 2) := by decide +kernel
theorem dX10_word_93 : decode cX10_word 93 = .ok (.iadd, 1) := by decide +kernel
theorem dX10_word_94 : decode cX10_word 94 = .ok (.iaload, 1) := by decide +kernel
theorem dX10_word_95 : decode cX10_word 95 = .ok (.aload_n 0, 1) := by decide +kernel
theorem dX10_word_96 : decode cX10_word 96 = .ok (.getfield 52, 3) := by decide +kernel
theorem dX10_word_99 : decode cX10_word 99 = .ok (.iload 4, 2) := by decide +kernel
theorem dX10_word_101 : decode cX10_word 101 = .ok (.iaload, 1) := by decide +kernel
theorem dX10_word_102 : decode cX10_word 102 = .ok (.if_icmp .ne 7, 3) := by decide +kernel
theorem dX10_word_105 : decode cX10_word 105 = .ok (.iconst 1, 1) := by decide +kernel
theorem dX10_word_106 : decode cX10_word 106 = .ok (.goto 4, 3) := by decide +kernel
theorem dX10_word_109 : decode cX10_word 109 = .ok (.iconst 0, 1) := by decide +kernel
theorem dX10_word_110 : decode cX10_word 110 = .ok (.istore_n 3, 1) := by decide +kernel
theorem dX10_word_111 : decode cX10_word 111 = .ok (.iinc 4 1, 3) := by decide +kernel
theorem dX10_word_114 : decode cX10_word 114 = .ok (.goto (-44), 3) := by decide +kernel
theorem dX10_word_117 : decode cX10_word 117 = .ok (.iload_n 3, 1) := by decide +kernel
theorem dX10_word_118 : decode cX10_word 118 = .ok (.ifCond .eq 7, 3) := by decide +kernel
theorem dX10_word_121 : decode cX10_word 121 = .ok (.iload_n 2, 1) := by decide +kernel
theorem dX10_word_122 : decode cX10_word 122 = .ok (.goto 4, 3) := by decide +kernel
theorem dX10_word_125 : decode cX10_word 125 = .ok (.iload_n 1, 1) := by decide +kernel
theorem dX10_word_126 : decode cX10_word 126 = .ok (.istore_n 1, 1) := by decide +kernel
theorem dX10_word_127 : decode cX10_word 127 = .ok (.iinc 2 (-1), 3) := by decide +kernel
theorem dX10_word_130 : decode cX10_word 130 = .ok (.goto (-93), 3) := by decide +kernel
theorem dX10_word_133 : decode cX10_word 133 = .ok (.aload_n 0, 1) := by decide +kernel
theorem dX10_word_134 : decode cX10_word 134 = .ok (.aload_n 0, 1) := by decide +kernel
theorem dX10_word_135 : decode cX10_word 135 = .ok (.getfield 122, 3) := by decide +kernel
theorem dX10_word_138 : decode cX10_word 138 = .ok (.ifCond .gt 9, 3) := by decide +kernel
theorem dX10_word_141 : decode cX10_word 141 = .ok (.iload_n 1, 1) := by decide +kernel
theorem dX10_word_142 : decode cX10_word 142 = .ok (.bipush 12, 2) := by decide +kernel
theorem dX10_word_144 : decode cX10_word 144 = .ok (.if_icmp .ne 7, 3) := by decide +kernel
theorem dX10_word_147 : decode cX10_word 147 = .ok (.iconst 1, 1) := by decide +kernel
theorem dX10_word_148 : decode cX10_word 148 = .ok (.goto 4, 3) := by decide +kernel
theorem dX10_word_151 : decode cX10_word 151 = .ok (.iconst 0, 1) := by decide +kernel
theorem dX10_word_152 : decode cX10_word 152 = .ok (.putfield 122, 3) := by decide +kernel
theorem dX10_word_155 : decode cX10_word 155 = .ok (.aload_n 0, 1) := by decide +kernel
theorem dX10_word_156 : decode cX10_word 156 = .ok (.getfield 122, 3) := by decide +kernel
theorem dX10_word_159 : decode cX10_word 159 = .ok (.ifCond .le 5, 3) := by decide +kernel
theorem dX10_word_162 : decode cX10_word 162 = .ok (.iconst 0, 1) := by decide +kernel
theorem dX10_word_163 : decode cX10_word 163 = .ok (.ireturn, 1) := by decide +kernel
theorem dX10_word_164 : decode cX10_word 164 = .ok (.iload_n 1, 1) := by decide +kernel
theorem dX10_word_165 : decode cX10_word 165 = .ok (.aload_n 0, 1) := by decide +kernel
theorem dX10_word_166 : decode cX10_word 166 = .ok (.getfield 163, 3) := by decide +kernel
theorem dX10_word_169 : decode cX10_word 169 = .ok (.if_icmp .ne 62, 3) := by decide +kernel
theorem dX10_word_172 : decode cX10_word 172 = .ok (.iconst 0, 1) := by decide +kernel
theorem dX10_word_173 : decode cX10_word 173 = .ok (.istore_n 2, 1) := by decide +kernel
theorem dX10_word_174 : decode cX10_word 174 = .ok (.iload_n 2, 1) := by decide +kernel
theorem dX10_word_175 : decode cX10_word 175 = .ok (.aload_n 0, 1) := by decide +kernel
theorem dX10_word_176 : decode cX10_word 176 = .ok (.getfield 160, 3) := by decide +kernel
theorem dX10_word_179 : decode cX10_word 179 = .ok (.if_icmp .ge 29, 3) := by decide +kernel
theorem dX10_word_182 : decode cX10_word 182 = .ok (.aload_n 0, 1) := by decide +kernel
theorem dX10_word_183 : decode cX10_word 183 = .ok (.getfield 58, 3) := by decide +kernel
theorem dX10_word_186 : decode cX10_word 186 = .ok (.bipush 8, 2) := by decide +kernel
theorem dX10_word_188 : decode cX10_word 188 = .ok (.aload_n 0, 1) := by decide +kernel
theorem dX10_word_189 : decode cX10_word 189 = .ok (.getfield 163, 3) := by decide +kernel
theorem dX10_word_192 : decode cX10_word 192 = .ok (.imul, 1) := by decide +kernel
theorem dX10_word_193 : decode cX10_word 193 = .ok (.iload_n 2, 1) := by decide +kernel
theorem dX10_word_194 : decode cX10_word 194 = .ok (.iadd, 1) := by decide +kernel
theorem dX10_word_195 : decode cX10_word 195 = .ok (.aload_n 0, 1) := by decide +kernel
theorem dX10_word_196 : decode cX10_word 196 = .ok (.getfield 52, 3) := by decide +kernel
theorem dX10_word_199 : decode cX10_word 199 = .ok (.iload_n 2, 1) := by decide +kernel
theorem dX10_word_200 : decode cX10_word 200 = .ok (.iaload, 1) := by decide +kernel
theorem dX10_word_201 : decode cX10_word 201 = .ok (.iastore, 1) := by decide +kernel
theorem dX10_word_202 : decode cX10_word 202 = .ok (.iinc 2 1, 3) := by decide +kernel
theorem dX10_word_205 : decode cX10_word 205 = .ok (.goto (-31), 3) := by decide +kernel
theorem dX10_word_208 : decode cX10_word 208 = .ok (.aload_n 0, 1) := by decide +kernel
theorem dX10_word_209 : decode cX10_word 209 = .ok (.getfield 55, 3) := by decide +kernel
theorem dX10_word_212 : decode cX10_word 212 = .ok (.aload_n 0, 1) := by decide +kernel
theorem dX10_word_213 : decode cX10_word 213 = .ok (.getfield 163, 3) := by decide +kernel
theorem dX10_word_216 : decode cX10_word 216 = .ok (.aload_n 0, 1) := by decide +kernel
theorem dX10_word_217 : decode cX10_word 217 = .ok (.getfield 160, 3) := by decide +kernel
theorem dX10_word_220 : decode cX10_word 220 = .ok (.iastore, 1) := by decide +kernel
theorem dX10_word_221 : decode cX10_word 221 = .ok (.aload_n 0, 1) := by decide +kernel
theorem dX10_word_222 : decode cX10_word 222 = .ok (.dup, 1) := by decide +kernel
theorem dX10_word_223 : decode cX10_word 223 = .ok (.getfield 163, 3) := by decide +kernel
theorem dX10_word_226 : decode cX10_word 226 = .ok (.iconst 1, 1) := by decide +kernel
theorem dX10_word_227 : decode cX10_word 227 = .ok (.iadd, 1) := by decide +kernel
theorem dX10_word_228 : decode cX10_word 228 = .ok (.putfield 163, 3) := by decide +kernel
theorem dX10_word_231 : decode cX10_word 231 = .ok (.aload_n 0, 1) := by decide +kernel
theorem dX10_word_232 : decode cX10_word 232 = .ok (.iconst 0, 1) := by decide +kernel
theorem dX10_word_233 : decode cX10_word 233 = .ok (.putfield 160, 3) := by decide +kernel
theorem dX10_word_236 : decode cX10_word 236 = .ok (.iload_n 1, 1) := by decide +kernel
theorem dX10_word_237 : decode cX10_word 237 = .ok (.ireturn, 1) := by decide +kernel
theorem dX10_work_0 : decode cX10_work 0 = .ok (.aload_n 0, 1) := by decide +kernel
theorem dX10_work_1 : decode cX10_work 1 = .ok (.aload_n 0, 1) := by decide +kernel
theorem dX10_work_2 : decode cX10_work 2 = .ok (.getfield 160, 3) := by decide +kernel
theorem dX10_work_5 : decode cX10_work 5 = .ok (.ifCond .eq 11, 3) := by decide +kernel
theorem dX10_work_8 : decode cX10_work 8 = .ok (.aload_n 0, 1) := by decide +kernel
theorem dX10_work_9 : decode cX10_work 9 = .ok (.getfield 166, 3) := by decide +kernel
theorem dX10_work_12 : decode cX10_work 12 = .ok (.iconst 4, 1) := by decide +kernel
theorem dX10_work_13 : decode cX10_work 13 = .ok (.if_icmp .ne 7, 3) := by decide +kernel
theorem dX10_work_16 : decode cX10_work 16 = .ok (.iconst 1, 1) := by decide +kernel
theorem dX10_work_17 : decode cX10_work 17 = .ok (.goto 4, 3) := by decide +kernel
theorem dX10_work_20 : decode cX10_work 20 = .ok (.iconst 0, 1) := by decide +kernel
theorem dX10_work_21 : decode cX10_work 21 = .ok (.putfield 122, 3) := by decide +kernel
theorem dX10_work_24 : decode cX10_work 24 = .ok (.aload_n 0, 1) := by decide +kernel
theorem dX10_work_25 : decode cX10_work 25 = .ok (.getfield 122, 3) := by decide +kernel
theorem dX10_work_28 : decode cX10_work 28 = .ok (.ifCond .le 5, 3) := by decide +kernel
theorem dX10_work_31 : decode cX10_work 31 = .ok (.iconst 0, 1) := by decide +kernel
theorem dX10_work_32 : decode cX10_work 32 = .ok (.ireturn, 1) := by decide +kernel
theorem dX10_work_33 : decode cX10_work 33 = .ok (.iconst 0, 1) := by decide +kernel
theorem dX10_work_34 : decode cX10_work 34 = .ok (.istore_n 1, 1) := by decide +kernel
theorem dX10_work_35 : decode cX10_work 35 = .ok (.iload_n 1, 1) := by decide +kernel
theorem dX10_work_36 : decode cX10_work 36 = .ok (.aload_n 0, 1) := by decide +kernel
theorem dX10_work_37 : decode cX10_work 37 = .ok (.getfield 160, 3) := by decide +kernel
theorem dX10_work_40 : decode cX10_work 40 = .ok (.if_icmp .ge 29, 3) := by decide +kernel
theorem dX10_work_43 : decode cX10_work 43 = .ok (.aload_n 0, 1) := by decide +kernel
theorem dX10_work_44 : decode cX10_work 44 = .ok (.getfield 64, 3) := by decide +kernel
theorem dX10_work_47 : decode cX10_work 47 = .ok (.bipush 40, 2) := by decide +kernel
theorem dX10_work_49 : decode cX10_work 49 = .ok (.aload_n 0, 1) := by decide +kernel
theorem dX10_work_50 : decode cX10_work 50 = .ok (.getfield 166, 3) := by decide +kernel
theorem dX10_work_53 : decode cX10_work 53 = .ok (.imul, 1) := by decide +kernel
theorem dX10_work_54 : decode cX10_work 54 = .ok (.iload_n 1, 1) := by decide +kernel
theorem dX10_work_55 : decode cX10_work 55 = .ok (.iadd, 1) := by decide +kernel
theorem dX10_work_56 : decode cX10_work 56 = .ok (.aload_n 0, 1) := by decide +kernel
theorem dX10_work_57 : decode cX10_work 57 = .ok (.getfield 52, 3) := by decide +kernel
theorem dX10_work_60 : decode cX10_work 60 = .ok (.iload_n 1, 1) := by decide +kernel
theorem dX10_work_61 : decode cX10_work 61 = .ok (.iaload, 1) := by decide +kernel
theorem dX10_work_62 : decode cX10_work 62 = .ok (.iastore, 1) := by decide +kernel
theorem dX10_work_63 : decode cX10_work 63 = .ok (.iinc 1 1, 3) := by decide +kernel
theorem dX10_work_66 : decode cX10_work 66 = .ok (.goto (-31), 3) := by decide +kernel
theorem dX10_work_69 : decode cX10_work 69 = .ok (.aload_n 0, 1) := by decide +kernel
theorem dX10_work_70 : decode cX10_work 70 = .ok (.getfield 61, 3) := by decide +kernel
theorem dX10_work_73 : decode cX10_work 73 = .ok (.aload_n 0, 1) := by decide +kernel
theorem dX10_work_74 : decode cX10_work 74 = .ok (.getfield 166, 3) := by decide +kernel
theorem dX10_work_77 : decode cX10_work 77 = .ok (.aload_n 0, 1) := by decide +kernel
theorem dX10_work_78 : decode cX10_work 78 = .ok (.getfield 160, 3) := by decide +kernel
theorem dX10_work_81 : decode cX10_work 81 = .ok (.iastore, 1) := by decide +kernel
theorem dX10_work_82 : decode cX10_work 82 = .ok (.aload_n 0, 1) := by decide +kernel
theorem dX10_work_83 : decode cX10_work 83 = .ok (.iconst 0, 1) := by decide +kernel
theorem dX10_work_84 : decode cX10_work 84 = .ok (.putfield 160, 3) := by decide +kernel
theorem dX10_work_87 : decode cX10_work 87 = .ok (.aload_n 0, 1) := by decide +kernel
theorem dX10_work_88 : decode cX10_work 88 = .ok (.dup, 1) := by decide +kernel
theorem dX10_work_89 : decode cX10_work 89 = .ok (.getfield 166, 3) := by decide +kernel
theorem dX10_work_92 : decode cX10_work 92 = .ok (.iconst 1, 1) := by decide +kernel
theorem dX10_work_93 : decode cX10_work 93 = .ok (.iadd, 1) := by decide +kernel
theorem dX10_work_94 : decode cX10_work 94 = .ok (.putfield 166, 3) := by decide +kernel
theorem dX10_work_97 : decode cX10_work 97 = .ok (.aload_n 0, 1) := by decide +kernel
theorem dX10_work_98 : decode cX10_work 98 = .ok (.getfield 166, 3) := by decide +kernel
theorem dX10_work_101 : decode cX10_work 101 = .ok (.iconst 1, 1) := by decide +kernel
theorem dX10_work_102 : decode cX10_work 102 = .ok (.isub, 1) := by decide +kernel
theorem dX10_work_103 : decode cX10_work 103 = .ok (.ireturn, 1) := by decide +kernel
theorem dX10_weightAt_0 : decode cX10_weightAt 0 = .ok (.iconst 0, 1) := by decide +kernel
theorem dX10_weightAt_1 : decode cX10_weightAt 1 = .ok (.istore 4, 2) := by decide +kernel
theorem dX10_weightAt_3 : decode cX10_weightAt 3 = .ok (.iconst 0, 1) := by decide +kernel
theorem dX10_weightAt_4 : decode cX10_weightAt 4 = .ok (.istore 5, 2) := by decide +kernel
theorem dX10_weightAt_6 : decode cX10_weightAt 6 = .ok (.iload 5, 2) := by decide +kernel
theorem dX10_weightAt_8 : decode cX10_weightAt 8 = .ok (.aload_n 0, 1) := by decide +kernel
theorem dX10_weightAt_9 : decode cX10_weightAt 9 = .ok (.getfield 55, 3) := by decide +kernel
theorem dX10_weightAt_12 : decode cX10_weightAt 12 = .ok (.iload_n 1, 1) := by decide +kernel
theorem dX10_weightAt_13 : decode cX10_weightAt 13 = .ok (.iaload, 1) := by decide +kernel
theorem dX10_weightAt_14 : decode cX10_weightAt 14 = .ok (.if_icmp .ge 82, 3) := by decide +kernel
theorem dX10_weightAt_17 : decode cX10_weightAt 17 = .ok (.iload_n 2, 1) := by decide +kernel
theorem dX10_weightAt_18 : decode cX10_weightAt 18 = .ok (.iload 5, 2) := by decide +kernel
theorem dX10_weightAt_20 : decode cX10_weightAt 20 = .ok (.iadd, 1) := by decide +kernel
theorem dX10_weightAt_21 : decode cX10_weightAt 21 = .ok (.istore 6, 2) := by decide +kernel
theorem dX10_weightAt_23 : decode cX10_weightAt 23 = .ok (.iload 6, 2) := by decide +kernel
theorem dX10_weightAt_25 : decode cX10_weightAt 25 = .ok (.iload_n 3, 1) := by decide +kernel
theorem dX10_weightAt_26 : decode cX10_weightAt 26 = .ok (.if_icmp .ge 13, 3) := by decide +kernel
theorem dX10_weightAt_29 : decode cX10_weightAt 29 = .ok (.aload_n 0, 1) := by decide +kernel
theorem dX10_weightAt_30 : decode cX10_weightAt 30 = .ok (.getfield 95, 3) := by decide +kernel
theorem dX10_weightAt_33 : decode cX10_weightAt 33 = .ok (.iload 6, 2) := by decide +kernel
theorem dX10_weightAt_35 : decode cX10_weightAt 35 = .ok (.baload, 1) := by decide +kernel
theorem dX10_weightAt_36 : decode cX10_weightAt 36 = .ok (.ifCond .eq 5, 3) := by decide +kernel
theorem dX10_weightAt_39 : decode cX10_weightAt 39 = .ok (.iconst (-1), 1) := by decide +kernel
theorem dX10_weightAt_40 : decode cX10_weightAt 40 = .ok (.ireturn, 1) := by decide +kernel
theorem dX10_weightAt_41 : decode cX10_weightAt 41 = .ok (.aload_n 0, 1) := by decide +kernel
theorem dX10_weightAt_42 : decode cX10_weightAt 42 = .ok (.getfield 98, 3) := by decide +kernel
theorem dX10_weightAt_45 : decode cX10_weightAt 45 = .ok (.bipush 26, 2) := by decide +kernel
theorem dX10_weightAt_47 : decode cX10_weightAt 47 = .ok (.iload 6, 2) := by decide +kernel
theorem dX10_weightAt_49 : decode cX10_weightAt 49 = .ok (.imul, 1) := by decide +kernel
theorem dX10_weightAt_50 : decode cX10_weightAt 50 = .ok (.aload_n 0, 1) := by decide +kernel
theorem dX10_weightAt_51 : decode cX10_weightAt 51 = .ok (.getfield 58, 3) := by decide +kernel
theorem dX10_weightAt_54 : decode cX10_weightAt 54 = .ok (.bipush 8, 2) := by decide +kernel
theorem dX10_weightAt_56 : decode cX10_weightAt 56 = .ok (.iload_n 1, 1) := by decide +kernel
theorem dX10_weightAt_57 : decode cX10_weightAt 57 = .ok (.imul, 1) := by decide +kernel
theorem dX10_weightAt_58 : decode cX10_weightAt 58 = .ok (.iload 5, 2) := by decide +kernel
theorem dX10_weightAt_60 : decode cX10_weightAt 60 = .ok (.iadd, 1) := by decide +kernel
theorem dX10_weightAt_61 : decode cX10_weightAt 61 = .ok (.iaload, 1) := by decide +kernel
theorem dX10_weightAt_62 : decode cX10_weightAt 62 = .ok (.iadd, 1) := by decide +kernel
theorem dX10_weightAt_63 : decode cX10_weightAt 63 = .ok (.iaload, 1) := by decide +kernel
theorem dX10_weightAt_64 : decode cX10_weightAt 64 = .ok (.istore 7, 2) := by decide +kernel
theorem dX10_weightAt_66 : decode cX10_weightAt 66 = .ok (.aload_n 0, 1) := by decide +kernel
theorem dX10_weightAt_67 : decode cX10_weightAt 67 = .ok (.getfield 101, 3) := by decide +kernel
theorem dX10_weightAt_70 : decode cX10_weightAt 70 = .ok (.iload 6, 2) := by decide +kernel
theorem dX10_weightAt_72 : decode cX10_weightAt 72 = .ok (.iaload, 1) := by decide +kernel
theorem dX10_weightAt_73 : decode cX10_weightAt 73 = .ok (.ifCond .le 10, 3) := by decide +kernel
theorem dX10_weightAt_76 : decode cX10_weightAt 76 = .ok (.iload 7, 2) := by decide +kernel
theorem dX10_weightAt_78 : decode cX10_weightAt 78 = .ok (.ifCond .ne 5, 3) := by decide +kernel
theorem dX10_weightAt_81 : decode cX10_weightAt 81 = .ok (.iconst (-1), 1) := by decide +kernel
theorem dX10_weightAt_82 : decode cX10_weightAt 82 = .ok (.ireturn, 1) := by decide +kernel
theorem dX10_weightAt_83 : decode cX10_weightAt 83 = .ok (.iload 4, 2) := by decide +kernel
theorem dX10_weightAt_85 : decode cX10_weightAt 85 = .ok (.iload 7, 2) := by decide +kernel
theorem dX10_weightAt_87 : decode cX10_weightAt 87 = .ok (.iadd, 1) := by decide +kernel
theorem dX10_weightAt_88 : decode cX10_weightAt 88 = .ok (.istore 4, 2) := by decide +kernel
theorem dX10_weightAt_90 : decode cX10_weightAt 90 = .ok (.iinc 5 1, 3) := by decide +kernel
theorem dX10_weightAt_93 : decode cX10_weightAt 93 = .ok (.goto (-87), 3) := by decide +kernel
theorem dX10_weightAt_96 : decode cX10_weightAt 96 = .ok (.iload 4, 2) := by decide +kernel
theorem dX10_weightAt_98 : decode cX10_weightAt 98 = .ok (.ireturn, 1) := by decide +kernel
theorem dX10_isLower_0 : decode cX10_isLower 0 = .ok (.iconst 0, 1) := by decide +kernel
theorem dX10_isLower_1 : decode cX10_isLower 1 = .ok (.istore 4, 2) := by decide +kernel
theorem dX10_isLower_3 : decode cX10_isLower 3 = .ok (.iload_n 2, 1) := by decide +kernel
theorem dX10_isLower_4 : decode cX10_isLower 4 = .ok (.iload 4, 2) := by decide +kernel
theorem dX10_isLower_6 : decode cX10_isLower 6 = .ok (.iadd, 1) := by decide +kernel
theorem dX10_isLower_7 : decode cX10_isLower 7 = .ok (.iload_n 3, 1) := by decide +kernel
theorem dX10_isLower_8 : decode cX10_isLower 8 = .ok (.if_icmp .ge 94, 3) := by decide +kernel
theorem dX10_isLower_11 : decode cX10_isLower 11 = .ok (.iload 4, 2) := by decide +kernel
theorem dX10_isLower_13 : decode cX10_isLower 13 = .ok (.aload_n 0, 1) := by decide +kernel
theorem dX10_isLower_14 : decode cX10_isLower 14 = .ok (.getfield 55, 3) := by decide +kernel
theorem dX10_isLower_17 : decode cX10_isLower 17 = .ok (.iload_n 1, 1) := by decide +kernel
theorem dX10_isLower_18 : decode cX10_isLower 18 = .ok (.iaload, 1) := by decide +kernel
theorem dX10_isLower_19 : decode cX10_isLower 19 = .ok (.if_icmp .ge 18, 3) := by decide +kernel
theorem dX10_isLower_22 : decode cX10_isLower 22 = .ok (.aload_n 0, 1) := by decide +kernel
theorem dX10_isLower_23 : decode cX10_isLower 23 = .ok (.getfield 58, 3) := by decide +kernel
theorem dX10_isLower_26 : decode cX10_isLower 26 = .ok (.bipush 8, 2) := by decide +kernel
theorem dX10_isLower_28 : decode cX10_isLower 28 = .ok (.iload_n 1, 1) := by decide +kernel
theorem dX10_isLower_29 : decode cX10_isLower 29 = .ok (.imul, 1) := by decide +kernel
theorem dX10_isLower_30 : decode cX10_isLower 30 = .ok (.iload 4, 2) := by decide +kernel
theorem dX10_isLower_32 : decode cX10_isLower 32 = .ok (.iadd, 1) := by decide +kernel
theorem dX10_isLower_33 : decode cX10_isLower 33 = .ok (.iaload, 1) := by decide +kernel
theorem dX10_isLower_34 : decode cX10_isLower 34 = .ok (.goto 24, 3) := by decide +kernel
theorem dX10_isLower_37 : decode cX10_isLower 37 = .ok (.aload_n 0, 1) := by decide +kernel
theorem dX10_isLower_38 : decode cX10_isLower 38 = .ok (.getfield 92, 3) := by decide +kernel
theorem dX10_isLower_41 : decode cX10_isLower 41 = .ok (.bipush 8, 2) := by decide +kernel
theorem dX10_isLower_43 : decode cX10_isLower 43 = .ok (.iload_n 2, 1) := by decide +kernel
theorem dX10_isLower_44 : decode cX10_isLower 44 = .ok (.aload_n 0, 1) := by decide +kernel
theorem dX10_isLower_45 : decode cX10_isLower 45 = .ok (.getfield 55, 3) := by decide +kernel
theorem dX10_isLower_48 : decode cX10_isLower 48 = .ok (.iload_n 1, 1) := by decide +kernel
theorem dX10_isLower_49 : decode cX10_isLower 49 = .ok (.iaload, 1) := by decide +kernel
theorem dX10_isLower_50 : decode cX10_isLower 50 = .ok (.iadd, 1) := by decide +kernel
theorem dX10_isLower_51 : decode cX10_isLower 51 = .ok (.imul, 1) := by decide +kernel
theorem dX10_isLower_52 : decode cX10_isLower 52 = .ok (.iload_n 2, 1) := by decide +kernel
theorem dX10_isLower_53 : decode cX10_isLower 53 = .ok (.iadd, 1) := by decide +kernel
theorem dX10_isLower_54 : decode cX10_isLower 54 = .ok (.iload 4, 2) := by decide +kernel
theorem dX10_isLower_56 : decode cX10_isLower 56 = .ok (.iadd, 1) := by decide +kernel
theorem dX10_isLower_57 : decode cX10_isLower 57 = .ok (.iaload, 1) := by decide +kernel
theorem dX10_isLower_58 : decode cX10_isLower 58 = .ok (.istore 5, 2) := by decide +kernel
theorem dX10_isLower_60 : decode cX10_isLower 60 = .ok (.aload_n 0, 1) := by decide +kernel
theorem dX10_isLower_61 : decode cX10_isLower 61 = .ok (.getfield 92, 3) := by decide +kernel
theorem dX10_isLower_64 : decode cX10_isLower 64 = .ok (.bipush 8, 2) := by decide +kernel
theorem dX10_isLower_66 : decode cX10_isLower 66 = .ok (.iload_n 2, 1) := by decide +kernel
theorem dX10_isLower_67 : decode cX10_isLower 67 = .ok (.imul, 1) := by decide +kernel
theorem dX10_isLower_68 : decode cX10_isLower 68 = .ok (.iload_n 2, 1) := by decide +kernel
theorem dX10_isLower_69 : decode cX10_isLower 69 = .ok (.iadd, 1) := by decide +kernel
theorem dX10_isLower_70 : decode cX10_isLower 70 = .ok (.iload 4, 2) := by decide +kernel
theorem dX10_isLower_72 : decode cX10_isLower 72 = .ok (.iadd, 1) := by decide +kernel
theorem dX10_isLower_73 : decode cX10_isLower 73 = .ok (.iaload, 1) := by decide +kernel
theorem dX10_isLower_74 : decode cX10_isLower 74 = .ok (.istore 6, 2) := by decide +kernel
theorem dX10_isLower_76 : decode cX10_isLower 76 = .ok (.iload 5, 2) := by decide +kernel
theorem dX10_isLower_78 : decode cX10_isLower 78 = .ok (.iload 6, 2) := by decide +kernel
theorem dX10_isLower_80 : decode cX10_isLower 80 = .ok (.if_icmp .eq 16, 3) := by decide +kernel
theorem dX10_isLower_83 : decode cX10_isLower 83 = .ok (.iload 5, 2) := by decide +kernel
theorem dX10_isLower_85 : decode cX10_isLower 85 = .ok (.iload 6, 2) := by decide +kernel
theorem dX10_isLower_87 : decode cX10_isLower 87 = .ok (.if_icmp .ge 7, 3) := by decide +kernel
theorem dX10_isLower_90 : decode cX10_isLower 90 = .ok (.iconst 1, 1) := by decide +kernel
theorem dX10_isLower_91 : decode cX10_isLower 91 = .ok (.goto 4, 3) := by decide +kernel
theorem dX10_isLower_94 : decode cX10_isLower 94 = .ok (.iconst 0, 1) := by decide +kernel
theorem dX10_isLower_95 : decode cX10_isLower 95 = .ok (.ireturn, 1) := by decide +kernel
theorem dX10_isLower_96 : decode cX10_isLower 96 = .ok (.iinc 4 1, 3) := by decide +kernel
theorem dX10_isLower_99 : decode cX10_isLower 99 = .ok (.goto (-96), 3) := by decide +kernel
theorem dX10_isLower_102 : decode cX10_isLower 102 = .ok (.iconst 0, 1) := by decide +kernel
theorem dX10_isLower_103 : decode cX10_isLower 103 = .ok (.ireturn, 1) := by decide +kernel
theorem dX10_takes_0 : decode cX10_takes 0 = .ok (.iconst 0, 1) := by decide +kernel
theorem dX10_takes_1 : decode cX10_takes 1 = .ok (.istore 4, 2) := by decide +kernel
theorem dX10_takes_3 : decode cX10_takes 3 = .ok (.iload_n 2, 1) := by decide +kernel
theorem dX10_takes_4 : decode cX10_takes 4 = .ok (.iload 4, 2) := by decide +kernel
theorem dX10_takes_6 : decode cX10_takes 6 = .ok (.iadd, 1) := by decide +kernel
theorem dX10_takes_7 : decode cX10_takes 7 = .ok (.iload_n 3, 1) := by decide +kernel
theorem dX10_takes_8 : decode cX10_takes 8 = .ok (.if_icmp .ge 70, 3) := by decide +kernel
theorem dX10_takes_11 : decode cX10_takes 11 = .ok (.aload_n 0, 1) := by decide +kernel
theorem dX10_takes_12 : decode cX10_takes 12 = .ok (.getfield 92, 3) := by decide +kernel
theorem dX10_takes_15 : decode cX10_takes 15 = .ok (.bipush 8, 2) := by decide +kernel
theorem dX10_takes_17 : decode cX10_takes 17 = .ok (.iload_n 2, 1) := by decide +kernel
theorem dX10_takes_18 : decode cX10_takes 18 = .ok (.imul, 1) := by decide +kernel
theorem dX10_takes_19 : decode cX10_takes 19 = .ok (.iload_n 2, 1) := by decide +kernel
theorem dX10_takes_20 : decode cX10_takes 20 = .ok (.iadd, 1) := by decide +kernel
theorem dX10_takes_21 : decode cX10_takes 21 = .ok (.iload 4, 2) := by decide +kernel
theorem dX10_takes_23 : decode cX10_takes 23 = .ok (.iadd, 1) := by decide +kernel
theorem dX10_takes_24 : decode cX10_takes 24 = .ok (.iload 4, 2) := by decide +kernel
theorem dX10_takes_26 : decode cX10_takes 26 = .ok (.aload_n 0, 1) := by decide +kernel
theorem dX10_takes_27 : decode cX10_takes 27 = .ok (.getfield 55, 3) := by decide +kernel
theorem dX10_takes_30 : decode cX10_takes 30 = .ok (.iload_n 1, 1) := by decide +kernel
theorem dX10_takes_31 : decode cX10_takes 31 = .ok (.iaload, 1) := by decide +kernel
theorem dX10_takes_32 : decode cX10_takes 32 = .ok (.if_icmp .ge 18, 3) := by decide +kernel
theorem dX10_takes_35 : decode cX10_takes 35 = .ok (.aload_n 0, 1) := by decide +kernel
theorem dX10_takes_36 : decode cX10_takes 36 = .ok (.getfield 58, 3) := by decide +kernel
theorem dX10_takes_39 : decode cX10_takes 39 = .ok (.bipush 8, 2) := by decide +kernel
theorem dX10_takes_41 : decode cX10_takes 41 = .ok (.iload_n 1, 1) := by decide +kernel
theorem dX10_takes_42 : decode cX10_takes 42 = .ok (.imul, 1) := by decide +kernel
theorem dX10_takes_43 : decode cX10_takes 43 = .ok (.iload 4, 2) := by decide +kernel
theorem dX10_takes_45 : decode cX10_takes 45 = .ok (.iadd, 1) := by decide +kernel
theorem dX10_takes_46 : decode cX10_takes 46 = .ok (.iaload, 1) := by decide +kernel
theorem dX10_takes_47 : decode cX10_takes 47 = .ok (.goto 24, 3) := by decide +kernel
theorem dX10_takes_50 : decode cX10_takes 50 = .ok (.aload_n 0, 1) := by decide +kernel
theorem dX10_takes_51 : decode cX10_takes 51 = .ok (.getfield 92, 3) := by decide +kernel
theorem dX10_takes_54 : decode cX10_takes 54 = .ok (.bipush 8, 2) := by decide +kernel
theorem dX10_takes_56 : decode cX10_takes 56 = .ok (.iload_n 2, 1) := by decide +kernel
theorem dX10_takes_57 : decode cX10_takes 57 = .ok (.aload_n 0, 1) := by decide +kernel
theorem dX10_takes_58 : decode cX10_takes 58 = .ok (.getfield 55, 3) := by decide +kernel
theorem dX10_takes_61 : decode cX10_takes 61 = .ok (.iload_n 1, 1) := by decide +kernel
theorem dX10_takes_62 : decode cX10_takes 62 = .ok (.iaload, 1) := by decide +kernel
theorem dX10_takes_63 : decode cX10_takes 63 = .ok (.iadd, 1) := by decide +kernel
theorem dX10_takes_64 : decode cX10_takes 64 = .ok (.imul, 1) := by decide +kernel
theorem dX10_takes_65 : decode cX10_takes 65 = .ok (.iload_n 2, 1) := by decide +kernel
theorem dX10_takes_66 : decode cX10_takes 66 = .ok (.iadd, 1) := by decide +kernel
theorem dX10_takes_67 : decode cX10_takes 67 = .ok (.iload 4, 2) := by decide +kernel
theorem dX10_takes_69 : decode cX10_takes 69 = .ok (.iadd, 1) := by decide +kernel
theorem dX10_takes_70 : decode cX10_takes 70 = .ok (.iaload, 1) := by decide +kernel
theorem dX10_takes_71 : decode cX10_takes 71 = .ok (.iastore, 1) := by decide +kernel
theorem dX10_takes_72 : decode cX10_takes 72 = .ok (.iinc 4 1, 3) := by decide +kernel
theorem dX10_takes_75 : decode cX10_takes 75 = .ok (.goto (-72), 3) := by decide +kernel
theorem dX10_takes_78 : decode cX10_takes 78 = .ok (.return_, 1) := by decide +kernel
theorem dX10_reads_0 : decode cX10_reads 0 = .ok (.aload_n 0, 1) := by decide +kernel
theorem dX10_reads_1 : decode cX10_reads 1 = .ok (.getfield 16, 3) := by decide +kernel
theorem dX10_reads_4 : decode cX10_reads 4 = .ok (.iload_n 1, 1) := by decide +kernel
theorem dX10_reads_5 : decode cX10_reads 5 = .ok (.iaload, 1) := by decide +kernel
theorem dX10_reads_6 : decode cX10_reads 6 = .ok (.istore 4, 2) := by decide +kernel
theorem dX10_reads_8 : decode cX10_reads 8 = .ok (.iconst 0, 1) := by decide +kernel
theorem dX10_reads_9 : decode cX10_reads 9 = .ok (.istore 5, 2) := by decide +kernel
theorem dX10_reads_11 : decode cX10_reads 11 = .ok (.iload 5, 2) := by decide +kernel
theorem dX10_reads_13 : decode cX10_reads 13 = .ok (.iload 4, 2) := by decide +kernel
theorem dX10_reads_15 : decode cX10_reads 15 = .ok (.if_icmp .ge 147, 3) := by decide +kernel
theorem dX10_reads_18 : decode cX10_reads 18 = .ok (.iload_n 1, 1) := by decide +kernel
theorem dX10_reads_19 : decode cX10_reads 19 = .ok (.iload_n 2, 1) := by decide +kernel
theorem dX10_reads_20 : decode cX10_reads 20 = .ok (.iload 5, 2) := by decide +kernel
theorem dX10_reads_22 : decode cX10_reads 22 = .ok (.invokestatic 153, 3) := by decide +kernel
theorem dX10_reads_25 : decode cX10_reads 25 = .ok (.istore 6, 2) := by decide +kernel
theorem dX10_reads_27 : decode cX10_reads 27 = .ok (.aload_n 0, 1) := by decide +kernel
theorem dX10_reads_28 : decode cX10_reads 28 = .ok (.getfield 95, 3) := by decide +kernel
theorem dX10_reads_31 : decode cX10_reads 31 = .ok (.iload 5, 2) := by decide +kernel
theorem dX10_reads_33 : decode cX10_reads 33 = .ok (.aload_n 0, 1) := by decide +kernel
theorem dX10_reads_34 : decode cX10_reads 34 = .ok (.iload 6, 2) := by decide +kernel
theorem dX10_reads_36 : decode cX10_reads 36 = .ok (.invokevirtual 157, 3) := by decide +kernel
theorem dX10_reads_39 : decode cX10_reads 39 = .ok (.bastore, 1) := by decide +kernel
theorem dX10_reads_40 : decode cX10_reads 40 = .ok (.aload_n 0, 1) := by decide +kernel
theorem dX10_reads_41 : decode cX10_reads 41 = .ok (.getfield 101, 3) := by decide +kernel
theorem dX10_reads_44 : decode cX10_reads 44 = .ok (.iload 5, 2) := by decide +kernel
theorem dX10_reads_46 : decode cX10_reads 46 = .ok (.iconst 0, 1) := by decide +kernel
theorem dX10_reads_47 : decode cX10_reads 47 = .ok (.iastore, 1) := by decide +kernel
theorem dX10_reads_48 : decode cX10_reads 48 = .ok (.iconst 0, 1) := by decide +kernel
theorem dX10_reads_49 : decode cX10_reads 49 = .ok (.istore 7, 2) := by decide +kernel
theorem dX10_reads_51 : decode cX10_reads 51 = .ok (.iload 7, 2) := by decide +kernel
theorem dX10_reads_53 : decode cX10_reads 53 = .ok (.bipush 26, 2) := by decide +kernel
theorem dX10_reads_55 : decode cX10_reads 55 = .ok (.if_icmp .ge 101, 3) := by decide +kernel
theorem dX10_reads_58 : decode cX10_reads 58 = .ok (.iconst 0, 1) := by decide +kernel
theorem dX10_reads_59 : decode cX10_reads 59 = .ok (.istore 8, 2) := by decide +kernel
theorem dX10_reads_61 : decode cX10_reads 61 = .ok (.iconst 0, 1) := by decide +kernel
theorem dX10_reads_62 : decode cX10_reads 62 = .ok (.istore 9, 2) := by decide +kernel
theorem dX10_reads_64 : decode cX10_reads 64 = .ok (.iload 9, 2) := by decide +kernel
theorem dX10_reads_66 : decode cX10_reads 66 = .ok (.iconst 3, 1) := by decide +kernel
theorem dX10_reads_67 : decode cX10_reads 67 = .ok (.if_icmp .ge 48, 3) := by decide +kernel
theorem dX10_reads_70 : decode cX10_reads 70 = .ok (.iload 8, 2) := by decide +kernel
theorem dX10_reads_72 : decode cX10_reads 72 = .ok (.iload_n 3, 1) := by decide +kernel
theorem dX10_reads_73 : decode cX10_reads 73 = .ok (.iload 9, 2) := by decide +kernel
theorem dX10_reads_75 : decode cX10_reads 75 = .ok (.ishr, 1) := by decide +kernel
theorem dX10_reads_76 : decode cX10_reads 76 = .ok (.iconst 1, 1) := by decide +kernel
theorem dX10_reads_77 : decode cX10_reads 77 = .ok (.iand, 1) := by decide +kernel
theorem dX10_reads_78 : decode cX10_reads 78 = .ok (.iconst 1, 1) := by decide +kernel
theorem dX10_reads_79 : decode cX10_reads 79 = .ok (.if_icmp .ne 26, 3) := by decide +kernel
theorem dX10_reads_82 : decode cX10_reads 82 = .ok (.aload_n 0, 1) := by decide +kernel
theorem dX10_reads_83 : decode cX10_reads 83 = .ok (.getfield 49, 3) := by decide +kernel
theorem dX10_reads_86 : decode cX10_reads 86 = .ok (.bipush 26, 2) := by decide +kernel
theorem dX10_reads_88 : decode cX10_reads 88 = .ok (.sipush 320, 3) := by decide +kernel
theorem dX10_reads_91 : decode cX10_reads 91 = .ok (.iload 9, 2) := by decide +kernel
theorem dX10_reads_93 : decode cX10_reads 93 = .ok (.imul, 1) := by decide +kernel
theorem dX10_reads_94 : decode cX10_reads 94 = .ok (.iload 6, 2) := by decide +kernel
theorem dX10_reads_96 : decode cX10_reads 96 = .ok (.iadd, 1) := by decide +kernel
theorem dX10_reads_97 : decode cX10_reads 97 = .ok (.imul, 1) := by decide +kernel
theorem dX10_reads_98 : decode cX10_reads 98 = .ok (.iload 7, 2) := by decide +kernel
theorem dX10_reads_100 : decode cX10_reads 100 = .ok (.iadd, 1) := by decide +kernel
theorem dX10_reads_101 : decode cX10_reads 101 = .ok (.iaload, 1) := by decide +kernel
theorem dX10_reads_102 : decode cX10_reads 102 = .ok (.goto 4, 3) := by decide +kernel
theorem dX10_reads_105 : decode cX10_reads 105 = .ok (.iconst 0, 1) := by decide +kernel
theorem dX10_reads_106 : decode cX10_reads 106 = .ok (.iadd, 1) := by decide +kernel
theorem dX10_reads_107 : decode cX10_reads 107 = .ok (.istore 8, 2) := by decide +kernel
theorem dX10_reads_109 : decode cX10_reads 109 = .ok (.iinc 9 1, 3) := by decide +kernel
theorem dX10_reads_112 : decode cX10_reads 112 = .ok (.goto (-48), 3) := by decide +kernel
theorem dX10_reads_115 : decode cX10_reads 115 = .ok (.aload_n 0, 1) := by decide +kernel
theorem dX10_reads_116 : decode cX10_reads 116 = .ok (.getfield 98, 3) := by decide +kernel
theorem dX10_reads_119 : decode cX10_reads 119 = .ok (.bipush 26, 2) := by decide +kernel
theorem dX10_reads_121 : decode cX10_reads 121 = .ok (.iload 5, 2) := by decide +kernel
theorem dX10_reads_123 : decode cX10_reads 123 = .ok (.imul, 1) := by decide +kernel
theorem dX10_reads_124 : decode cX10_reads 124 = .ok (.iload 7, 2) := by decide +kernel
theorem dX10_reads_126 : decode cX10_reads 126 = .ok (.iadd, 1) := by decide +kernel
theorem dX10_reads_127 : decode cX10_reads 127 = .ok (.iload 8, 2) := by decide +kernel
theorem dX10_reads_129 : decode cX10_reads 129 = .ok (.iastore, 1) := by decide +kernel
theorem dX10_reads_130 : decode cX10_reads 130 = .ok (.aload_n 0, 1) := by decide +kernel
theorem dX10_reads_131 : decode cX10_reads 131 = .ok (.getfield 101, 3) := by decide +kernel
theorem dX10_reads_134 : decode cX10_reads 134 = .ok (.iload 5, 2) := by decide +kernel
theorem dX10_reads_136 : decode cX10_reads 136 = .ok (.dup2, 1) := by decide +kernel
theorem dX10_reads_137 : decode cX10_reads 137 = .ok (.iaload, 1) := by decide +kernel
theorem dX10_reads_138 : decode cX10_reads 138 = .ok (.iload 8, 2) := by decide +kernel
theorem dX10_reads_140 : decode cX10_reads 140 = .ok (.ifCond .le 7, 3) := by decide +kernel
theorem dX10_reads_143 : decode cX10_reads 143 = .ok (.iconst 1, 1) := by decide +kernel
theorem dX10_reads_144 : decode cX10_reads 144 = .ok (.goto 4, 3) := by decide +kernel
theorem dX10_reads_147 : decode cX10_reads 147 = .ok (.iconst 0, 1) := by decide +kernel
theorem dX10_reads_148 : decode cX10_reads 148 = .ok (.iadd, 1) := by decide +kernel
theorem dX10_reads_149 : decode cX10_reads 149 = .ok (.iastore, 1) := by decide +kernel
theorem dX10_reads_150 : decode cX10_reads 150 = .ok (.iinc 7 1, 3) := by decide +kernel
theorem dX10_reads_153 : decode cX10_reads 153 = .ok (.goto (-102), 3) := by decide +kernel
theorem dX10_reads_156 : decode cX10_reads 156 = .ok (.iinc 5 1, 3) := by decide +kernel
theorem dX10_reads_159 : decode cX10_reads 159 = .ok (.goto (-148), 3) := by decide +kernel
theorem dX10_reads_162 : decode cX10_reads 162 = .ok (.aload_n 0, 1) := by decide +kernel
theorem dX10_reads_163 : decode cX10_reads 163 = .ok (.getfield 83, 3) := by decide +kernel
theorem dX10_reads_166 : decode cX10_reads 166 = .ok (.iload 4, 2) := by decide +kernel
theorem dX10_reads_168 : decode cX10_reads 168 = .ok (.iconst 0, 1) := by decide +kernel
theorem dX10_reads_169 : decode cX10_reads 169 = .ok (.iastore, 1) := by decide +kernel
theorem dX10_reads_170 : decode cX10_reads 170 = .ok (.aload_n 0, 1) := by decide +kernel
theorem dX10_reads_171 : decode cX10_reads 171 = .ok (.getfield 89, 3) := by decide +kernel
theorem dX10_reads_174 : decode cX10_reads 174 = .ok (.iload 4, 2) := by decide +kernel
theorem dX10_reads_176 : decode cX10_reads 176 = .ok (.iconst 1, 1) := by decide +kernel
theorem dX10_reads_177 : decode cX10_reads 177 = .ok (.iastore, 1) := by decide +kernel
theorem dX10_reads_178 : decode cX10_reads 178 = .ok (.iload 4, 2) := by decide +kernel
theorem dX10_reads_180 : decode cX10_reads 180 = .ok (.iconst 1, 1) := by decide +kernel
theorem dX10_reads_181 : decode cX10_reads 181 = .ok (.isub, 1) := by decide +kernel
theorem dX10_reads_182 : decode cX10_reads 182 = .ok (.istore 5, 2) := by decide +kernel
theorem dX10_reads_184 : decode cX10_reads 184 = .ok (.iload 5, 2) := by decide +kernel
theorem dX10_reads_186 : decode cX10_reads 186 = .ok (.ifCond .lt 317, 3) := by decide +kernel
theorem dX10_reads_189 : decode cX10_reads 189 = .ok (.aload_n 0, 1) := by decide +kernel
theorem dX10_reads_190 : decode cX10_reads 190 = .ok (.getfield 83, 3) := by decide +kernel
theorem dX10_reads_193 : decode cX10_reads 193 = .ok (.iload 5, 2) := by decide +kernel
theorem dX10_reads_195 : decode cX10_reads 195 = .ok (.iconst (-1), 1) := by decide +kernel
theorem dX10_reads_196 : decode cX10_reads 196 = .ok (.iastore, 1) := by decide +kernel
theorem dX10_reads_197 : decode cX10_reads 197 = .ok (.aload_n 0, 1) := by decide +kernel
theorem dX10_reads_198 : decode cX10_reads 198 = .ok (.getfield 89, 3) := by decide +kernel
theorem dX10_reads_201 : decode cX10_reads 201 = .ok (.iload 5, 2) := by decide +kernel
theorem dX10_reads_203 : decode cX10_reads 203 = .ok (.iconst 0, 1) := by decide +kernel
theorem dX10_reads_204 : decode cX10_reads 204 = .ok (.iastore, 1) := by decide +kernel
theorem dX10_reads_205 : decode cX10_reads 205 = .ok (.aload_n 0, 1) := by decide +kernel
theorem dX10_reads_206 : decode cX10_reads 206 = .ok (.getfield 95, 3) := by decide +kernel
theorem dX10_reads_209 : decode cX10_reads 209 = .ok (.iload 5, 2) := by decide +kernel
theorem dX10_reads_211 : decode cX10_reads 211 = .ok (.baload, 1) := by decide +kernel
theorem dX10_reads_212 : decode cX10_reads 212 = .ok (.ifCond .eq 96, 3) := by decide +kernel
theorem dX10_reads_215 : decode cX10_reads 215 = .ok (.aload_n 0, 1) := by decide +kernel
theorem dX10_reads_216 : decode cX10_reads 216 = .ok (.getfield 83, 3) := by decide +kernel
theorem dX10_reads_219 : decode cX10_reads 219 = .ok (.iload 5, 2) := by decide +kernel
theorem dX10_reads_221 : decode cX10_reads 221 = .ok (.aload_n 0, 1) := by decide +kernel
theorem dX10_reads_222 : decode cX10_reads 222 = .ok (.getfield 83, 3) := by decide +kernel
theorem dX10_reads_225 : decode cX10_reads 225 = .ok (.iload 5, 2) := by decide +kernel
theorem dX10_reads_227 : decode cX10_reads 227 = .ok (.iconst 1, 1) := by decide +kernel
theorem dX10_reads_228 : decode cX10_reads 228 = .ok (.iadd, 1) := by decide +kernel
theorem dX10_reads_229 : decode cX10_reads 229 = .ok (.iaload, 1) := by decide +kernel
theorem dX10_reads_230 : decode cX10_reads 230 = .ok (.iastore, 1) := by decide +kernel
theorem dX10_reads_231 : decode cX10_reads 231 = .ok (.aload_n 0, 1) := by decide +kernel
theorem dX10_reads_232 : decode cX10_reads 232 = .ok (.getfield 89, 3) := by decide +kernel
theorem dX10_reads_235 : decode cX10_reads 235 = .ok (.iload 5, 2) := by decide +kernel
theorem dX10_reads_237 : decode cX10_reads 237 = .ok (.aload_n 0, 1) := by decide +kernel
theorem dX10_reads_238 : decode cX10_reads 238 = .ok (.getfield 89, 3) := by decide +kernel
theorem dX10_reads_241 : decode cX10_reads 241 = .ok (.iload 5, 2) := by decide +kernel
theorem dX10_reads_243 : decode cX10_reads 243 = .ok (.iconst 1, 1) := by decide +kernel
theorem dX10_reads_244 : decode cX10_reads 244 = .ok (.iadd, 1) := by decide +kernel
theorem dX10_reads_245 : decode cX10_reads 245 = .ok (.iaload, 1) := by decide +kernel
theorem dX10_reads_246 : decode cX10_reads 246 = .ok (.iastore, 1) := by decide +kernel
theorem dX10_reads_247 : decode cX10_reads 247 = .ok (.aload_n 0, 1) := by decide +kernel
theorem dX10_reads_248 : decode cX10_reads 248 = .ok (.getfield 92, 3) := by decide +kernel
theorem dX10_reads_251 : decode cX10_reads 251 = .ok (.bipush 8, 2) := by decide +kernel
theorem dX10_reads_253 : decode cX10_reads 253 = .ok (.iload 5, 2) := by decide +kernel
theorem dX10_reads_255 : decode cX10_reads 255 = .ok (.imul, 1) := by decide +kernel
theorem dX10_reads_256 : decode cX10_reads 256 = .ok (.iload 5, 2) := by decide +kernel
theorem dX10_reads_258 : decode cX10_reads 258 = .ok (.iadd, 1) := by decide +kernel
theorem dX10_reads_259 : decode cX10_reads 259 = .ok (.iconst (-1), 1) := by decide +kernel
theorem dX10_reads_260 : decode cX10_reads 260 = .ok (.iastore, 1) := by decide +kernel
theorem dX10_reads_261 : decode cX10_reads 261 = .ok (.iload 5, 2) := by decide +kernel
theorem dX10_reads_263 : decode cX10_reads 263 = .ok (.iconst 1, 1) := by decide +kernel
theorem dX10_reads_264 : decode cX10_reads 264 = .ok (.iadd, 1) := by decide +kernel
theorem dX10_reads_265 : decode cX10_reads 265 = .ok (.istore 6, 2) := by decide +kernel
theorem dX10_reads_267 : decode cX10_reads 267 = .ok (.iload 6, 2) := by decide +kernel
theorem dX10_reads_269 : decode cX10_reads 269 = .ok (.iload 4, 2) := by decide +kernel
theorem dX10_reads_271 : decode cX10_reads 271 = .ok (.if_icmp .ge 37, 3) := by decide +kernel
theorem dX10_reads_274 : decode cX10_reads 274 = .ok (.aload_n 0, 1) := by decide +kernel
theorem dX10_reads_275 : decode cX10_reads 275 = .ok (.getfield 92, 3) := by decide +kernel
theorem dX10_reads_278 : decode cX10_reads 278 = .ok (.bipush 8, 2) := by decide +kernel
theorem dX10_reads_280 : decode cX10_reads 280 = .ok (.iload 5, 2) := by decide +kernel
theorem dX10_reads_282 : decode cX10_reads 282 = .ok (.imul, 1) := by decide +kernel
theorem dX10_reads_283 : decode cX10_reads 283 = .ok (.iload 6, 2) := by decide +kernel
theorem dX10_reads_285 : decode cX10_reads 285 = .ok (.iadd, 1) := by decide +kernel
theorem dX10_reads_286 : decode cX10_reads 286 = .ok (.aload_n 0, 1) := by decide +kernel
theorem dX10_reads_287 : decode cX10_reads 287 = .ok (.getfield 92, 3) := by decide +kernel
theorem dX10_reads_290 : decode cX10_reads 290 = .ok (.bipush 8, 2) := by decide +kernel
theorem dX10_reads_292 : decode cX10_reads 292 = .ok (.iload 5, 2) := by decide +kernel
theorem dX10_reads_294 : decode cX10_reads 294 = .ok (.iconst 1, 1) := by decide +kernel
theorem dX10_reads_295 : decode cX10_reads 295 = .ok (.iadd, 1) := by decide +kernel
theorem dX10_reads_296 : decode cX10_reads 296 = .ok (.imul, 1) := by decide +kernel
theorem dX10_reads_297 : decode cX10_reads 297 = .ok (.iload 6, 2) := by decide +kernel
theorem dX10_reads_299 : decode cX10_reads 299 = .ok (.iadd, 1) := by decide +kernel
theorem dX10_reads_300 : decode cX10_reads 300 = .ok (.iaload, 1) := by decide +kernel
theorem dX10_reads_301 : decode cX10_reads 301 = .ok (.iastore, 1) := by decide +kernel
theorem dX10_reads_302 : decode cX10_reads 302 = .ok (.iinc 6 1, 3) := by decide +kernel
theorem dX10_reads_305 : decode cX10_reads 305 = .ok (.goto (-38), 3) := by decide +kernel
theorem dX10_reads_308 : decode cX10_reads 308 = .ok (.iconst 0, 1) := by decide +kernel
theorem dX10_reads_309 : decode cX10_reads 309 = .ok (.istore 6, 2) := by decide +kernel
theorem dX10_reads_311 : decode cX10_reads 311 = .ok (.iload 6, 2) := by decide +kernel
theorem dX10_reads_313 : decode cX10_reads 313 = .ok (.aload_n 0, 1) := by decide +kernel
theorem dX10_reads_314 : decode cX10_reads 314 = .ok (.getfield 163, 3) := by decide +kernel
theorem dX10_reads_317 : decode cX10_reads 317 = .ok (.if_icmp .ge 180, 3) := by decide +kernel
theorem dX10_reads_320 : decode cX10_reads 320 = .ok (.aload_n 0, 1) := by decide +kernel
theorem dX10_reads_321 : decode cX10_reads 321 = .ok (.getfield 95, 3) := by decide +kernel
theorem dX10_reads_324 : decode cX10_reads 324 = .ok (.iload 5, 2) := by decide +kernel
theorem dX10_reads_326 : decode cX10_reads 326 = .ok (.baload, 1) := by decide +kernel
theorem dX10_reads_327 : decode cX10_reads 327 = .ok (.ifCond .ne 170, 3) := by decide +kernel
theorem dX10_reads_330 : decode cX10_reads 330 = .ok (.aload_n 0, 1) := by decide +kernel
theorem dX10_reads_331 : decode cX10_reads 331 = .ok (.iload 6, 2) := by decide +kernel
theorem dX10_reads_333 : decode cX10_reads 333 = .ok (.iload 5, 2) := by decide +kernel
theorem dX10_reads_335 : decode cX10_reads 335 = .ok (.iload 4, 2) := by decide +kernel
theorem dX10_reads_337 : decode cX10_reads 337 = .ok (.invokevirtual 169, 3) := by decide +kernel
theorem dX10_reads_340 : decode cX10_reads 340 = .ok (.istore 7, 2) := by decide +kernel
theorem dX10_reads_342 : decode cX10_reads 342 = .ok (.iload 7, 2) := by decide +kernel
theorem dX10_reads_344 : decode cX10_reads 344 = .ok (.iconst (-1), 1) := by decide +kernel
theorem dX10_reads_345 : decode cX10_reads 345 = .ok (.if_icmp .ne 7, 3) := by decide +kernel
theorem dX10_reads_348 : decode cX10_reads 348 = .ok (.iconst (-1), 1) := by decide +kernel
theorem dX10_reads_349 : decode cX10_reads 349 = .ok (.goto 18, 3) := by decide +kernel
theorem dX10_reads_352 : decode cX10_reads 352 = .ok (.aload_n 0, 1) := by decide +kernel
theorem dX10_reads_353 : decode cX10_reads 353 = .ok (.getfield 83, 3) := by decide +kernel
theorem dX10_reads_356 : decode cX10_reads 356 = .ok (.iload 5, 2) := by decide +kernel
theorem dX10_reads_358 : decode cX10_reads 358 = .ok (.aload_n 0, 1) := by decide +kernel
theorem dX10_reads_359 : decode cX10_reads 359 = .ok (.getfield 55, 3) := by decide +kernel
theorem dX10_reads_362 : decode cX10_reads 362 = .ok (.iload 6, 2) := by decide +kernel
theorem dX10_reads_364 : decode cX10_reads 364 = .ok (.iaload, 1) := by decide +kernel
theorem dX10_reads_365 : decode cX10_reads 365 = .ok (.iadd, 1) := by decide +kernel
theorem dX10_reads_366 : decode cX10_reads 366 = .ok (.iaload, 1) := by decide +kernel
theorem dX10_reads_367 : decode cX10_reads 367 = .ok (.istore 8, 2) := by decide +kernel
theorem dX10_reads_369 : decode cX10_reads 369 = .ok (.iload 8, 2) := by decide +kernel
theorem dX10_reads_371 : decode cX10_reads 371 = .ok (.iconst (-1), 1) := by decide +kernel
theorem dX10_reads_372 : decode cX10_reads 372 = .ok (.if_icmp .eq 119, 3) := by decide +kernel
theorem dX10_reads_375 : decode cX10_reads 375 = .ok (.iload 7, 2) := by decide +kernel
theorem dX10_reads_377 : decode cX10_reads 377 = .ok (.iload 8, 2) := by decide +kernel
theorem dX10_reads_379 : decode cX10_reads 379 = .ok (.iadd, 1) := by decide +kernel
theorem dX10_reads_380 : decode cX10_reads 380 = .ok (.aload_n 0, 1) := by decide +kernel
theorem dX10_reads_381 : decode cX10_reads 381 = .ok (.getfield 83, 3) := by decide +kernel
theorem dX10_reads_384 : decode cX10_reads 384 = .ok (.iload 5, 2) := by decide +kernel
theorem dX10_reads_386 : decode cX10_reads 386 = .ok (.iaload, 1) := by decide +kernel
theorem dX10_reads_387 : decode cX10_reads 387 = .ok (.if_icmp .lt 104, 3) := by decide +kernel
theorem dX10_reads_390 : decode cX10_reads 390 = .ok (.iload 7, 2) := by decide +kernel
theorem dX10_reads_392 : decode cX10_reads 392 = .ok (.iload 8, 2) := by decide +kernel
theorem dX10_reads_394 : decode cX10_reads 394 = .ok (.iadd, 1) := by decide +kernel
theorem dX10_reads_395 : decode cX10_reads 395 = .ok (.aload_n 0, 1) := by decide +kernel
theorem dX10_reads_396 : decode cX10_reads 396 = .ok (.getfield 83, 3) := by decide +kernel
theorem dX10_reads_399 : decode cX10_reads 399 = .ok (.iload 5, 2) := by decide +kernel
theorem dX10_reads_401 : decode cX10_reads 401 = .ok (.iaload, 1) := by decide +kernel
theorem dX10_reads_402 : decode cX10_reads 402 = .ok (.if_icmp .le 7, 3) := by decide +kernel
theorem dX10_reads_405 : decode cX10_reads 405 = .ok (.iconst 1, 1) := by decide +kernel
theorem dX10_reads_406 : decode cX10_reads 406 = .ok (.goto 4, 3) := by decide +kernel
theorem dX10_reads_409 : decode cX10_reads 409 = .ok (.iconst 0, 1) := by decide +kernel
theorem dX10_reads_410 : decode cX10_reads 410 = .ok (.istore 9, 2) := by decide +kernel
theorem dX10_reads_412 : decode cX10_reads 412 = .ok (.aload_n 0, 1) := by decide +kernel
theorem dX10_reads_413 : decode cX10_reads 413 = .ok (.getfield 89, 3) := by decide +kernel
theorem dX10_reads_416 : decode cX10_reads 416 = .ok (.iload 5, 2) := by decide +kernel
theorem dX10_reads_418 : decode cX10_reads 418 = .ok (.iload 9, 2) := by decide +kernel
theorem dX10_reads_420 : decode cX10_reads 420 = .ok (.ifCond .eq 7, 3) := by decide +kernel
theorem dX10_reads_423 : decode cX10_reads 423 = .ok (.iconst 0, 1) := by decide +kernel
theorem dX10_reads_424 : decode cX10_reads 424 = .ok (.goto 10, 3) := by decide +kernel
theorem dX10_reads_427 : decode cX10_reads 427 = .ok (.aload_n 0, 1) := by decide +kernel
theorem dX10_reads_428 : decode cX10_reads 428 = .ok (.getfield 89, 3) := by decide +kernel
theorem dX10_reads_431 : decode cX10_reads 431 = .ok (.iload 5, 2) := by decide +kernel
theorem dX10_reads_433 : decode cX10_reads 433 = .ok (.iaload, 1) := by decide +kernel
theorem dX10_reads_434 : decode cX10_reads 434 = .ok (.aload_n 0, 1) := by decide +kernel
theorem dX10_reads_435 : decode cX10_reads 435 = .ok (.getfield 89, 3) := by decide +kernel
theorem dX10_reads_438 : decode cX10_reads 438 = .ok (.iload 5, 2) := by decide +kernel
theorem dX10_reads_440 : decode cX10_reads 440 = .ok (.aload_n 0, 1) := by decide +kernel
theorem dX10_reads_441 : decode cX10_reads 441 = .ok (.getfield 55, 3) := by decide +kernel
theorem dX10_reads_444 : decode cX10_reads 444 = .ok (.iload 6, 2) := by decide +kernel
theorem dX10_reads_446 : decode cX10_reads 446 = .ok (.iaload, 1) := by decide +kernel
theorem dX10_reads_447 : decode cX10_reads 447 = .ok (.iadd, 1) := by decide +kernel
theorem dX10_reads_448 : decode cX10_reads 448 = .ok (.iaload, 1) := by decide +kernel
theorem dX10_reads_449 : decode cX10_reads 449 = .ok (.iadd, 1) := by decide +kernel
theorem dX10_reads_450 : decode cX10_reads 450 = .ok (.iastore, 1) := by decide +kernel
theorem dX10_reads_451 : decode cX10_reads 451 = .ok (.aload_n 0, 1) := by decide +kernel
theorem dX10_reads_452 : decode cX10_reads 452 = .ok (.getfield 83, 3) := by decide +kernel
theorem dX10_reads_455 : decode cX10_reads 455 = .ok (.iload 5, 2) := by decide +kernel
theorem dX10_reads_457 : decode cX10_reads 457 = .ok (.iload 7, 2) := by decide +kernel
theorem dX10_reads_459 : decode cX10_reads 459 = .ok (.iload 8, 2) := by decide +kernel
theorem dX10_reads_461 : decode cX10_reads 461 = .ok (.iadd, 1) := by decide +kernel
theorem dX10_reads_462 : decode cX10_reads 462 = .ok (.iastore, 1) := by decide +kernel
theorem dX10_reads_463 : decode cX10_reads 463 = .ok (.iload 9, 2) := by decide +kernel
theorem dX10_reads_465 : decode cX10_reads 465 = .ok (.ifCond .ne 16, 3) := by decide +kernel
theorem dX10_reads_468 : decode cX10_reads 468 = .ok (.aload_n 0, 1) := by decide +kernel
theorem dX10_reads_469 : decode cX10_reads 469 = .ok (.iload 6, 2) := by decide +kernel
theorem dX10_reads_471 : decode cX10_reads 471 = .ok (.iload 5, 2) := by decide +kernel
theorem dX10_reads_473 : decode cX10_reads 473 = .ok (.iload 4, 2) := by decide +kernel
theorem dX10_reads_475 : decode cX10_reads 475 = .ok (.invokevirtual 172, 3) := by decide +kernel
theorem dX10_reads_478 : decode cX10_reads 478 = .ok (.ifCond .eq 13, 3) := by decide +kernel
theorem dX10_reads_481 : decode cX10_reads 481 = .ok (.aload_n 0, 1) := by decide +kernel
theorem dX10_reads_482 : decode cX10_reads 482 = .ok (.iload 6, 2) := by decide +kernel
theorem dX10_reads_484 : decode cX10_reads 484 = .ok (.iload 5, 2) := by decide +kernel
theorem dX10_reads_486 : decode cX10_reads 486 = .ok (.iload 4, 2) := by decide +kernel
theorem dX10_reads_488 : decode cX10_reads 488 = .ok (.invokevirtual 175, 3) := by decide +kernel
theorem dX10_reads_491 : decode cX10_reads 491 = .ok (.iinc 6 1, 3) := by decide +kernel
theorem dX10_reads_494 : decode cX10_reads 494 = .ok (.goto (-183), 3) := by decide +kernel
theorem dX10_reads_497 : decode cX10_reads 497 = .ok (.iinc 5 (-1), 3) := by decide +kernel
theorem dX10_reads_500 : decode cX10_reads 500 = .ok (.goto (-316), 3) := by decide +kernel
theorem dX10_reads_503 : decode cX10_reads 503 = .ok (.return_, 1) := by decide +kernel
theorem dX10_asks_0 : decode cX10_asks 0 = .ok (.aload_n 0, 1) := by decide +kernel
theorem dX10_asks_1 : decode cX10_asks 1 = .ok (.aload_n 0, 1) := by decide +kernel
theorem dX10_asks_2 : decode cX10_asks 2 = .ok (.iload_n 1, 1) := by decide +kernel
theorem dX10_asks_3 : decode cX10_asks 3 = .ok (.invokevirtual 133, 3) := by decide +kernel
theorem dX10_asks_6 : decode cX10_asks 6 = .ok (.ifCond .eq 31, 3) := by decide +kernel
theorem dX10_asks_9 : decode cX10_asks 9 = .ok (.iload_n 2, 1) := by decide +kernel
theorem dX10_asks_10 : decode cX10_asks 10 = .ok (.iconst 0, 1) := by decide +kernel
theorem dX10_asks_11 : decode cX10_asks 11 = .ok (.aload_n 0, 1) := by decide +kernel
theorem dX10_asks_12 : decode cX10_asks 12 = .ok (.getfield 13, 3) := by decide +kernel
theorem dX10_asks_15 : decode cX10_asks 15 = .ok (.aload_n 0, 1) := by decide +kernel
theorem dX10_asks_16 : decode cX10_asks 16 = .ok (.iload_n 1, 1) := by decide +kernel
theorem dX10_asks_17 : decode cX10_asks 17 = .ok (.invokevirtual 133, 3) := by decide +kernel
theorem dX10_asks_20 : decode cX10_asks 20 = .ok (.ifCond .eq 7, 3) := by decide +kernel
theorem dX10_asks_23 : decode cX10_asks 23 = .ok (.iload_n 1, 1) := by decide +kernel
theorem dX10_asks_24 : decode cX10_asks 24 = .ok (.goto 4, 3) := by decide +kernel
theorem dX10_asks_27 : decode cX10_asks 27 = .ok (.iconst 0, 1) := by decide +kernel
theorem dX10_asks_28 : decode cX10_asks 28 = .ok (.iaload, 1) := by decide +kernel
theorem dX10_asks_29 : decode cX10_asks 29 = .ok (.iconst 1, 1) := by decide +kernel
theorem dX10_asks_30 : decode cX10_asks 30 = .ok (.isub, 1) := by decide +kernel
theorem dX10_asks_31 : decode cX10_asks 31 = .ok (.invokestatic 129, 3) := by decide +kernel
theorem dX10_asks_34 : decode cX10_asks 34 = .ok (.ifCond .ne 7, 3) := by decide +kernel
theorem dX10_asks_37 : decode cX10_asks 37 = .ok (.iconst 1, 1) := by decide +kernel
theorem dX10_asks_38 : decode cX10_asks 38 = .ok (.goto 18, 3) := by decide +kernel
theorem dX10_asks_41 : decode cX10_asks 41 = .ok (.iload_n 3, 1) := by decide +kernel
theorem dX10_asks_42 : decode cX10_asks 42 = .ok (.iconst 0, 1) := by decide +kernel
theorem dX10_asks_43 : decode cX10_asks 43 = .ok (.bipush 7, 2) := by decide +kernel
theorem dX10_asks_45 : decode cX10_asks 45 = .ok (.invokestatic 129, 3) := by decide +kernel
theorem dX10_asks_48 : decode cX10_asks 48 = .ok (.ifCond .ne 7, 3) := by decide +kernel
theorem dX10_asks_51 : decode cX10_asks 51 = .ok (.iconst 2, 1) := by decide +kernel
theorem dX10_asks_52 : decode cX10_asks 52 = .ok (.goto 4, 3) := by decide +kernel
theorem dX10_asks_55 : decode cX10_asks 55 = .ok (.iconst 0, 1) := by decide +kernel
theorem dX10_asks_56 : decode cX10_asks 56 = .ok (.putfield 122, 3) := by decide +kernel
theorem dX10_asks_59 : decode cX10_asks 59 = .ok (.aload_n 0, 1) := by decide +kernel
theorem dX10_asks_60 : decode cX10_asks 60 = .ok (.getfield 122, 3) := by decide +kernel
theorem dX10_asks_63 : decode cX10_asks 63 = .ok (.ifCond .ne 10, 3) := by decide +kernel
theorem dX10_asks_66 : decode cX10_asks 66 = .ok (.aload_n 0, 1) := by decide +kernel
theorem dX10_asks_67 : decode cX10_asks 67 = .ok (.iload_n 1, 1) := by decide +kernel
theorem dX10_asks_68 : decode cX10_asks 68 = .ok (.iload_n 2, 1) := by decide +kernel
theorem dX10_asks_69 : decode cX10_asks 69 = .ok (.iload_n 3, 1) := by decide +kernel
theorem dX10_asks_70 : decode cX10_asks 70 = .ok (.invokevirtual 179, 3) := by decide +kernel
theorem dX10_asks_73 : decode cX10_asks 73 = .ok (.aload_n 0, 1) := by decide +kernel
theorem dX10_asks_74 : decode cX10_asks 74 = .ok (.getfield 122, 3) := by decide +kernel
theorem dX10_asks_77 : decode cX10_asks 77 = .ok (.ifCond .ne 7, 3) := by decide +kernel
theorem dX10_asks_80 : decode cX10_asks 80 = .ok (.iconst 1, 1) := by decide +kernel
theorem dX10_asks_81 : decode cX10_asks 81 = .ok (.goto 4, 3) := by decide +kernel
theorem dX10_asks_84 : decode cX10_asks 84 = .ok (.iconst 0, 1) := by decide +kernel
theorem dX10_asks_85 : decode cX10_asks 85 = .ok (.ireturn, 1) := by decide +kernel
theorem dX10_weight_0 : decode cX10_weight 0 = .ok (.aload_n 0, 1) := by decide +kernel
theorem dX10_weight_1 : decode cX10_weight 1 = .ok (.iload_n 1, 1) := by decide +kernel
theorem dX10_weight_2 : decode cX10_weight 2 = .ok (.iload_n 2, 1) := by decide +kernel
theorem dX10_weight_3 : decode cX10_weight 3 = .ok (.iload_n 3, 1) := by decide +kernel
theorem dX10_weight_4 : decode cX10_weight 4 = .ok (.invokevirtual 182, 3) := by decide +kernel
theorem dX10_weight_7 : decode cX10_weight 7 = .ok (.ifCond .eq 12, 3) := by decide +kernel
theorem dX10_weight_10 : decode cX10_weight 10 = .ok (.aload_n 0, 1) := by decide +kernel
theorem dX10_weight_11 : decode cX10_weight 11 = .ok (.getfield 83, 3) := by decide +kernel
theorem dX10_weight_14 : decode cX10_weight 14 = .ok (.iconst 0, 1) := by decide +kernel
theorem dX10_weight_15 : decode cX10_weight 15 = .ok (.iaload, 1) := by decide +kernel
theorem dX10_weight_16 : decode cX10_weight 16 = .ok (.goto 4, 3) := by decide +kernel
theorem dX10_weight_19 : decode cX10_weight 19 = .ok (.iconst 0, 1) := by decide +kernel
theorem dX10_weight_20 : decode cX10_weight 20 = .ok (.ireturn, 1) := by decide +kernel
theorem dX10_readings_0 : decode cX10_readings 0 = .ok (.aload_n 0, 1) := by decide +kernel
theorem dX10_readings_1 : decode cX10_readings 1 = .ok (.iload_n 1, 1) := by decide +kernel
theorem dX10_readings_2 : decode cX10_readings 2 = .ok (.iload_n 2, 1) := by decide +kernel
theorem dX10_readings_3 : decode cX10_readings 3 = .ok (.iload_n 3, 1) := by decide +kernel
theorem dX10_readings_4 : decode cX10_readings 4 = .ok (.invokevirtual 182, 3) := by decide +kernel
theorem dX10_readings_7 : decode cX10_readings 7 = .ok (.ifCond .eq 12, 3) := by decide +kernel
theorem dX10_readings_10 : decode cX10_readings 10 = .ok (.aload_n 0, 1) := by decide +kernel
theorem dX10_readings_11 : decode cX10_readings 11 = .ok (.getfield 89, 3) := by decide +kernel
theorem dX10_readings_14 : decode cX10_readings 14 = .ok (.iconst 0, 1) := by decide +kernel
theorem dX10_readings_15 : decode cX10_readings 15 = .ok (.iaload, 1) := by decide +kernel
theorem dX10_readings_16 : decode cX10_readings 16 = .ok (.goto 4, 3) := by decide +kernel
theorem dX10_readings_19 : decode cX10_readings 19 = .ok (.iconst 0, 1) := by decide +kernel
theorem dX10_readings_20 : decode cX10_readings 20 = .ok (.ireturn, 1) := by decide +kernel
theorem dX10_letter_0 : decode cX10_letter 0 = .ok (.aload_n 0, 1) := by decide +kernel
theorem dX10_letter_1 : decode cX10_letter 1 = .ok (.aload_n 0, 1) := by decide +kernel
theorem dX10_letter_2 : decode cX10_letter 2 = .ok (.iload_n 1, 1) := by decide +kernel
theorem dX10_letter_3 : decode cX10_letter 3 = .ok (.iload_n 2, 1) := by decide +kernel
theorem dX10_letter_4 : decode cX10_letter 4 = .ok (.iload_n 3, 1) := by decide +kernel
theorem dX10_letter_5 : decode cX10_letter 5 = .ok (.invokevirtual 150, 3) := by decide +kernel
theorem dX10_letter_8 : decode cX10_letter 8 = .ok (.ifCond .ne 7, 3) := by decide +kernel
theorem dX10_letter_11 : decode cX10_letter 11 = .ok (.iconst 1, 1) := by decide +kernel
theorem dX10_letter_12 : decode cX10_letter 12 = .ok (.goto 19, 3) := by decide +kernel
theorem dX10_letter_15 : decode cX10_letter 15 = .ok (.iload 4, 2) := by decide +kernel
theorem dX10_letter_17 : decode cX10_letter 17 = .ok (.iconst 0, 1) := by decide +kernel
theorem dX10_letter_18 : decode cX10_letter 18 = .ok (.bipush 7, 2) := by decide +kernel
theorem dX10_letter_20 : decode cX10_letter 20 = .ok (.invokestatic 129, 3) := by decide +kernel
theorem dX10_letter_23 : decode cX10_letter 23 = .ok (.ifCond .ne 7, 3) := by decide +kernel
theorem dX10_letter_26 : decode cX10_letter 26 = .ok (.iconst 2, 1) := by decide +kernel
theorem dX10_letter_27 : decode cX10_letter 27 = .ok (.goto 4, 3) := by decide +kernel
theorem dX10_letter_30 : decode cX10_letter 30 = .ok (.iconst 0, 1) := by decide +kernel
theorem dX10_letter_31 : decode cX10_letter 31 = .ok (.putfield 122, 3) := by decide +kernel
theorem dX10_letter_34 : decode cX10_letter 34 = .ok (.aload_n 0, 1) := by decide +kernel
theorem dX10_letter_35 : decode cX10_letter 35 = .ok (.getfield 122, 3) := by decide +kernel
theorem dX10_letter_38 : decode cX10_letter 38 = .ok (.ifCond .le 5, 3) := by decide +kernel
theorem dX10_letter_41 : decode cX10_letter 41 = .ok (.iconst 0, 1) := by decide +kernel
theorem dX10_letter_42 : decode cX10_letter 42 = .ok (.ireturn, 1) := by decide +kernel
theorem dX10_letter_43 : decode cX10_letter 43 = .ok (.aload_n 0, 1) := by decide +kernel
theorem dX10_letter_44 : decode cX10_letter 44 = .ok (.iload_n 1, 1) := by decide +kernel
theorem dX10_letter_45 : decode cX10_letter 45 = .ok (.iload_n 2, 1) := by decide +kernel
theorem dX10_letter_46 : decode cX10_letter 46 = .ok (.iload 4, 2) := by decide +kernel
theorem dX10_letter_48 : decode cX10_letter 48 = .ok (.invokevirtual 179, 3) := by decide +kernel
theorem dX10_letter_51 : decode cX10_letter 51 = .ok (.aload_n 0, 1) := by decide +kernel
theorem dX10_letter_52 : decode cX10_letter 52 = .ok (.getfield 83, 3) := by decide +kernel
theorem dX10_letter_55 : decode cX10_letter 55 = .ok (.iconst 0, 1) := by decide +kernel
theorem dX10_letter_56 : decode cX10_letter 56 = .ok (.iaload, 1) := by decide +kernel
theorem dX10_letter_57 : decode cX10_letter 57 = .ok (.iconst (-1), 1) := by decide +kernel
theorem dX10_letter_58 : decode cX10_letter 58 = .ok (.if_icmp .ne 7, 3) := by decide +kernel
theorem dX10_letter_61 : decode cX10_letter 61 = .ok (.iconst (-1), 1) := by decide +kernel
theorem dX10_letter_62 : decode cX10_letter 62 = .ok (.goto 9, 3) := by decide +kernel
theorem dX10_letter_65 : decode cX10_letter 65 = .ok (.aload_n 0, 1) := by decide +kernel
theorem dX10_letter_66 : decode cX10_letter 66 = .ok (.getfield 92, 3) := by decide +kernel
theorem dX10_letter_69 : decode cX10_letter 69 = .ok (.iload_n 3, 1) := by decide +kernel
theorem dX10_letter_70 : decode cX10_letter 70 = .ok (.iaload, 1) := by decide +kernel
theorem dX10_letter_71 : decode cX10_letter 71 = .ok (.ireturn, 1) := by decide +kernel
theorem dX10_fact_0 : decode cX10_fact 0 = .ok (.aload_n 0, 1) := by decide +kernel
theorem dX10_fact_1 : decode cX10_fact 1 = .ok (.iload_n 2, 1) := by decide +kernel
theorem dX10_fact_2 : decode cX10_fact 2 = .ok (.invokevirtual 133, 3) := by decide +kernel
theorem dX10_fact_5 : decode cX10_fact 5 = .ok (.istore 5, 2) := by decide +kernel
theorem dX10_fact_7 : decode cX10_fact 7 = .ok (.iload_n 1, 1) := by decide +kernel
theorem dX10_fact_8 : decode cX10_fact 8 = .ok (.iconst 0, 1) := by decide +kernel
theorem dX10_fact_9 : decode cX10_fact 9 = .ok (.iconst 4, 1) := by decide +kernel
theorem dX10_fact_10 : decode cX10_fact 10 = .ok (.invokestatic 129, 3) := by decide +kernel
theorem dX10_fact_13 : decode cX10_fact 13 = .ok (.ifCond .eq 47, 3) := by decide +kernel
theorem dX10_fact_16 : decode cX10_fact 16 = .ok (.iload_n 1, 1) := by decide +kernel
theorem dX10_fact_17 : decode cX10_fact 17 = .ok (.iconst 3, 1) := by decide +kernel
theorem dX10_fact_18 : decode cX10_fact 18 = .ok (.if_icmp .ne 34, 3) := by decide +kernel
theorem dX10_fact_21 : decode cX10_fact 21 = .ok (.iload 5, 2) := by decide +kernel
theorem dX10_fact_23 : decode cX10_fact 23 = .ok (.ifCond .eq 41, 3) := by decide +kernel
theorem dX10_fact_26 : decode cX10_fact 26 = .ok (.iload_n 3, 1) := by decide +kernel
theorem dX10_fact_27 : decode cX10_fact 27 = .ok (.iconst 0, 1) := by decide +kernel
theorem dX10_fact_28 : decode cX10_fact 28 = .ok (.iconst 2, 1) := by decide +kernel
theorem dX10_fact_29 : decode cX10_fact 29 = .ok (.aload_n 0, 1) := by decide +kernel
theorem dX10_fact_30 : decode cX10_fact 30 = .ok (.getfield 37, 3) := by decide +kernel
theorem dX10_fact_33 : decode cX10_fact 33 = .ok (.aload_n 0, 1) := by decide +kernel
theorem dX10_fact_34 : decode cX10_fact 34 = .ok (.getfield 7, 3) := by decide +kernel
theorem dX10_fact_37 : decode cX10_fact 37 = .ok (.iload_n 2, 1) := by decide +kernel
theorem dX10_fact_38 : decode cX10_fact 38 = .ok (.iaload, 1) := by decide +kernel
theorem dX10_fact_39 : decode cX10_fact 39 = .ok (.iaload, 1) := by decide +kernel
theorem dX10_fact_40 : decode cX10_fact 40 = .ok (.imul, 1) := by decide +kernel
theorem dX10_fact_41 : decode cX10_fact 41 = .ok (.iconst 1, 1) := by decide +kernel
theorem dX10_fact_42 : decode cX10_fact 42 = .ok (.isub, 1) := by decide +kernel
theorem dX10_fact_43 : decode cX10_fact 43 = .ok (.invokestatic 129, 3) := by decide +kernel
theorem dX10_fact_46 : decode cX10_fact 46 = .ok (.ifCond .eq 18, 3) := by decide +kernel
theorem dX10_fact_49 : decode cX10_fact 49 = .ok (.goto 11, 3) := by decide +kernel
theorem dX10_fact_52 : decode cX10_fact 52 = .ok (.aload_n 0, 1) := by decide +kernel
theorem dX10_fact_53 : decode cX10_fact 53 = .ok (.iload_n 3, 1) := by decide +kernel
theorem dX10_fact_54 : decode cX10_fact 54 = .ok (.invokevirtual 133, 3) := by decide +kernel
theorem dX10_fact_57 : decode cX10_fact 57 = .ok (.ifCond .eq 7, 3) := by decide +kernel
theorem dX10_fact_60 : decode cX10_fact 60 = .ok (.iconst 1, 1) := by decide +kernel
theorem dX10_fact_61 : decode cX10_fact 61 = .ok (.goto 4, 3) := by decide +kernel
theorem dX10_fact_64 : decode cX10_fact 64 = .ok (.iconst 0, 1) := by decide +kernel
theorem dX10_fact_65 : decode cX10_fact 65 = .ok (.istore 6, 2) := by decide +kernel
theorem dX10_fact_67 : decode cX10_fact 67 = .ok (.aload_n 0, 1) := by decide +kernel
theorem dX10_fact_68 : decode cX10_fact 68 = .ok (.iload 5, 2) := by decide +kernel
theorem dX10_fact_70 : decode cX10_fact 70 = .ok (.ifCond .eq 8, 3) := by decide +kernel
theorem dX10_fact_73 : decode cX10_fact 73 = .ok (.iload 6, 2) := by decide +kernel
theorem dX10_fact_75 : decode cX10_fact 75 = .ok (.ifCond .ne 7, 3) := by decide +kernel
theorem dX10_fact_78 : decode cX10_fact 78 = .ok (.iconst 1, 1) := by decide +kernel
theorem dX10_fact_79 : decode cX10_fact 79 = .ok (.goto 55, 3) := by decide +kernel
theorem dX10_fact_82 : decode cX10_fact 82 = .ok (.iload_n 1, 1) := by decide +kernel
theorem dX10_fact_83 : decode cX10_fact 83 = .ok (.iconst 0, 1) := by decide +kernel
theorem dX10_fact_84 : decode cX10_fact 84 = .ok (.iconst 4, 1) := by decide +kernel
theorem dX10_fact_85 : decode cX10_fact 85 = .ok (.invokestatic 129, 3) := by decide +kernel
theorem dX10_fact_88 : decode cX10_fact 88 = .ok (.ifCond .eq 28, 3) := by decide +kernel
theorem dX10_fact_91 : decode cX10_fact 91 = .ok (.iload_n 1, 1) := by decide +kernel
theorem dX10_fact_92 : decode cX10_fact 92 = .ok (.iconst 3, 1) := by decide +kernel
theorem dX10_fact_93 : decode cX10_fact 93 = .ok (.if_icmp .eq 27, 3) := by decide +kernel
theorem dX10_fact_96 : decode cX10_fact 96 = .ok (.iload_n 2, 1) := by decide +kernel
theorem dX10_fact_97 : decode cX10_fact 97 = .ok (.iload_n 3, 1) := by decide +kernel
theorem dX10_fact_98 : decode cX10_fact 98 = .ok (.if_icmp .eq 18, 3) := by decide +kernel
theorem dX10_fact_101 : decode cX10_fact 101 = .ok (.aload_n 0, 1) := by decide +kernel
theorem dX10_fact_102 : decode cX10_fact 102 = .ok (.getfield 7, 3) := by decide +kernel
theorem dX10_fact_105 : decode cX10_fact 105 = .ok (.iload_n 2, 1) := by decide +kernel
theorem dX10_fact_106 : decode cX10_fact 106 = .ok (.iaload, 1) := by decide +kernel
theorem dX10_fact_107 : decode cX10_fact 107 = .ok (.aload_n 0, 1) := by decide +kernel
theorem dX10_fact_108 : decode cX10_fact 108 = .ok (.getfield 7, 3) := by decide +kernel
theorem dX10_fact_111 : decode cX10_fact 111 = .ok (.iload_n 3, 1) := by decide +kernel
theorem dX10_fact_112 : decode cX10_fact 112 = .ok (.iaload, 1) := by decide +kernel
theorem dX10_fact_113 : decode cX10_fact 113 = .ok (.if_icmp .eq 7, 3) := by decide +kernel
theorem dX10_fact_116 : decode cX10_fact 116 = .ok (.iconst 2, 1) := by decide +kernel
theorem dX10_fact_117 : decode cX10_fact 117 = .ok (.goto 17, 3) := by decide +kernel
theorem dX10_fact_120 : decode cX10_fact 120 = .ok (.aload_n 0, 1) := by decide +kernel
theorem dX10_fact_121 : decode cX10_fact 121 = .ok (.getfield 185, 3) := by decide +kernel
theorem dX10_fact_124 : decode cX10_fact 124 = .ok (.bipush 12, 2) := by decide +kernel
theorem dX10_fact_126 : decode cX10_fact 126 = .ok (.if_icmp .ne 7, 3) := by decide +kernel
theorem dX10_fact_129 : decode cX10_fact 129 = .ok (.iconst 3, 1) := by decide +kernel
theorem dX10_fact_130 : decode cX10_fact 130 = .ok (.goto 4, 3) := by decide +kernel
theorem dX10_fact_133 : decode cX10_fact 133 = .ok (.iconst 0, 1) := by decide +kernel
theorem dX10_fact_134 : decode cX10_fact 134 = .ok (.putfield 122, 3) := by decide +kernel
theorem dX10_fact_137 : decode cX10_fact 137 = .ok (.aload_n 0, 1) := by decide +kernel
theorem dX10_fact_138 : decode cX10_fact 138 = .ok (.getfield 122, 3) := by decide +kernel
theorem dX10_fact_141 : decode cX10_fact 141 = .ok (.ifCond .le 5, 3) := by decide +kernel
theorem dX10_fact_144 : decode cX10_fact 144 = .ok (.iconst 0, 1) := by decide +kernel
theorem dX10_fact_145 : decode cX10_fact 145 = .ok (.ireturn, 1) := by decide +kernel
theorem dX10_fact_146 : decode cX10_fact 146 = .ok (.aload_n 0, 1) := by decide +kernel
theorem dX10_fact_147 : decode cX10_fact 147 = .ok (.getfield 67, 3) := by decide +kernel
theorem dX10_fact_150 : decode cX10_fact 150 = .ok (.aload_n 0, 1) := by decide +kernel
theorem dX10_fact_151 : decode cX10_fact 151 = .ok (.getfield 185, 3) := by decide +kernel
theorem dX10_fact_154 : decode cX10_fact 154 = .ok (.iload_n 1, 1) := by decide +kernel
theorem dX10_fact_155 : decode cX10_fact 155 = .ok (.iastore, 1) := by decide +kernel
theorem dX10_fact_156 : decode cX10_fact 156 = .ok (.aload_n 0, 1) := by decide +kernel
theorem dX10_fact_157 : decode cX10_fact 157 = .ok (.getfield 70, 3) := by decide +kernel
theorem dX10_fact_160 : decode cX10_fact 160 = .ok (.aload_n 0, 1) := by decide +kernel
theorem dX10_fact_161 : decode cX10_fact 161 = .ok (.getfield 185, 3) := by decide +kernel
theorem dX10_fact_164 : decode cX10_fact 164 = .ok (.iload_n 2, 1) := by decide +kernel
theorem dX10_fact_165 : decode cX10_fact 165 = .ok (.iastore, 1) := by decide +kernel
theorem dX10_fact_166 : decode cX10_fact 166 = .ok (.aload_n 0, 1) := by decide +kernel
theorem dX10_fact_167 : decode cX10_fact 167 = .ok (.getfield 73, 3) := by decide +kernel
theorem dX10_fact_170 : decode cX10_fact 170 = .ok (.aload_n 0, 1) := by decide +kernel
theorem dX10_fact_171 : decode cX10_fact 171 = .ok (.getfield 185, 3) := by decide +kernel
theorem dX10_fact_174 : decode cX10_fact 174 = .ok (.iload_n 3, 1) := by decide +kernel
theorem dX10_fact_175 : decode cX10_fact 175 = .ok (.iastore, 1) := by decide +kernel
theorem dX10_fact_176 : decode cX10_fact 176 = .ok (.aload_n 0, 1) := by decide +kernel
theorem dX10_fact_177 : decode cX10_fact 177 = .ok (.getfield 76, 3) := by decide +kernel
theorem dX10_fact_180 : decode cX10_fact 180 = .ok (.aload_n 0, 1) := by decide +kernel
theorem dX10_fact_181 : decode cX10_fact 181 = .ok (.getfield 185, 3) := by decide +kernel
theorem dX10_fact_184 : decode cX10_fact 184 = .ok (.iload 4, 2) := by decide +kernel
theorem dX10_fact_186 : decode cX10_fact 186 = .ok (.bastore, 1) := by decide +kernel
theorem dX10_fact_187 : decode cX10_fact 187 = .ok (.aload_n 0, 1) := by decide +kernel
theorem dX10_fact_188 : decode cX10_fact 188 = .ok (.getfield 80, 3) := by decide +kernel
theorem dX10_fact_191 : decode cX10_fact 191 = .ok (.aload_n 0, 1) := by decide +kernel
theorem dX10_fact_192 : decode cX10_fact 192 = .ok (.getfield 185, 3) := by decide +kernel
theorem dX10_fact_195 : decode cX10_fact 195 = .ok (.iconst 1, 1) := by decide +kernel
theorem dX10_fact_196 : decode cX10_fact 196 = .ok (.bastore, 1) := by decide +kernel
theorem dX10_fact_197 : decode cX10_fact 197 = .ok (.aload_n 0, 1) := by decide +kernel
theorem dX10_fact_198 : decode cX10_fact 198 = .ok (.dup, 1) := by decide +kernel
theorem dX10_fact_199 : decode cX10_fact 199 = .ok (.getfield 185, 3) := by decide +kernel
theorem dX10_fact_202 : decode cX10_fact 202 = .ok (.iconst 1, 1) := by decide +kernel
theorem dX10_fact_203 : decode cX10_fact 203 = .ok (.iadd, 1) := by decide +kernel
theorem dX10_fact_204 : decode cX10_fact 204 = .ok (.putfield 185, 3) := by decide +kernel
theorem dX10_fact_207 : decode cX10_fact 207 = .ok (.aload_n 0, 1) := by decide +kernel
theorem dX10_fact_208 : decode cX10_fact 208 = .ok (.getfield 185, 3) := by decide +kernel
theorem dX10_fact_211 : decode cX10_fact 211 = .ok (.iconst 1, 1) := by decide +kernel
theorem dX10_fact_212 : decode cX10_fact 212 = .ok (.isub, 1) := by decide +kernel
theorem dX10_fact_213 : decode cX10_fact 213 = .ok (.ireturn, 1) := by decide +kernel
theorem dX10_hold_0 : decode cX10_hold 0 = .ok (.aload_n 0, 1) := by decide +kernel
theorem dX10_hold_1 : decode cX10_hold 1 = .ok (.iload_n 1, 1) := by decide +kernel
theorem dX10_hold_2 : decode cX10_hold 2 = .ok (.iconst 0, 1) := by decide +kernel
theorem dX10_hold_3 : decode cX10_hold 3 = .ok (.aload_n 0, 1) := by decide +kernel
theorem dX10_hold_4 : decode cX10_hold 4 = .ok (.getfield 185, 3) := by decide +kernel
theorem dX10_hold_7 : decode cX10_hold 7 = .ok (.iconst 1, 1) := by decide +kernel
theorem dX10_hold_8 : decode cX10_hold 8 = .ok (.isub, 1) := by decide +kernel
theorem dX10_hold_9 : decode cX10_hold 9 = .ok (.invokestatic 129, 3) := by decide +kernel
theorem dX10_hold_12 : decode cX10_hold 12 = .ok (.ifCond .eq 7, 3) := by decide +kernel
theorem dX10_hold_15 : decode cX10_hold 15 = .ok (.iconst 0, 1) := by decide +kernel
theorem dX10_hold_16 : decode cX10_hold 16 = .ok (.goto 4, 3) := by decide +kernel
theorem dX10_hold_19 : decode cX10_hold 19 = .ok (.iconst 1, 1) := by decide +kernel
theorem dX10_hold_20 : decode cX10_hold 20 = .ok (.putfield 122, 3) := by decide +kernel
theorem dX10_hold_23 : decode cX10_hold 23 = .ok (.aload_n 0, 1) := by decide +kernel
theorem dX10_hold_24 : decode cX10_hold 24 = .ok (.getfield 122, 3) := by decide +kernel
theorem dX10_hold_27 : decode cX10_hold 27 = .ok (.ifCond .le 5, 3) := by decide +kernel
theorem dX10_hold_30 : decode cX10_hold 30 = .ok (.iconst 0, 1) := by decide +kernel
theorem dX10_hold_31 : decode cX10_hold 31 = .ok (.ireturn, 1) := by decide +kernel
theorem dX10_hold_32 : decode cX10_hold 32 = .ok (.aload_n 0, 1) := by decide +kernel
theorem dX10_hold_33 : decode cX10_hold 33 = .ok (.getfield 80, 3) := by decide +kernel
theorem dX10_hold_36 : decode cX10_hold 36 = .ok (.iload_n 1, 1) := by decide +kernel
theorem dX10_hold_37 : decode cX10_hold 37 = .ok (.baload, 1) := by decide +kernel
theorem dX10_hold_38 : decode cX10_hold 38 = .ok (.istore_n 3, 1) := by decide +kernel
theorem dX10_hold_39 : decode cX10_hold 39 = .ok (.aload_n 0, 1) := by decide +kernel
theorem dX10_hold_40 : decode cX10_hold 40 = .ok (.getfield 80, 3) := by decide +kernel
theorem dX10_hold_43 : decode cX10_hold 43 = .ok (.iload_n 1, 1) := by decide +kernel
theorem dX10_hold_44 : decode cX10_hold 44 = .ok (.iload_n 2, 1) := by decide +kernel
theorem dX10_hold_45 : decode cX10_hold 45 = .ok (.bastore, 1) := by decide +kernel
theorem dX10_hold_46 : decode cX10_hold 46 = .ok (.iload_n 3, 1) := by decide +kernel
theorem dX10_hold_47 : decode cX10_hold 47 = .ok (.ireturn, 1) := by decide +kernel
theorem dX10_placeOf_0 : decode cX10_placeOf 0 = .ok (.iconst (-1), 1) := by decide +kernel
theorem dX10_placeOf_1 : decode cX10_placeOf 1 = .ok (.istore_n 3, 1) := by decide +kernel
theorem dX10_placeOf_2 : decode cX10_placeOf 2 = .ok (.iconst 0, 1) := by decide +kernel
theorem dX10_placeOf_3 : decode cX10_placeOf 3 = .ok (.istore 4, 2) := by decide +kernel
theorem dX10_placeOf_5 : decode cX10_placeOf 5 = .ok (.iload 4, 2) := by decide +kernel
theorem dX10_placeOf_7 : decode cX10_placeOf 7 = .ok (.iload_n 2, 1) := by decide +kernel
theorem dX10_placeOf_8 : decode cX10_placeOf 8 = .ok (.if_icmp .ge 32, 3) := by decide +kernel
theorem dX10_placeOf_11 : decode cX10_placeOf 11 = .ok (.aload_n 0, 1) := by decide +kernel
theorem dX10_placeOf_12 : decode cX10_placeOf 12 = .ok (.getfield 104, 3) := by decide +kernel
theorem dX10_placeOf_15 : decode cX10_placeOf 15 = .ok (.iload 4, 2) := by decide +kernel
theorem dX10_placeOf_17 : decode cX10_placeOf 17 = .ok (.iaload, 1) := by decide +kernel
theorem dX10_placeOf_18 : decode cX10_placeOf 18 = .ok (.iload_n 1, 1) := by decide +kernel
theorem dX10_placeOf_19 : decode cX10_placeOf 19 = .ok (.if_icmp .ne 13, 3) := by decide +kernel
theorem dX10_placeOf_22 : decode cX10_placeOf 22 = .ok (.aload_n 0, 1) := by decide +kernel
theorem dX10_placeOf_23 : decode cX10_placeOf 23 = .ok (.getfield 107, 3) := by decide +kernel
theorem dX10_placeOf_26 : decode cX10_placeOf 26 = .ok (.iload 4, 2) := by decide +kernel
theorem dX10_placeOf_28 : decode cX10_placeOf 28 = .ok (.iaload, 1) := by decide +kernel
theorem dX10_placeOf_29 : decode cX10_placeOf 29 = .ok (.goto 4, 3) := by decide +kernel
theorem dX10_placeOf_32 : decode cX10_placeOf 32 = .ok (.iload_n 3, 1) := by decide +kernel
theorem dX10_placeOf_33 : decode cX10_placeOf 33 = .ok (.istore_n 3, 1) := by decide +kernel
theorem dX10_placeOf_34 : decode cX10_placeOf 34 = .ok (.iinc 4 1, 3) := by decide +kernel
theorem dX10_placeOf_37 : decode cX10_placeOf 37 = .ok (.goto (-32), 3) := by decide +kernel
theorem dX10_placeOf_40 : decode cX10_placeOf 40 = .ok (.iload_n 3, 1) := by decide +kernel
theorem dX10_placeOf_41 : decode cX10_placeOf 41 = .ok (.ireturn, 1) := by decide +kernel
theorem dX10_fitsFact_0 : decode cX10_fitsFact 0 = .ok (.aload_n 0, 1) := by decide +kernel
theorem dX10_fitsFact_1 : decode cX10_fitsFact 1 = .ok (.aload_n 0, 1) := by decide +kernel
theorem dX10_fitsFact_2 : decode cX10_fitsFact 2 = .ok (.getfield 70, 3) := by decide +kernel
theorem dX10_fitsFact_5 : decode cX10_fitsFact 5 = .ok (.iload_n 1, 1) := by decide +kernel
theorem dX10_fitsFact_6 : decode cX10_fitsFact 6 = .ok (.iaload, 1) := by decide +kernel
theorem dX10_fitsFact_7 : decode cX10_fitsFact 7 = .ok (.iload_n 2, 1) := by decide +kernel
theorem dX10_fitsFact_8 : decode cX10_fitsFact 8 = .ok (.invokevirtual 188, 3) := by decide +kernel
theorem dX10_fitsFact_11 : decode cX10_fitsFact 11 = .ok (.istore 4, 2) := by decide +kernel
theorem dX10_fitsFact_13 : decode cX10_fitsFact 13 = .ok (.aload_n 0, 1) := by decide +kernel
theorem dX10_fitsFact_14 : decode cX10_fitsFact 14 = .ok (.getfield 67, 3) := by decide +kernel
theorem dX10_fitsFact_17 : decode cX10_fitsFact 17 = .ok (.iload_n 1, 1) := by decide +kernel
theorem dX10_fitsFact_18 : decode cX10_fitsFact 18 = .ok (.iaload, 1) := by decide +kernel
theorem dX10_fitsFact_19 : decode cX10_fitsFact 19 = .ok (.istore 5, 2) := by decide +kernel
theorem dX10_fitsFact_21 : decode cX10_fitsFact 21 = .ok (.iload 4, 2) := by decide +kernel
theorem dX10_fitsFact_23 : decode cX10_fitsFact 23 = .ok (.iconst (-1), 1) := by decide +kernel
theorem dX10_fitsFact_24 : decode cX10_fitsFact 24 = .ok (.if_icmp .ne 5, 3) := by decide +kernel
theorem dX10_fitsFact_27 : decode cX10_fitsFact 27 = .ok (.iconst 1, 1) := by decide +kernel
theorem dX10_fitsFact_28 : decode cX10_fitsFact 28 = .ok (.ireturn, 1) := by decide +kernel
theorem dX10_fitsFact_29 : decode cX10_fitsFact 29 = .ok (.iload 5, 2) := by decide +kernel
theorem dX10_fitsFact_31 : decode cX10_fitsFact 31 = .ok (.iconst 3, 1) := by decide +kernel
theorem dX10_fitsFact_32 : decode cX10_fitsFact 32 = .ok (.if_icmp .ne 12, 3) := by decide +kernel
theorem dX10_fitsFact_35 : decode cX10_fitsFact 35 = .ok (.aload_n 0, 1) := by decide +kernel
theorem dX10_fitsFact_36 : decode cX10_fitsFact 36 = .ok (.getfield 73, 3) := by decide +kernel
theorem dX10_fitsFact_39 : decode cX10_fitsFact 39 = .ok (.iload_n 1, 1) := by decide +kernel
theorem dX10_fitsFact_40 : decode cX10_fitsFact 40 = .ok (.iaload, 1) := by decide +kernel
theorem dX10_fitsFact_41 : decode cX10_fitsFact 41 = .ok (.goto 14, 3) := by decide +kernel
theorem dX10_fitsFact_44 : decode cX10_fitsFact 44 = .ok (.aload_n 0, 1) := by decide +kernel
theorem dX10_fitsFact_45 : decode cX10_fitsFact 45 = .ok (.aload_n 0, 1) := by decide +kernel
theorem dX10_fitsFact_46 : decode cX10_fitsFact 46 = .ok (.getfield 73, 3) := by decide +kernel
theorem dX10_fitsFact_49 : decode cX10_fitsFact 49 = .ok (.iload_n 1, 1) := by decide +kernel
theorem dX10_fitsFact_50 : decode cX10_fitsFact 50 = .ok (.iaload, 1) := by decide +kernel
theorem dX10_fitsFact_51 : decode cX10_fitsFact 51 = .ok (.iload_n 2, 1) := by decide +kernel
theorem dX10_fitsFact_52 : decode cX10_fitsFact 52 = .ok (.invokevirtual 188, 3) := by decide +kernel
theorem dX10_fitsFact_55 : decode cX10_fitsFact 55 = .ok (.istore 6, 2) := by decide +kernel
theorem dX10_fitsFact_57 : decode cX10_fitsFact 57 = .ok (.iload 4, 2) := by decide +kernel
theorem dX10_fitsFact_59 : decode cX10_fitsFact 59 = .ok (.iload 6, 2) := by decide +kernel
theorem dX10_fitsFact_61 : decode cX10_fitsFact 61 = .ok (.iadd, 1) := by decide +kernel
theorem dX10_fitsFact_62 : decode cX10_fitsFact 62 = .ok (.iload_n 3, 1) := by decide +kernel
theorem dX10_fitsFact_63 : decode cX10_fitsFact 63 = .ok (.iconst 1, 1) := by decide +kernel
theorem dX10_fitsFact_64 : decode cX10_fitsFact 64 = .ok (.isub, 1) := by decide +kernel
theorem dX10_fitsFact_65 : decode cX10_fitsFact 65 = .ok (.if_icmp .ne 7, 3) := by decide +kernel
theorem dX10_fitsFact_68 : decode cX10_fitsFact 68 = .ok (.iconst 1, 1) := by decide +kernel
theorem dX10_fitsFact_69 : decode cX10_fitsFact 69 = .ok (.goto 4, 3) := by decide +kernel
theorem dX10_fitsFact_72 : decode cX10_fitsFact 72 = .ok (.iconst 0, 1) := by decide +kernel
theorem dX10_fitsFact_73 : decode cX10_fitsFact 73 = .ok (.istore 7, 2) := by decide +kernel
theorem dX10_fitsFact_75 : decode cX10_fitsFact 75 = .ok (.iload 5, 2) := by decide +kernel
theorem dX10_fitsFact_77 : decode cX10_fitsFact 77 = .ok (.ifCond .ne 8, 3) := by decide +kernel
theorem dX10_fitsFact_80 : decode cX10_fitsFact 80 = .ok (.iload 7, 2) := by decide +kernel
theorem dX10_fitsFact_82 : decode cX10_fitsFact 82 = .ok (.goto 78, 3) := by decide +kernel
theorem dX10_fitsFact_85 : decode cX10_fitsFact 85 = .ok (.iload 5, 2) := by decide +kernel
theorem dX10_fitsFact_87 : decode cX10_fitsFact 87 = .ok (.iconst 1, 1) := by decide +kernel
theorem dX10_fitsFact_88 : decode cX10_fitsFact 88 = .ok (.if_icmp .ne 20, 3) := by decide +kernel
theorem dX10_fitsFact_91 : decode cX10_fitsFact 91 = .ok (.iload 6, 2) := by decide +kernel
theorem dX10_fitsFact_93 : decode cX10_fitsFact 93 = .ok (.iload 4, 2) := by decide +kernel
theorem dX10_fitsFact_95 : decode cX10_fitsFact 95 = .ok (.iconst 1, 1) := by decide +kernel
theorem dX10_fitsFact_96 : decode cX10_fitsFact 96 = .ok (.iadd, 1) := by decide +kernel
theorem dX10_fitsFact_97 : decode cX10_fitsFact 97 = .ok (.if_icmp .ne 7, 3) := by decide +kernel
theorem dX10_fitsFact_100 : decode cX10_fitsFact 100 = .ok (.iconst 1, 1) := by decide +kernel
theorem dX10_fitsFact_101 : decode cX10_fitsFact 101 = .ok (.goto 59, 3) := by decide +kernel
theorem dX10_fitsFact_104 : decode cX10_fitsFact 104 = .ok (.iconst 0, 1) := by decide +kernel
theorem dX10_fitsFact_105 : decode cX10_fitsFact 105 = .ok (.goto 55, 3) := by decide +kernel
theorem dX10_fitsFact_108 : decode cX10_fitsFact 108 = .ok (.iload 5, 2) := by decide +kernel
theorem dX10_fitsFact_110 : decode cX10_fitsFact 110 = .ok (.iconst 2, 1) := by decide +kernel
theorem dX10_fitsFact_111 : decode cX10_fitsFact 111 = .ok (.if_icmp .ne 18, 3) := by decide +kernel
theorem dX10_fitsFact_114 : decode cX10_fitsFact 114 = .ok (.iload 4, 2) := by decide +kernel
theorem dX10_fitsFact_116 : decode cX10_fitsFact 116 = .ok (.iload 6, 2) := by decide +kernel
theorem dX10_fitsFact_118 : decode cX10_fitsFact 118 = .ok (.if_icmp .ge 7, 3) := by decide +kernel
theorem dX10_fitsFact_121 : decode cX10_fitsFact 121 = .ok (.iconst 1, 1) := by decide +kernel
theorem dX10_fitsFact_122 : decode cX10_fitsFact 122 = .ok (.goto 38, 3) := by decide +kernel
theorem dX10_fitsFact_125 : decode cX10_fitsFact 125 = .ok (.iconst 0, 1) := by decide +kernel
theorem dX10_fitsFact_126 : decode cX10_fitsFact 126 = .ok (.goto 34, 3) := by decide +kernel
theorem dX10_fitsFact_129 : decode cX10_fitsFact 129 = .ok (.iload 5, 2) := by decide +kernel
theorem dX10_fitsFact_131 : decode cX10_fitsFact 131 = .ok (.iconst 3, 1) := by decide +kernel
theorem dX10_fitsFact_132 : decode cX10_fitsFact 132 = .ok (.if_icmp .ne 18, 3) := by decide +kernel
theorem dX10_fitsFact_135 : decode cX10_fitsFact 135 = .ok (.iload 4, 2) := by decide +kernel
theorem dX10_fitsFact_137 : decode cX10_fitsFact 137 = .ok (.iload 6, 2) := by decide +kernel
theorem dX10_fitsFact_139 : decode cX10_fitsFact 139 = .ok (.if_icmp .ne 7, 3) := by decide +kernel
theorem dX10_fitsFact_142 : decode cX10_fitsFact 142 = .ok (.iconst 1, 1) := by decide +kernel
theorem dX10_fitsFact_143 : decode cX10_fitsFact 143 = .ok (.goto 17, 3) := by decide +kernel
theorem dX10_fitsFact_146 : decode cX10_fitsFact 146 = .ok (.iconst 0, 1) := by decide +kernel
theorem dX10_fitsFact_147 : decode cX10_fitsFact 147 = .ok (.goto 13, 3) := by decide +kernel
theorem dX10_fitsFact_150 : decode cX10_fitsFact 150 = .ok (.iload 7, 2) := by decide +kernel
theorem dX10_fitsFact_152 : decode cX10_fitsFact 152 = .ok (.ifCond .ne 7, 3) := by decide +kernel
theorem dX10_fitsFact_155 : decode cX10_fitsFact 155 = .ok (.iconst 1, 1) := by decide +kernel
theorem dX10_fitsFact_156 : decode cX10_fitsFact 156 = .ok (.goto 4, 3) := by decide +kernel
theorem dX10_fitsFact_159 : decode cX10_fitsFact 159 = .ok (.iconst 0, 1) := by decide +kernel
theorem dX10_fitsFact_160 : decode cX10_fitsFact 160 = .ok (.ireturn, 1) := by decide +kernel
theorem dX10_fits_0 : decode cX10_fits 0 = .ok (.iconst 1, 1) := by decide +kernel
theorem dX10_fits_1 : decode cX10_fits 1 = .ok (.istore 5, 2) := by decide +kernel
theorem dX10_fits_3 : decode cX10_fits 3 = .ok (.iconst 0, 1) := by decide +kernel
theorem dX10_fits_4 : decode cX10_fits 4 = .ok (.istore 6, 2) := by decide +kernel
theorem dX10_fits_6 : decode cX10_fits 6 = .ok (.iload 6, 2) := by decide +kernel
theorem dX10_fits_8 : decode cX10_fits 8 = .ok (.aload_n 0, 1) := by decide +kernel
theorem dX10_fits_9 : decode cX10_fits 9 = .ok (.getfield 185, 3) := by decide +kernel
theorem dX10_fits_12 : decode cX10_fits 12 = .ok (.if_icmp .ge 63, 3) := by decide +kernel
theorem dX10_fits_15 : decode cX10_fits 15 = .ok (.iload 5, 2) := by decide +kernel
theorem dX10_fits_17 : decode cX10_fits 17 = .ok (.ifCond .eq 58, 3) := by decide +kernel
theorem dX10_fits_20 : decode cX10_fits 20 = .ok (.aload_n 0, 1) := by decide +kernel
theorem dX10_fits_21 : decode cX10_fits 21 = .ok (.getfield 80, 3) := by decide +kernel
theorem dX10_fits_24 : decode cX10_fits 24 = .ok (.iload 6, 2) := by decide +kernel
theorem dX10_fits_26 : decode cX10_fits 26 = .ok (.baload, 1) := by decide +kernel
theorem dX10_fits_27 : decode cX10_fits 27 = .ok (.ifCond .eq 35, 3) := by decide +kernel
theorem dX10_fits_30 : decode cX10_fits 30 = .ok (.iload_n 3, 1) := by decide +kernel
theorem dX10_fits_31 : decode cX10_fits 31 = .ok (.ifCond .ne 13, 3) := by decide +kernel
theorem dX10_fits_34 : decode cX10_fits 34 = .ok (.aload_n 0, 1) := by decide +kernel
theorem dX10_fits_35 : decode cX10_fits 35 = .ok (.getfield 76, 3) := by decide +kernel
theorem dX10_fits_38 : decode cX10_fits 38 = .ok (.iload 6, 2) := by decide +kernel
theorem dX10_fits_40 : decode cX10_fits 40 = .ok (.baload, 1) := by decide +kernel
theorem dX10_fits_41 : decode cX10_fits 41 = .ok (.ifCond .eq 21, 3) := by decide +kernel
theorem dX10_fits_44 : decode cX10_fits 44 = .ok (.iload 6, 2) := by decide +kernel
theorem dX10_fits_46 : decode cX10_fits 46 = .ok (.iload 4, 2) := by decide +kernel
theorem dX10_fits_48 : decode cX10_fits 48 = .ok (.if_icmp .eq 14, 3) := by decide +kernel
theorem dX10_fits_51 : decode cX10_fits 51 = .ok (.aload_n 0, 1) := by decide +kernel
theorem dX10_fits_52 : decode cX10_fits 52 = .ok (.iload 6, 2) := by decide +kernel
theorem dX10_fits_54 : decode cX10_fits 54 = .ok (.iload_n 1, 1) := by decide +kernel
theorem dX10_fits_55 : decode cX10_fits 55 = .ok (.iload_n 2, 1) := by decide +kernel
theorem dX10_fits_56 : decode cX10_fits 56 = .ok (.invokevirtual 192, 3) := by decide +kernel
theorem dX10_fits_59 : decode cX10_fits 59 = .ok (.ifCond .eq 7, 3) := by decide +kernel
theorem dX10_fits_62 : decode cX10_fits 62 = .ok (.iconst 1, 1) := by decide +kernel
theorem dX10_fits_63 : decode cX10_fits 63 = .ok (.goto 4, 3) := by decide +kernel
theorem dX10_fits_66 : decode cX10_fits 66 = .ok (.iconst 0, 1) := by decide +kernel
theorem dX10_fits_67 : decode cX10_fits 67 = .ok (.istore 5, 2) := by decide +kernel
theorem dX10_fits_69 : decode cX10_fits 69 = .ok (.iinc 6 1, 3) := by decide +kernel
theorem dX10_fits_72 : decode cX10_fits 72 = .ok (.goto (-66), 3) := by decide +kernel
theorem dX10_fits_75 : decode cX10_fits 75 = .ok (.iconst 0, 1) := by decide +kernel
theorem dX10_fits_76 : decode cX10_fits 76 = .ok (.istore 6, 2) := by decide +kernel
theorem dX10_fits_78 : decode cX10_fits 78 = .ok (.iload 6, 2) := by decide +kernel
theorem dX10_fits_80 : decode cX10_fits 80 = .ok (.bipush 8, 2) := by decide +kernel
theorem dX10_fits_82 : decode cX10_fits 82 = .ok (.if_icmp .ge 198, 3) := by decide +kernel
theorem dX10_fits_85 : decode cX10_fits 85 = .ok (.iload 5, 2) := by decide +kernel
theorem dX10_fits_87 : decode cX10_fits 87 = .ok (.ifCond .eq 193, 3) := by decide +kernel
theorem dX10_fits_90 : decode cX10_fits 90 = .ok (.bipush 100, 2) := by decide +kernel
theorem dX10_fits_92 : decode cX10_fits 92 = .ok (.istore 7, 2) := by decide +kernel
theorem dX10_fits_94 : decode cX10_fits 94 = .ok (.iconst (-1), 1) := by decide +kernel
theorem dX10_fits_95 : decode cX10_fits 95 = .ok (.istore 8, 2) := by decide +kernel
theorem dX10_fits_97 : decode cX10_fits 97 = .ok (.iconst 0, 1) := by decide +kernel
theorem dX10_fits_98 : decode cX10_fits 98 = .ok (.istore 9, 2) := by decide +kernel
theorem dX10_fits_100 : decode cX10_fits 100 = .ok (.iload 9, 2) := by decide +kernel
theorem dX10_fits_102 : decode cX10_fits 102 = .ok (.iload_n 1, 1) := by decide +kernel
theorem dX10_fits_103 : decode cX10_fits 103 = .ok (.if_icmp .ge 99, 3) := by decide +kernel
theorem dX10_fits_106 : decode cX10_fits 106 = .ok (.aload_n 0, 1) := by decide +kernel
theorem dX10_fits_107 : decode cX10_fits 107 = .ok (.getfield 22, 3) := by decide +kernel
theorem dX10_fits_110 : decode cX10_fits 110 = .ok (.aload_n 0, 1) := by decide +kernel
theorem dX10_fits_111 : decode cX10_fits 111 = .ok (.getfield 104, 3) := by decide +kernel
theorem dX10_fits_114 : decode cX10_fits 114 = .ok (.iload 9, 2) := by decide +kernel
theorem dX10_fits_116 : decode cX10_fits 116 = .ok (.iaload, 1) := by decide +kernel
theorem dX10_fits_117 : decode cX10_fits 117 = .ok (.iaload, 1) := by decide +kernel
theorem dX10_fits_118 : decode cX10_fits 118 = .ok (.iload 6, 2) := by decide +kernel
theorem dX10_fits_120 : decode cX10_fits 120 = .ok (.ishr, 1) := by decide +kernel
theorem dX10_fits_121 : decode cX10_fits 121 = .ok (.iconst 1, 1) := by decide +kernel
theorem dX10_fits_122 : decode cX10_fits 122 = .ok (.iand, 1) := by decide +kernel
theorem dX10_fits_123 : decode cX10_fits 123 = .ok (.iconst 1, 1) := by decide +kernel
theorem dX10_fits_124 : decode cX10_fits 124 = .ok (.if_icmp .ne 7, 3) := by decide +kernel
theorem dX10_fits_127 : decode cX10_fits 127 = .ok (.iconst 1, 1) := by decide +kernel
theorem dX10_fits_128 : decode cX10_fits 128 = .ok (.goto 4, 3) := by decide +kernel
theorem dX10_fits_131 : decode cX10_fits 131 = .ok (.iconst 0, 1) := by decide +kernel
theorem dX10_fits_132 : decode cX10_fits 132 = .ok (.istore 10, 2) := by decide +kernel
theorem dX10_fits_134 : decode cX10_fits 134 = .ok (.iload 10, 2) := by decide +kernel
theorem dX10_fits_136 : decode cX10_fits 136 = .ok (.ifCond .eq 25, 3) := by decide +kernel
theorem dX10_fits_139 : decode cX10_fits 139 = .ok (.aload_n 0, 1) := by decide +kernel
theorem dX10_fits_140 : decode cX10_fits 140 = .ok (.getfield 107, 3) := by decide +kernel
theorem dX10_fits_143 : decode cX10_fits 143 = .ok (.iload 9, 2) := by decide +kernel
theorem dX10_fits_145 : decode cX10_fits 145 = .ok (.iaload, 1) := by decide +kernel
theorem dX10_fits_146 : decode cX10_fits 146 = .ok (.iload 7, 2) := by decide +kernel
theorem dX10_fits_148 : decode cX10_fits 148 = .ok (.if_icmp .ge 13, 3) := by decide +kernel
theorem dX10_fits_151 : decode cX10_fits 151 = .ok (.aload_n 0, 1) := by decide +kernel
theorem dX10_fits_152 : decode cX10_fits 152 = .ok (.getfield 107, 3) := by decide +kernel
theorem dX10_fits_155 : decode cX10_fits 155 = .ok (.iload 9, 2) := by decide +kernel
theorem dX10_fits_157 : decode cX10_fits 157 = .ok (.iaload, 1) := by decide +kernel
theorem dX10_fits_158 : decode cX10_fits 158 = .ok (.goto 5, 3) := by decide +kernel
theorem dX10_fits_161 : decode cX10_fits 161 = .ok (.iload 7, 2) := by decide +kernel
theorem dX10_fits_163 : decode cX10_fits 163 = .ok (.istore 7, 2) := by decide +kernel
theorem dX10_fits_165 : decode cX10_fits 165 = .ok (.iload 10, 2) := by decide +kernel
theorem dX10_fits_167 : decode cX10_fits 167 = .ok (.ifCond .eq 25, 3) := by decide +kernel
theorem dX10_fits_170 : decode cX10_fits 170 = .ok (.aload_n 0, 1) := by decide +kernel
theorem dX10_fits_171 : decode cX10_fits 171 = .ok (.getfield 107, 3) := by decide +kernel
theorem dX10_fits_174 : decode cX10_fits 174 = .ok (.iload 9, 2) := by decide +kernel
theorem dX10_fits_176 : decode cX10_fits 176 = .ok (.iaload, 1) := by decide +kernel
theorem dX10_fits_177 : decode cX10_fits 177 = .ok (.iload 8, 2) := by decide +kernel
theorem dX10_fits_179 : decode cX10_fits 179 = .ok (.if_icmp .le 13, 3) := by decide +kernel
theorem dX10_fits_182 : decode cX10_fits 182 = .ok (.aload_n 0, 1) := by decide +kernel
theorem dX10_fits_183 : decode cX10_fits 183 = .ok (.getfield 107, 3) := by decide +kernel
theorem dX10_fits_186 : decode cX10_fits 186 = .ok (.iload 9, 2) := by decide +kernel
theorem dX10_fits_188 : decode cX10_fits 188 = .ok (.iaload, 1) := by decide +kernel
theorem dX10_fits_189 : decode cX10_fits 189 = .ok (.goto 5, 3) := by decide +kernel
theorem dX10_fits_192 : decode cX10_fits 192 = .ok (.iload 8, 2) := by decide +kernel
theorem dX10_fits_194 : decode cX10_fits 194 = .ok (.istore 8, 2) := by decide +kernel
theorem dX10_fits_196 : decode cX10_fits 196 = .ok (.iinc 9 1, 3) := by decide +kernel
theorem dX10_fits_199 : decode cX10_fits 199 = .ok (.goto (-99), 3) := by decide +kernel
theorem dX10_fits_202 : decode cX10_fits 202 = .ok (.iconst 0, 1) := by decide +kernel
theorem dX10_fits_203 : decode cX10_fits 203 = .ok (.istore 9, 2) := by decide +kernel
theorem dX10_fits_205 : decode cX10_fits 205 = .ok (.iload 9, 2) := by decide +kernel
theorem dX10_fits_207 : decode cX10_fits 207 = .ok (.iload_n 1, 1) := by decide +kernel
theorem dX10_fits_208 : decode cX10_fits 208 = .ok (.if_icmp .ge 66, 3) := by decide +kernel
theorem dX10_fits_211 : decode cX10_fits 211 = .ok (.iload 5, 2) := by decide +kernel
theorem dX10_fits_213 : decode cX10_fits 213 = .ok (.ifCond .eq 52, 3) := by decide +kernel
theorem dX10_fits_216 : decode cX10_fits 216 = .ok (.aload_n 0, 1) := by decide +kernel
theorem dX10_fits_217 : decode cX10_fits 217 = .ok (.getfield 22, 3) := by decide +kernel
theorem dX10_fits_220 : decode cX10_fits 220 = .ok (.aload_n 0, 1) := by decide +kernel
theorem dX10_fits_221 : decode cX10_fits 221 = .ok (.getfield 104, 3) := by decide +kernel
theorem dX10_fits_224 : decode cX10_fits 224 = .ok (.iload 9, 2) := by decide +kernel
theorem dX10_fits_226 : decode cX10_fits 226 = .ok (.iaload, 1) := by decide +kernel
theorem dX10_fits_227 : decode cX10_fits 227 = .ok (.iaload, 1) := by decide +kernel
theorem dX10_fits_228 : decode cX10_fits 228 = .ok (.iload 6, 2) := by decide +kernel
theorem dX10_fits_230 : decode cX10_fits 230 = .ok (.ishr, 1) := by decide +kernel
theorem dX10_fits_231 : decode cX10_fits 231 = .ok (.iconst 1, 1) := by decide +kernel
theorem dX10_fits_232 : decode cX10_fits 232 = .ok (.iand, 1) := by decide +kernel
theorem dX10_fits_233 : decode cX10_fits 233 = .ok (.iconst 1, 1) := by decide +kernel
theorem dX10_fits_234 : decode cX10_fits 234 = .ok (.if_icmp .eq 27, 3) := by decide +kernel
theorem dX10_fits_237 : decode cX10_fits 237 = .ok (.aload_n 0, 1) := by decide +kernel
theorem dX10_fits_238 : decode cX10_fits 238 = .ok (.getfield 107, 3) := by decide +kernel
theorem dX10_fits_241 : decode cX10_fits 241 = .ok (.iload 9, 2) := by decide +kernel
theorem dX10_fits_243 : decode cX10_fits 243 = .ok (.iaload, 1) := by decide +kernel
theorem dX10_fits_244 : decode cX10_fits 244 = .ok (.iload 7, 2) := by decide +kernel
theorem dX10_fits_246 : decode cX10_fits 246 = .ok (.if_icmp .lt 15, 3) := by decide +kernel
theorem dX10_fits_249 : decode cX10_fits 249 = .ok (.aload_n 0, 1) := by decide +kernel
theorem dX10_fits_250 : decode cX10_fits 250 = .ok (.getfield 107, 3) := by decide +kernel
theorem dX10_fits_253 : decode cX10_fits 253 = .ok (.iload 9, 2) := by decide +kernel
theorem dX10_fits_255 : decode cX10_fits 255 = .ok (.iaload, 1) := by decide +kernel
theorem dX10_fits_256 : decode cX10_fits 256 = .ok (.iload 8, 2) := by decide +kernel
theorem dX10_fits_258 : decode cX10_fits 258 = .ok (.if_icmp .le 7, 3) := by decide +kernel
theorem dX10_fits_261 : decode cX10_fits 261 = .ok (.iconst 1, 1) := by decide +kernel
theorem dX10_fits_262 : decode cX10_fits 262 = .ok (.goto 4, 3) := by decide +kernel
theorem dX10_fits_265 : decode cX10_fits 265 = .ok (.iconst 0, 1) := by decide +kernel
theorem dX10_fits_266 : decode cX10_fits 266 = .ok (.istore 5, 2) := by decide +kernel
theorem dX10_fits_268 : decode cX10_fits 268 = .ok (.iinc 9 1, 3) := by decide +kernel
theorem dX10_fits_271 : decode cX10_fits 271 = .ok (.goto (-66), 3) := by decide +kernel
theorem dX10_fits_274 : decode cX10_fits 274 = .ok (.iinc 6 1, 3) := by decide +kernel
theorem dX10_fits_277 : decode cX10_fits 277 = .ok (.goto (-199), 3) := by decide +kernel
theorem dX10_fits_280 : decode cX10_fits 280 = .ok (.iconst 0, 1) := by decide +kernel
theorem dX10_fits_281 : decode cX10_fits 281 = .ok (.istore 6, 2) := by decide +kernel
theorem dX10_fits_283 : decode cX10_fits 283 = .ok (.iload 6, 2) := by decide +kernel
theorem dX10_fits_285 : decode cX10_fits 285 = .ok (.iload_n 1, 1) := by decide +kernel
theorem dX10_fits_286 : decode cX10_fits 286 = .ok (.if_icmp .ge 147, 3) := by decide +kernel
theorem dX10_fits_289 : decode cX10_fits 289 = .ok (.iload 5, 2) := by decide +kernel
theorem dX10_fits_291 : decode cX10_fits 291 = .ok (.ifCond .eq 142, 3) := by decide +kernel
theorem dX10_fits_294 : decode cX10_fits 294 = .ok (.iconst 0, 1) := by decide +kernel
theorem dX10_fits_295 : decode cX10_fits 295 = .ok (.istore 7, 2) := by decide +kernel
theorem dX10_fits_297 : decode cX10_fits 297 = .ok (.iload 7, 2) := by decide +kernel
theorem dX10_fits_299 : decode cX10_fits 299 = .ok (.iload_n 1, 1) := by decide +kernel
theorem dX10_fits_300 : decode cX10_fits 300 = .ok (.if_icmp .ge 127, 3) := by decide +kernel
theorem dX10_fits_303 : decode cX10_fits 303 = .ok (.aload_n 0, 1) := by decide +kernel
theorem dX10_fits_304 : decode cX10_fits 304 = .ok (.getfield 107, 3) := by decide +kernel
theorem dX10_fits_307 : decode cX10_fits 307 = .ok (.iload 7, 2) := by decide +kernel
theorem dX10_fits_309 : decode cX10_fits 309 = .ok (.iaload, 1) := by decide +kernel
theorem dX10_fits_310 : decode cX10_fits 310 = .ok (.aload_n 0, 1) := by decide +kernel
theorem dX10_fits_311 : decode cX10_fits 311 = .ok (.getfield 107, 3) := by decide +kernel
theorem dX10_fits_314 : decode cX10_fits 314 = .ok (.iload 6, 2) := by decide +kernel
theorem dX10_fits_316 : decode cX10_fits 316 = .ok (.iaload, 1) := by decide +kernel
theorem dX10_fits_317 : decode cX10_fits 317 = .ok (.iconst 1, 1) := by decide +kernel
theorem dX10_fits_318 : decode cX10_fits 318 = .ok (.iadd, 1) := by decide +kernel
theorem dX10_fits_319 : decode cX10_fits 319 = .ok (.if_icmp .ne 39, 3) := by decide +kernel
theorem dX10_fits_322 : decode cX10_fits 322 = .ok (.aload_n 0, 1) := by decide +kernel
theorem dX10_fits_323 : decode cX10_fits 323 = .ok (.getfield 19, 3) := by decide +kernel
theorem dX10_fits_326 : decode cX10_fits 326 = .ok (.aload_n 0, 1) := by decide +kernel
theorem dX10_fits_327 : decode cX10_fits 327 = .ok (.getfield 104, 3) := by decide +kernel
theorem dX10_fits_330 : decode cX10_fits 330 = .ok (.iload 6, 2) := by decide +kernel
theorem dX10_fits_332 : decode cX10_fits 332 = .ok (.iaload, 1) := by decide +kernel
theorem dX10_fits_333 : decode cX10_fits 333 = .ok (.iaload, 1) := by decide +kernel
theorem dX10_fits_334 : decode cX10_fits 334 = .ok (.iconst (-1), 1) := by decide +kernel
theorem dX10_fits_335 : decode cX10_fits 335 = .ok (.if_icmp .eq 23, 3) := by decide +kernel
theorem dX10_fits_338 : decode cX10_fits 338 = .ok (.aload_n 0, 1) := by decide +kernel
theorem dX10_fits_339 : decode cX10_fits 339 = .ok (.getfield 19, 3) := by decide +kernel
theorem dX10_fits_342 : decode cX10_fits 342 = .ok (.aload_n 0, 1) := by decide +kernel
theorem dX10_fits_343 : decode cX10_fits 343 = .ok (.getfield 104, 3) := by decide +kernel
theorem dX10_fits_346 : decode cX10_fits 346 = .ok (.iload 7, 2) := by decide +kernel
theorem dX10_fits_348 : decode cX10_fits 348 = .ok (.iaload, 1) := by decide +kernel
theorem dX10_fits_349 : decode cX10_fits 349 = .ok (.iaload, 1) := by decide +kernel
theorem dX10_fits_350 : decode cX10_fits 350 = .ok (.iconst (-1), 1) := by decide +kernel
theorem dX10_fits_351 : decode cX10_fits 351 = .ok (.if_icmp .eq 7, 3) := by decide +kernel
theorem dX10_fits_354 : decode cX10_fits 354 = .ok (.iconst 1, 1) := by decide +kernel
theorem dX10_fits_355 : decode cX10_fits 355 = .ok (.goto 4, 3) := by decide +kernel
theorem dX10_fits_358 : decode cX10_fits 358 = .ok (.iconst 0, 1) := by decide +kernel
theorem dX10_fits_359 : decode cX10_fits 359 = .ok (.istore 8, 2) := by decide +kernel
theorem dX10_fits_361 : decode cX10_fits 361 = .ok (.iload 5, 2) := by decide +kernel
theorem dX10_fits_363 : decode cX10_fits 363 = .ok (.ifCond .eq 55, 3) := by decide +kernel
theorem dX10_fits_366 : decode cX10_fits 366 = .ok (.iload 8, 2) := by decide +kernel
theorem dX10_fits_368 : decode cX10_fits 368 = .ok (.ifCond .eq 46, 3) := by decide +kernel
theorem dX10_fits_371 : decode cX10_fits 371 = .ok (.aload_n 0, 1) := by decide +kernel
theorem dX10_fits_372 : decode cX10_fits 372 = .ok (.getfield 19, 3) := by decide +kernel
theorem dX10_fits_375 : decode cX10_fits 375 = .ok (.aload_n 0, 1) := by decide +kernel
theorem dX10_fits_376 : decode cX10_fits 376 = .ok (.getfield 104, 3) := by decide +kernel
theorem dX10_fits_379 : decode cX10_fits 379 = .ok (.iload 6, 2) := by decide +kernel
theorem dX10_fits_381 : decode cX10_fits 381 = .ok (.iaload, 1) := by decide +kernel
theorem dX10_fits_382 : decode cX10_fits 382 = .ok (.iaload, 1) := by decide +kernel
theorem dX10_fits_383 : decode cX10_fits 383 = .ok (.ifCond .ne 7, 3) := by decide +kernel
theorem dX10_fits_386 : decode cX10_fits 386 = .ok (.iconst 1, 1) := by decide +kernel
theorem dX10_fits_387 : decode cX10_fits 387 = .ok (.goto 4, 3) := by decide +kernel
theorem dX10_fits_390 : decode cX10_fits 390 = .ok (.iconst 0, 1) := by decide +kernel
theorem dX10_fits_391 : decode cX10_fits 391 = .ok (.aload_n 0, 1) := by decide +kernel
theorem dX10_fits_392 : decode cX10_fits 392 = .ok (.getfield 19, 3) := by decide +kernel
theorem dX10_fits_395 : decode cX10_fits 395 = .ok (.aload_n 0, 1) := by decide +kernel
theorem dX10_fits_396 : decode cX10_fits 396 = .ok (.getfield 104, 3) := by decide +kernel
theorem dX10_fits_399 : decode cX10_fits 399 = .ok (.iload 7, 2) := by decide +kernel
theorem dX10_fits_401 : decode cX10_fits 401 = .ok (.iaload, 1) := by decide +kernel
theorem dX10_fits_402 : decode cX10_fits 402 = .ok (.iaload, 1) := by decide +kernel
theorem dX10_fits_403 : decode cX10_fits 403 = .ok (.ifCond .ne 7, 3) := by decide +kernel
theorem dX10_fits_406 : decode cX10_fits 406 = .ok (.iconst 1, 1) := by decide +kernel
theorem dX10_fits_407 : decode cX10_fits 407 = .ok (.goto 4, 3) := by decide +kernel
theorem dX10_fits_410 : decode cX10_fits 410 = .ok (.iconst 0, 1) := by decide +kernel
theorem dX10_fits_411 : decode cX10_fits 411 = .ok (.if_icmp .eq 7, 3) := by decide +kernel
theorem dX10_fits_414 : decode cX10_fits 414 = .ok (.iconst 1, 1) := by decide +kernel
theorem dX10_fits_415 : decode cX10_fits 415 = .ok (.goto 4, 3) := by decide +kernel
theorem dX10_fits_418 : decode cX10_fits 418 = .ok (.iconst 0, 1) := by decide +kernel
theorem dX10_fits_419 : decode cX10_fits 419 = .ok (.istore 5, 2) := by decide +kernel
theorem dX10_fits_421 : decode cX10_fits 421 = .ok (.iinc 7 1, 3) := by decide +kernel
theorem dX10_fits_424 : decode cX10_fits 424 = .ok (.goto (-127), 3) := by decide +kernel
theorem dX10_fits_427 : decode cX10_fits 427 = .ok (.iinc 6 1, 3) := by decide +kernel
theorem dX10_fits_430 : decode cX10_fits 430 = .ok (.goto (-147), 3) := by decide +kernel
theorem dX10_fits_433 : decode cX10_fits 433 = .ok (.iload 5, 2) := by decide +kernel
theorem dX10_fits_435 : decode cX10_fits 435 = .ok (.ireturn, 1) := by decide +kernel
theorem dX10_arranges_0 : decode cX10_arranges 0 = .ok (.iconst 0, 1) := by decide +kernel
theorem dX10_arranges_1 : decode cX10_arranges 1 = .ok (.istore 6, 2) := by decide +kernel
theorem dX10_arranges_3 : decode cX10_arranges 3 = .ok (.iconst 0, 1) := by decide +kernel
theorem dX10_arranges_4 : decode cX10_arranges 4 = .ok (.istore 7, 2) := by decide +kernel
theorem dX10_arranges_6 : decode cX10_arranges 6 = .ok (.iload 7, 2) := by decide +kernel
theorem dX10_arranges_8 : decode cX10_arranges 8 = .ok (.aload_n 0, 1) := by decide +kernel
theorem dX10_arranges_9 : decode cX10_arranges 9 = .ok (.getfield 126, 3) := by decide +kernel
theorem dX10_arranges_12 : decode cX10_arranges 12 = .ok (.if_icmp .ge 40, 3) := by decide +kernel
theorem dX10_arranges_15 : decode cX10_arranges 15 = .ok (.aload_n 0, 1) := by decide +kernel
theorem dX10_arranges_16 : decode cX10_arranges 16 = .ok (.getfield 7, 3) := by decide +kernel
theorem dX10_arranges_19 : decode cX10_arranges 19 = .ok (.iload 7, 2) := by decide +kernel
theorem dX10_arranges_21 : decode cX10_arranges 21 = .ok (.iaload, 1) := by decide +kernel
theorem dX10_arranges_22 : decode cX10_arranges 22 = .ok (.iload_n 1, 1) := by decide +kernel
theorem dX10_arranges_23 : decode cX10_arranges 23 = .ok (.if_icmp .ne 23, 3) := by decide +kernel
theorem dX10_arranges_26 : decode cX10_arranges 26 = .ok (.aload_n 0, 1) := by decide +kernel
theorem dX10_arranges_27 : decode cX10_arranges 27 = .ok (.getfield 104, 3) := by decide +kernel
theorem dX10_arranges_30 : decode cX10_arranges 30 = .ok (.iload 6, 2) := by decide +kernel
theorem dX10_arranges_32 : decode cX10_arranges 32 = .ok (.iload 7, 2) := by decide +kernel
theorem dX10_arranges_34 : decode cX10_arranges 34 = .ok (.iastore, 1) := by decide +kernel
theorem dX10_arranges_35 : decode cX10_arranges 35 = .ok (.aload_n 0, 1) := by decide +kernel
theorem dX10_arranges_36 : decode cX10_arranges 36 = .ok (.getfield 110, 3) := by decide +kernel
theorem dX10_arranges_39 : decode cX10_arranges 39 = .ok (.iload 7, 2) := by decide +kernel
theorem dX10_arranges_41 : decode cX10_arranges 41 = .ok (.iconst 0, 1) := by decide +kernel
theorem dX10_arranges_42 : decode cX10_arranges 42 = .ok (.iastore, 1) := by decide +kernel
theorem dX10_arranges_43 : decode cX10_arranges 43 = .ok (.iinc 6 1, 3) := by decide +kernel
theorem dX10_arranges_46 : decode cX10_arranges 46 = .ok (.iinc 7 1, 3) := by decide +kernel
theorem dX10_arranges_49 : decode cX10_arranges 49 = .ok (.goto (-43), 3) := by decide +kernel
theorem dX10_arranges_52 : decode cX10_arranges 52 = .ok (.aload_n 0, 1) := by decide +kernel
theorem dX10_arranges_53 : decode cX10_arranges 53 = .ok (.iload 6, 2) := by decide +kernel
theorem dX10_arranges_55 : decode cX10_arranges 55 = .ok (.ifCond .ne 7, 3) := by decide +kernel
theorem dX10_arranges_58 : decode cX10_arranges 58 = .ok (.iconst 1, 1) := by decide +kernel
theorem dX10_arranges_59 : decode cX10_arranges 59 = .ok (.goto 4, 3) := by decide +kernel
theorem dX10_arranges_62 : decode cX10_arranges 62 = .ok (.iconst 0, 1) := by decide +kernel
theorem dX10_arranges_63 : decode cX10_arranges 63 = .ok (.putfield 195, 3) := by decide +kernel
theorem dX10_arranges_66 : decode cX10_arranges 66 = .ok (.aload_n 0, 1) := by decide +kernel
theorem dX10_arranges_67 : decode cX10_arranges 67 = .ok (.iconst 0, 1) := by decide +kernel
theorem dX10_arranges_68 : decode cX10_arranges 68 = .ok (.putfield 198, 3) := by decide +kernel
theorem dX10_arranges_71 : decode cX10_arranges 71 = .ok (.iconst 2, 1) := by decide +kernel
theorem dX10_arranges_72 : decode cX10_arranges 72 = .ok (.aload_n 0, 1) := by decide +kernel
theorem dX10_arranges_73 : decode cX10_arranges 73 = .ok (.getfield 37, 3) := by decide +kernel
theorem dX10_arranges_76 : decode cX10_arranges 76 = .ok (.iload_n 1, 1) := by decide +kernel
theorem dX10_arranges_77 : decode cX10_arranges 77 = .ok (.iaload, 1) := by decide +kernel
theorem dX10_arranges_78 : decode cX10_arranges 78 = .ok (.imul, 1) := by decide +kernel
theorem dX10_arranges_79 : decode cX10_arranges 79 = .ok (.istore 7, 2) := by decide +kernel
theorem dX10_arranges_81 : decode cX10_arranges 81 = .ok (.iconst 0, 1) := by decide +kernel
theorem dX10_arranges_82 : decode cX10_arranges 82 = .ok (.istore 8, 2) := by decide +kernel
theorem dX10_arranges_84 : decode cX10_arranges 84 = .ok (.aload_n 0, 1) := by decide +kernel
theorem dX10_arranges_85 : decode cX10_arranges 85 = .ok (.getfield 107, 3) := by decide +kernel
theorem dX10_arranges_88 : decode cX10_arranges 88 = .ok (.iconst 0, 1) := by decide +kernel
theorem dX10_arranges_89 : decode cX10_arranges 89 = .ok (.iconst (-1), 1) := by decide +kernel
theorem dX10_arranges_90 : decode cX10_arranges 90 = .ok (.iastore, 1) := by decide +kernel
theorem dX10_arranges_91 : decode cX10_arranges 91 = .ok (.iload 8, 2) := by decide +kernel
theorem dX10_arranges_93 : decode cX10_arranges 93 = .ok (.ifCond .lt 228, 3) := by decide +kernel
theorem dX10_arranges_96 : decode cX10_arranges 96 = .ok (.iload 6, 2) := by decide +kernel
theorem dX10_arranges_98 : decode cX10_arranges 98 = .ok (.ifCond .le 223, 3) := by decide +kernel
theorem dX10_arranges_101 : decode cX10_arranges 101 = .ok (.aload_n 0, 1) := by decide +kernel
theorem dX10_arranges_102 : decode cX10_arranges 102 = .ok (.getfield 107, 3) := by decide +kernel
theorem dX10_arranges_105 : decode cX10_arranges 105 = .ok (.iload 8, 2) := by decide +kernel
theorem dX10_arranges_107 : decode cX10_arranges 107 = .ok (.dup2, 1) := by decide +kernel
theorem dX10_arranges_108 : decode cX10_arranges 108 = .ok (.iaload, 1) := by decide +kernel
theorem dX10_arranges_109 : decode cX10_arranges 109 = .ok (.iconst 1, 1) := by decide +kernel
theorem dX10_arranges_110 : decode cX10_arranges 110 = .ok (.iadd, 1) := by decide +kernel
theorem dX10_arranges_111 : decode cX10_arranges 111 = .ok (.iastore, 1) := by decide +kernel
theorem dX10_arranges_112 : decode cX10_arranges 112 = .ok (.iconst 1, 1) := by decide +kernel
theorem dX10_arranges_113 : decode cX10_arranges 113 = .ok (.istore 9, 2) := by decide +kernel
theorem dX10_arranges_115 : decode cX10_arranges 115 = .ok (.iconst 0, 1) := by decide +kernel
theorem dX10_arranges_116 : decode cX10_arranges 116 = .ok (.istore 10, 2) := by decide +kernel
theorem dX10_arranges_118 : decode cX10_arranges 118 = .ok (.iload 10, 2) := by decide +kernel
theorem dX10_arranges_120 : decode cX10_arranges 120 = .ok (.iload 8, 2) := by decide +kernel
theorem dX10_arranges_122 : decode cX10_arranges 122 = .ok (.if_icmp .ge 38, 3) := by decide +kernel
theorem dX10_arranges_125 : decode cX10_arranges 125 = .ok (.iload 9, 2) := by decide +kernel
theorem dX10_arranges_127 : decode cX10_arranges 127 = .ok (.ifCond .eq 24, 3) := by decide +kernel
theorem dX10_arranges_130 : decode cX10_arranges 130 = .ok (.aload_n 0, 1) := by decide +kernel
theorem dX10_arranges_131 : decode cX10_arranges 131 = .ok (.getfield 107, 3) := by decide +kernel
theorem dX10_arranges_134 : decode cX10_arranges 134 = .ok (.iload 10, 2) := by decide +kernel
theorem dX10_arranges_136 : decode cX10_arranges 136 = .ok (.iaload, 1) := by decide +kernel
theorem dX10_arranges_137 : decode cX10_arranges 137 = .ok (.aload_n 0, 1) := by decide +kernel
theorem dX10_arranges_138 : decode cX10_arranges 138 = .ok (.getfield 107, 3) := by decide +kernel
theorem dX10_arranges_141 : decode cX10_arranges 141 = .ok (.iload 8, 2) := by decide +kernel
theorem dX10_arranges_143 : decode cX10_arranges 143 = .ok (.iaload, 1) := by decide +kernel
theorem dX10_arranges_144 : decode cX10_arranges 144 = .ok (.if_icmp .eq 7, 3) := by decide +kernel
theorem dX10_arranges_147 : decode cX10_arranges 147 = .ok (.iconst 1, 1) := by decide +kernel
theorem dX10_arranges_148 : decode cX10_arranges 148 = .ok (.goto 4, 3) := by decide +kernel
theorem dX10_arranges_151 : decode cX10_arranges 151 = .ok (.iconst 0, 1) := by decide +kernel
theorem dX10_arranges_152 : decode cX10_arranges 152 = .ok (.istore 9, 2) := by decide +kernel
theorem dX10_arranges_154 : decode cX10_arranges 154 = .ok (.iinc 10 1, 3) := by decide +kernel
theorem dX10_arranges_157 : decode cX10_arranges 157 = .ok (.goto (-39), 3) := by decide +kernel
theorem dX10_arranges_160 : decode cX10_arranges 160 = .ok (.aload_n 0, 1) := by decide +kernel
theorem dX10_arranges_161 : decode cX10_arranges 161 = .ok (.getfield 107, 3) := by decide +kernel
theorem dX10_arranges_164 : decode cX10_arranges 164 = .ok (.iload 8, 2) := by decide +kernel
theorem dX10_arranges_166 : decode cX10_arranges 166 = .ok (.iaload, 1) := by decide +kernel
theorem dX10_arranges_167 : decode cX10_arranges 167 = .ok (.iload 7, 2) := by decide +kernel
theorem dX10_arranges_169 : decode cX10_arranges 169 = .ok (.if_icmp .lt 9, 3) := by decide +kernel
theorem dX10_arranges_172 : decode cX10_arranges 172 = .ok (.iinc 8 (-1), 3) := by decide +kernel
theorem dX10_arranges_175 : decode cX10_arranges 175 = .ok (.goto 143, 3) := by decide +kernel
theorem dX10_arranges_178 : decode cX10_arranges 178 = .ok (.iload 9, 2) := by decide +kernel
theorem dX10_arranges_180 : decode cX10_arranges 180 = .ok (.ifCond .eq 26, 3) := by decide +kernel
theorem dX10_arranges_183 : decode cX10_arranges 183 = .ok (.iload 8, 2) := by decide +kernel
theorem dX10_arranges_185 : decode cX10_arranges 185 = .ok (.iload 6, 2) := by decide +kernel
theorem dX10_arranges_187 : decode cX10_arranges 187 = .ok (.iconst 1, 1) := by decide +kernel
theorem dX10_arranges_188 : decode cX10_arranges 188 = .ok (.isub, 1) := by decide +kernel
theorem dX10_arranges_189 : decode cX10_arranges 189 = .ok (.if_icmp .ge 17, 3) := by decide +kernel
theorem dX10_arranges_192 : decode cX10_arranges 192 = .ok (.iinc 8 1, 3) := by decide +kernel
theorem dX10_arranges_195 : decode cX10_arranges 195 = .ok (.aload_n 0, 1) := by decide +kernel
theorem dX10_arranges_196 : decode cX10_arranges 196 = .ok (.getfield 107, 3) := by decide +kernel
theorem dX10_arranges_199 : decode cX10_arranges 199 = .ok (.iload 8, 2) := by decide +kernel
theorem dX10_arranges_201 : decode cX10_arranges 201 = .ok (.iconst (-1), 1) := by decide +kernel
theorem dX10_arranges_202 : decode cX10_arranges 202 = .ok (.iastore, 1) := by decide +kernel
theorem dX10_arranges_203 : decode cX10_arranges 203 = .ok (.goto 115, 3) := by decide +kernel
theorem dX10_arranges_206 : decode cX10_arranges 206 = .ok (.iload 9, 2) := by decide +kernel
theorem dX10_arranges_208 : decode cX10_arranges 208 = .ok (.ifCond .eq 110, 3) := by decide +kernel
theorem dX10_arranges_211 : decode cX10_arranges 211 = .ok (.aload_n 0, 1) := by decide +kernel
theorem dX10_arranges_212 : decode cX10_arranges 212 = .ok (.iload 6, 2) := by decide +kernel
theorem dX10_arranges_214 : decode cX10_arranges 214 = .ok (.iload 7, 2) := by decide +kernel
theorem dX10_arranges_216 : decode cX10_arranges 216 = .ok (.iload_n 2, 1) := by decide +kernel
theorem dX10_arranges_217 : decode cX10_arranges 217 = .ok (.iload_n 3, 1) := by decide +kernel
theorem dX10_arranges_218 : decode cX10_arranges 218 = .ok (.invokevirtual 201, 3) := by decide +kernel
theorem dX10_arranges_221 : decode cX10_arranges 221 = .ok (.ifCond .eq 97, 3) := by decide +kernel
theorem dX10_arranges_224 : decode cX10_arranges 224 = .ok (.aload_n 0, 1) := by decide +kernel
theorem dX10_arranges_225 : decode cX10_arranges 225 = .ok (.dup, 1) := by decide +kernel
theorem dX10_arranges_226 : decode cX10_arranges 226 = .ok (.getfield 195, 3) := by decide +kernel
theorem dX10_arranges_229 : decode cX10_arranges 229 = .ok (.iconst 1, 1) := by decide +kernel
theorem dX10_arranges_230 : decode cX10_arranges 230 = .ok (.iadd, 1) := by decide +kernel
theorem dX10_arranges_231 : decode cX10_arranges 231 = .ok (.putfield 195, 3) := by decide +kernel
theorem dX10_arranges_234 : decode cX10_arranges 234 = .ok (.iconst 0, 1) := by decide +kernel
theorem dX10_arranges_235 : decode cX10_arranges 235 = .ok (.istore 10, 2) := by decide +kernel
theorem dX10_arranges_237 : decode cX10_arranges 237 = .ok (.iload 10, 2) := by decide +kernel
theorem dX10_arranges_239 : decode cX10_arranges 239 = .ok (.iload 6, 2) := by decide +kernel
theorem dX10_arranges_241 : decode cX10_arranges 241 = .ok (.if_icmp .ge 33, 3) := by decide +kernel
theorem dX10_arranges_244 : decode cX10_arranges 244 = .ok (.aload_n 0, 1) := by decide +kernel
theorem dX10_arranges_245 : decode cX10_arranges 245 = .ok (.getfield 110, 3) := by decide +kernel
theorem dX10_arranges_248 : decode cX10_arranges 248 = .ok (.aload_n 0, 1) := by decide +kernel
theorem dX10_arranges_249 : decode cX10_arranges 249 = .ok (.getfield 104, 3) := by decide +kernel
theorem dX10_arranges_252 : decode cX10_arranges 252 = .ok (.iload 10, 2) := by decide +kernel
theorem dX10_arranges_254 : decode cX10_arranges 254 = .ok (.iaload, 1) := by decide +kernel
theorem dX10_arranges_255 : decode cX10_arranges 255 = .ok (.dup2, 1) := by decide +kernel
theorem dX10_arranges_256 : decode cX10_arranges 256 = .ok (.iaload, 1) := by decide +kernel
theorem dX10_arranges_257 : decode cX10_arranges 257 = .ok (.iconst 1, 1) := by decide +kernel
theorem dX10_arranges_258 : decode cX10_arranges 258 = .ok (.aload_n 0, 1) := by decide +kernel
theorem dX10_arranges_259 : decode cX10_arranges 259 = .ok (.getfield 107, 3) := by decide +kernel
theorem dX10_arranges_262 : decode cX10_arranges 262 = .ok (.iload 10, 2) := by decide +kernel
theorem dX10_arranges_264 : decode cX10_arranges 264 = .ok (.iaload, 1) := by decide +kernel
theorem dX10_arranges_265 : decode cX10_arranges 265 = .ok (.ishl, 1) := by decide +kernel
theorem dX10_arranges_266 : decode cX10_arranges 266 = .ok (.ior, 1) := by decide +kernel
theorem dX10_arranges_267 : decode cX10_arranges 267 = .ok (.iastore, 1) := by decide +kernel
theorem dX10_arranges_268 : decode cX10_arranges 268 = .ok (.iinc 10 1, 3) := by decide +kernel
theorem dX10_arranges_271 : decode cX10_arranges 271 = .ok (.goto (-34), 3) := by decide +kernel
theorem dX10_arranges_274 : decode cX10_arranges 274 = .ok (.aload_n 0, 1) := by decide +kernel
theorem dX10_arranges_275 : decode cX10_arranges 275 = .ok (.dup, 1) := by decide +kernel
theorem dX10_arranges_276 : decode cX10_arranges 276 = .ok (.getfield 198, 3) := by decide +kernel
theorem dX10_arranges_279 : decode cX10_arranges 279 = .ok (.iload 4, 2) := by decide +kernel
theorem dX10_arranges_281 : decode cX10_arranges 281 = .ok (.iconst (-1), 1) := by decide +kernel
theorem dX10_arranges_282 : decode cX10_arranges 282 = .ok (.if_icmp .eq 31, 3) := by decide +kernel
theorem dX10_arranges_285 : decode cX10_arranges 285 = .ok (.aload_n 0, 1) := by decide +kernel
theorem dX10_arranges_286 : decode cX10_arranges 286 = .ok (.iload 4, 2) := by decide +kernel
theorem dX10_arranges_288 : decode cX10_arranges 288 = .ok (.iload 6, 2) := by decide +kernel
theorem dX10_arranges_290 : decode cX10_arranges 290 = .ok (.invokevirtual 188, 3) := by decide +kernel
theorem dX10_arranges_293 : decode cX10_arranges 293 = .ok (.aload_n 0, 1) := by decide +kernel
theorem dX10_arranges_294 : decode cX10_arranges 294 = .ok (.iload 5, 2) := by decide +kernel
theorem dX10_arranges_296 : decode cX10_arranges 296 = .ok (.iload 6, 2) := by decide +kernel
theorem dX10_arranges_298 : decode cX10_arranges 298 = .ok (.invokevirtual 188, 3) := by decide +kernel
theorem dX10_arranges_301 : decode cX10_arranges 301 = .ok (.iadd, 1) := by decide +kernel
theorem dX10_arranges_302 : decode cX10_arranges 302 = .ok (.iload 7, 2) := by decide +kernel
theorem dX10_arranges_304 : decode cX10_arranges 304 = .ok (.iconst 1, 1) := by decide +kernel
theorem dX10_arranges_305 : decode cX10_arranges 305 = .ok (.isub, 1) := by decide +kernel
theorem dX10_arranges_306 : decode cX10_arranges 306 = .ok (.if_icmp .ne 7, 3) := by decide +kernel
theorem dX10_arranges_309 : decode cX10_arranges 309 = .ok (.iconst 1, 1) := by decide +kernel
theorem dX10_arranges_310 : decode cX10_arranges 310 = .ok (.goto 4, 3) := by decide +kernel
theorem dX10_arranges_313 : decode cX10_arranges 313 = .ok (.iconst 0, 1) := by decide +kernel
theorem dX10_arranges_314 : decode cX10_arranges 314 = .ok (.iadd, 1) := by decide +kernel
theorem dX10_arranges_315 : decode cX10_arranges 315 = .ok (.putfield 198, 3) := by decide +kernel
theorem dX10_arranges_318 : decode cX10_arranges 318 = .ok (.goto (-227), 3) := by decide +kernel
theorem dX10_arranges_321 : decode cX10_arranges 321 = .ok (.return_, 1) := by decide +kernel
theorem dX10_arrangements_0 : decode cX10_arrangements 0 = .ok (.aload_n 0, 1) := by decide +kernel
theorem dX10_arrangements_1 : decode cX10_arrangements 1 = .ok (.iload_n 1, 1) := by decide +kernel
theorem dX10_arrangements_2 : decode cX10_arrangements 2 = .ok (.iconst 0, 1) := by decide +kernel
theorem dX10_arrangements_3 : decode cX10_arrangements 3 = .ok (.iconst 1, 1) := by decide +kernel
theorem dX10_arrangements_4 : decode cX10_arrangements 4 = .ok (.invokestatic 129, 3) := by decide +kernel
theorem dX10_arrangements_7 : decode cX10_arrangements 7 = .ok (.ifCond .eq 7, 3) := by decide +kernel
theorem dX10_arrangements_10 : decode cX10_arrangements 10 = .ok (.iconst 0, 1) := by decide +kernel
theorem dX10_arrangements_11 : decode cX10_arrangements 11 = .ok (.goto 4, 3) := by decide +kernel
theorem dX10_arrangements_14 : decode cX10_arrangements 14 = .ok (.iconst 1, 1) := by decide +kernel
theorem dX10_arrangements_15 : decode cX10_arrangements 15 = .ok (.putfield 122, 3) := by decide +kernel
theorem dX10_arrangements_18 : decode cX10_arrangements 18 = .ok (.aload_n 0, 1) := by decide +kernel
theorem dX10_arrangements_19 : decode cX10_arrangements 19 = .ok (.getfield 122, 3) := by decide +kernel
theorem dX10_arrangements_22 : decode cX10_arrangements 22 = .ok (.ifCond .le 5, 3) := by decide +kernel
theorem dX10_arrangements_25 : decode cX10_arrangements 25 = .ok (.iconst 0, 1) := by decide +kernel
theorem dX10_arrangements_26 : decode cX10_arrangements 26 = .ok (.ireturn, 1) := by decide +kernel
theorem dX10_arrangements_27 : decode cX10_arrangements 27 = .ok (.aload_n 0, 1) := by decide +kernel
theorem dX10_arrangements_28 : decode cX10_arrangements 28 = .ok (.iload_n 1, 1) := by decide +kernel
theorem dX10_arrangements_29 : decode cX10_arrangements 29 = .ok (.iload_n 2, 1) := by decide +kernel
theorem dX10_arrangements_30 : decode cX10_arrangements 30 = .ok (.iconst (-1), 1) := by decide +kernel
theorem dX10_arrangements_31 : decode cX10_arrangements 31 = .ok (.iconst (-1), 1) := by decide +kernel
theorem dX10_arrangements_32 : decode cX10_arrangements 32 = .ok (.iconst (-1), 1) := by decide +kernel
theorem dX10_arrangements_33 : decode cX10_arrangements 33 = .ok (.invokevirtual 205, 3) := by decide +kernel
theorem dX10_arrangements_36 : decode cX10_arrangements 36 = .ok (.aload_n 0, 1) := by decide +kernel
theorem dX10_arrangements_37 : decode cX10_arrangements 37 = .ok (.getfield 195, 3) := by decide +kernel
theorem dX10_arrangements_40 : decode cX10_arrangements 40 = .ok (.ireturn, 1) := by decide +kernel
theorem dX10_places_0 : decode cX10_places 0 = .ok (.aload_n 0, 1) := by decide +kernel
theorem dX10_places_1 : decode cX10_places 1 = .ok (.aload_n 0, 1) := by decide +kernel
theorem dX10_places_2 : decode cX10_places 2 = .ok (.iload_n 1, 1) := by decide +kernel
theorem dX10_places_3 : decode cX10_places 3 = .ok (.invokevirtual 133, 3) := by decide +kernel
theorem dX10_places_6 : decode cX10_places 6 = .ok (.ifCond .eq 7, 3) := by decide +kernel
theorem dX10_places_9 : decode cX10_places 9 = .ok (.iconst 0, 1) := by decide +kernel
theorem dX10_places_10 : decode cX10_places 10 = .ok (.goto 4, 3) := by decide +kernel
theorem dX10_places_13 : decode cX10_places 13 = .ok (.iconst 1, 1) := by decide +kernel
theorem dX10_places_14 : decode cX10_places 14 = .ok (.putfield 122, 3) := by decide +kernel
theorem dX10_places_17 : decode cX10_places 17 = .ok (.aload_n 0, 1) := by decide +kernel
theorem dX10_places_18 : decode cX10_places 18 = .ok (.getfield 122, 3) := by decide +kernel
theorem dX10_places_21 : decode cX10_places 21 = .ok (.ifCond .le 5, 3) := by decide +kernel
theorem dX10_places_24 : decode cX10_places 24 = .ok (.iconst 0, 1) := by decide +kernel
theorem dX10_places_25 : decode cX10_places 25 = .ok (.ireturn, 1) := by decide +kernel
theorem dX10_places_26 : decode cX10_places 26 = .ok (.aload_n 0, 1) := by decide +kernel
theorem dX10_places_27 : decode cX10_places 27 = .ok (.aload_n 0, 1) := by decide +kernel
theorem dX10_places_28 : decode cX10_places 28 = .ok (.getfield 7, 3) := by decide +kernel
theorem dX10_places_31 : decode cX10_places 31 = .ok (.iload_n 1, 1) := by decide +kernel
theorem dX10_places_32 : decode cX10_places 32 = .ok (.iaload, 1) := by decide +kernel
theorem dX10_places_33 : decode cX10_places 33 = .ok (.iload_n 2, 1) := by decide +kernel
theorem dX10_places_34 : decode cX10_places 34 = .ok (.iconst (-1), 1) := by decide +kernel
theorem dX10_places_35 : decode cX10_places 35 = .ok (.iconst (-1), 1) := by decide +kernel
theorem dX10_places_36 : decode cX10_places 36 = .ok (.iconst (-1), 1) := by decide +kernel
theorem dX10_places_37 : decode cX10_places 37 = .ok (.invokevirtual 205, 3) := by decide +kernel
theorem dX10_places_40 : decode cX10_places 40 = .ok (.aload_n 0, 1) := by decide +kernel
theorem dX10_places_41 : decode cX10_places 41 = .ok (.getfield 110, 3) := by decide +kernel
theorem dX10_places_44 : decode cX10_places 44 = .ok (.iload_n 1, 1) := by decide +kernel
theorem dX10_places_45 : decode cX10_places 45 = .ok (.iaload, 1) := by decide +kernel
theorem dX10_places_46 : decode cX10_places 46 = .ok (.ireturn, 1) := by decide +kernel
theorem dX10_joined_0 : decode cX10_joined 0 = .ok (.aload_n 0, 1) := by decide +kernel
theorem dX10_joined_1 : decode cX10_joined 1 = .ok (.aload_n 0, 1) := by decide +kernel
theorem dX10_joined_2 : decode cX10_joined 2 = .ok (.iload_n 1, 1) := by decide +kernel
theorem dX10_joined_3 : decode cX10_joined 3 = .ok (.invokevirtual 133, 3) := by decide +kernel
theorem dX10_joined_6 : decode cX10_joined 6 = .ok (.ifCond .eq 11, 3) := by decide +kernel
theorem dX10_joined_9 : decode cX10_joined 9 = .ok (.aload_n 0, 1) := by decide +kernel
theorem dX10_joined_10 : decode cX10_joined 10 = .ok (.iload_n 2, 1) := by decide +kernel
theorem dX10_joined_11 : decode cX10_joined 11 = .ok (.invokevirtual 133, 3) := by decide +kernel
theorem dX10_joined_14 : decode cX10_joined 14 = .ok (.ifCond .ne 7, 3) := by decide +kernel
theorem dX10_joined_17 : decode cX10_joined 17 = .ok (.iconst 1, 1) := by decide +kernel
theorem dX10_joined_18 : decode cX10_joined 18 = .ok (.goto 4, 3) := by decide +kernel
theorem dX10_joined_21 : decode cX10_joined 21 = .ok (.iconst 0, 1) := by decide +kernel
theorem dX10_joined_22 : decode cX10_joined 22 = .ok (.putfield 122, 3) := by decide +kernel
theorem dX10_joined_25 : decode cX10_joined 25 = .ok (.aload_n 0, 1) := by decide +kernel
theorem dX10_joined_26 : decode cX10_joined 26 = .ok (.aload_n 0, 1) := by decide +kernel
theorem dX10_joined_27 : decode cX10_joined 27 = .ok (.getfield 122, 3) := by decide +kernel
theorem dX10_joined_30 : decode cX10_joined 30 = .ok (.ifCond .le 10, 3) := by decide +kernel
theorem dX10_joined_33 : decode cX10_joined 33 = .ok (.aload_n 0, 1) := by decide +kernel
theorem dX10_joined_34 : decode cX10_joined 34 = .ok (.getfield 122, 3) := by decide +kernel
theorem dX10_joined_37 : decode cX10_joined 37 = .ok (.goto 28, 3) := by decide +kernel
theorem dX10_joined_40 : decode cX10_joined 40 = .ok (.iload_n 1, 1) := by decide +kernel
theorem dX10_joined_41 : decode cX10_joined 41 = .ok (.iload_n 2, 1) := by decide +kernel
theorem dX10_joined_42 : decode cX10_joined 42 = .ok (.if_icmp .eq 18, 3) := by decide +kernel
theorem dX10_joined_45 : decode cX10_joined 45 = .ok (.aload_n 0, 1) := by decide +kernel
theorem dX10_joined_46 : decode cX10_joined 46 = .ok (.getfield 7, 3) := by decide +kernel
theorem dX10_joined_49 : decode cX10_joined 49 = .ok (.iload_n 1, 1) := by decide +kernel
theorem dX10_joined_50 : decode cX10_joined 50 = .ok (.iaload, 1) := by decide +kernel
theorem dX10_joined_51 : decode cX10_joined 51 = .ok (.aload_n 0, 1) := by decide +kernel
theorem dX10_joined_52 : decode cX10_joined 52 = .ok (.getfield 7, 3) := by decide +kernel
theorem dX10_joined_55 : decode cX10_joined 55 = .ok (.iload_n 2, 1) := by decide +kernel
theorem dX10_joined_56 : decode cX10_joined 56 = .ok (.iaload, 1) := by decide +kernel
theorem dX10_joined_57 : decode cX10_joined 57 = .ok (.if_icmp .eq 7, 3) := by decide +kernel
theorem dX10_joined_60 : decode cX10_joined 60 = .ok (.iconst 2, 1) := by decide +kernel
theorem dX10_joined_61 : decode cX10_joined 61 = .ok (.goto 4, 3) := by decide +kernel
theorem dX10_joined_64 : decode cX10_joined 64 = .ok (.iconst 0, 1) := by decide +kernel
theorem dX10_joined_65 : decode cX10_joined 65 = .ok (.putfield 122, 3) := by decide +kernel
theorem dX10_joined_68 : decode cX10_joined 68 = .ok (.aload_n 0, 1) := by decide +kernel
theorem dX10_joined_69 : decode cX10_joined 69 = .ok (.getfield 122, 3) := by decide +kernel
theorem dX10_joined_72 : decode cX10_joined 72 = .ok (.ifCond .le 5, 3) := by decide +kernel
theorem dX10_joined_75 : decode cX10_joined 75 = .ok (.iconst 0, 1) := by decide +kernel
theorem dX10_joined_76 : decode cX10_joined 76 = .ok (.ireturn, 1) := by decide +kernel
theorem dX10_joined_77 : decode cX10_joined 77 = .ok (.aload_n 0, 1) := by decide +kernel
theorem dX10_joined_78 : decode cX10_joined 78 = .ok (.aload_n 0, 1) := by decide +kernel
theorem dX10_joined_79 : decode cX10_joined 79 = .ok (.getfield 7, 3) := by decide +kernel
theorem dX10_joined_82 : decode cX10_joined 82 = .ok (.iload_n 1, 1) := by decide +kernel
theorem dX10_joined_83 : decode cX10_joined 83 = .ok (.iaload, 1) := by decide +kernel
theorem dX10_joined_84 : decode cX10_joined 84 = .ok (.iconst 0, 1) := by decide +kernel
theorem dX10_joined_85 : decode cX10_joined 85 = .ok (.iconst (-1), 1) := by decide +kernel
theorem dX10_joined_86 : decode cX10_joined 86 = .ok (.iload_n 1, 1) := by decide +kernel
theorem dX10_joined_87 : decode cX10_joined 87 = .ok (.iload_n 2, 1) := by decide +kernel
theorem dX10_joined_88 : decode cX10_joined 88 = .ok (.invokevirtual 205, 3) := by decide +kernel
theorem dX10_joined_91 : decode cX10_joined 91 = .ok (.aload_n 0, 1) := by decide +kernel
theorem dX10_joined_92 : decode cX10_joined 92 = .ok (.getfield 198, 3) := by decide +kernel
theorem dX10_joined_95 : decode cX10_joined 95 = .ok (.ifCond .ne 7, 3) := by decide +kernel
theorem dX10_joined_98 : decode cX10_joined 98 = .ok (.iconst 0, 1) := by decide +kernel
theorem dX10_joined_99 : decode cX10_joined 99 = .ok (.goto 19, 3) := by decide +kernel
theorem dX10_joined_102 : decode cX10_joined 102 = .ok (.aload_n 0, 1) := by decide +kernel
theorem dX10_joined_103 : decode cX10_joined 103 = .ok (.getfield 198, 3) := by decide +kernel
theorem dX10_joined_106 : decode cX10_joined 106 = .ok (.aload_n 0, 1) := by decide +kernel
theorem dX10_joined_107 : decode cX10_joined 107 = .ok (.getfield 195, 3) := by decide +kernel
theorem dX10_joined_110 : decode cX10_joined 110 = .ok (.if_icmp .ne 7, 3) := by decide +kernel
theorem dX10_joined_113 : decode cX10_joined 113 = .ok (.iconst 2, 1) := by decide +kernel
theorem dX10_joined_114 : decode cX10_joined 114 = .ok (.goto 4, 3) := by decide +kernel
theorem dX10_joined_117 : decode cX10_joined 117 = .ok (.iconst 1, 1) := by decide +kernel
theorem dX10_joined_118 : decode cX10_joined 118 = .ok (.ireturn, 1) := by decide +kernel
theorem dX10_areAlike_0 : decode cX10_areAlike 0 = .ok (.iconst 0, 1) := by decide +kernel
theorem dX10_areAlike_1 : decode cX10_areAlike 1 = .ok (.istore_n 3, 1) := by decide +kernel
theorem dX10_areAlike_2 : decode cX10_areAlike 2 = .ok (.iconst 0, 1) := by decide +kernel
theorem dX10_areAlike_3 : decode cX10_areAlike 3 = .ok (.istore 4, 2) := by decide +kernel
theorem dX10_areAlike_5 : decode cX10_areAlike 5 = .ok (.iload 4, 2) := by decide +kernel
theorem dX10_areAlike_7 : decode cX10_areAlike 7 = .ok (.iconst 3, 1) := by decide +kernel
theorem dX10_areAlike_8 : decode cX10_areAlike 8 = .ok (.if_icmp .ge 50, 3) := by decide +kernel
theorem dX10_areAlike_11 : decode cX10_areAlike 11 = .ok (.aload_n 0, 1) := by decide +kernel
theorem dX10_areAlike_12 : decode cX10_areAlike 12 = .ok (.getfield 25, 3) := by decide +kernel
theorem dX10_areAlike_15 : decode cX10_areAlike 15 = .ok (.iconst 3, 1) := by decide +kernel
theorem dX10_areAlike_16 : decode cX10_areAlike 16 = .ok (.iload_n 1, 1) := by decide +kernel
theorem dX10_areAlike_17 : decode cX10_areAlike 17 = .ok (.imul, 1) := by decide +kernel
theorem dX10_areAlike_18 : decode cX10_areAlike 18 = .ok (.iload 4, 2) := by decide +kernel
theorem dX10_areAlike_20 : decode cX10_areAlike 20 = .ok (.iadd, 1) := by decide +kernel
theorem dX10_areAlike_21 : decode cX10_areAlike 21 = .ok (.iaload, 1) := by decide +kernel
theorem dX10_areAlike_22 : decode cX10_areAlike 22 = .ok (.aload_n 0, 1) := by decide +kernel
theorem dX10_areAlike_23 : decode cX10_areAlike 23 = .ok (.getfield 25, 3) := by decide +kernel
theorem dX10_areAlike_26 : decode cX10_areAlike 26 = .ok (.iconst 3, 1) := by decide +kernel
theorem dX10_areAlike_27 : decode cX10_areAlike 27 = .ok (.iload_n 2, 1) := by decide +kernel
theorem dX10_areAlike_28 : decode cX10_areAlike 28 = .ok (.imul, 1) := by decide +kernel
theorem dX10_areAlike_29 : decode cX10_areAlike 29 = .ok (.iload 4, 2) := by decide +kernel
theorem dX10_areAlike_31 : decode cX10_areAlike 31 = .ok (.iadd, 1) := by decide +kernel
theorem dX10_areAlike_32 : decode cX10_areAlike 32 = .ok (.iaload, 1) := by decide +kernel
theorem dX10_areAlike_33 : decode cX10_areAlike 33 = .ok (.isub, 1) := by decide +kernel
theorem dX10_areAlike_34 : decode cX10_areAlike 34 = .ok (.istore 5, 2) := by decide +kernel
theorem dX10_areAlike_36 : decode cX10_areAlike 36 = .ok (.iload_n 3, 1) := by decide +kernel
theorem dX10_areAlike_37 : decode cX10_areAlike 37 = .ok (.iload 5, 2) := by decide +kernel
theorem dX10_areAlike_39 : decode cX10_areAlike 39 = .ok (.ifCond .ge 9, 3) := by decide +kernel
theorem dX10_areAlike_42 : decode cX10_areAlike 42 = .ok (.iload 5, 2) := by decide +kernel
theorem dX10_areAlike_44 : decode cX10_areAlike 44 = .ok (.ineg, 1) := by decide +kernel
theorem dX10_areAlike_45 : decode cX10_areAlike 45 = .ok (.goto 5, 3) := by decide +kernel
theorem dX10_areAlike_48 : decode cX10_areAlike 48 = .ok (.iload 5, 2) := by decide +kernel
theorem dX10_areAlike_50 : decode cX10_areAlike 50 = .ok (.iadd, 1) := by decide +kernel
theorem dX10_areAlike_51 : decode cX10_areAlike 51 = .ok (.istore_n 3, 1) := by decide +kernel
theorem dX10_areAlike_52 : decode cX10_areAlike 52 = .ok (.iinc 4 1, 3) := by decide +kernel
theorem dX10_areAlike_55 : decode cX10_areAlike 55 = .ok (.goto (-50), 3) := by decide +kernel
theorem dX10_areAlike_58 : decode cX10_areAlike 58 = .ok (.iload_n 3, 1) := by decide +kernel
theorem dX10_areAlike_59 : decode cX10_areAlike 59 = .ok (.bipush 6, 2) := by decide +kernel
theorem dX10_areAlike_61 : decode cX10_areAlike 61 = .ok (.iconst 2, 1) := by decide +kernel
theorem dX10_areAlike_62 : decode cX10_areAlike 62 = .ok (.aload_n 0, 1) := by decide +kernel
theorem dX10_areAlike_63 : decode cX10_areAlike 63 = .ok (.getfield 28, 3) := by decide +kernel
theorem dX10_areAlike_66 : decode cX10_areAlike 66 = .ok (.iload_n 1, 1) := by decide +kernel
theorem dX10_areAlike_67 : decode cX10_areAlike 67 = .ok (.iaload, 1) := by decide +kernel
theorem dX10_areAlike_68 : decode cX10_areAlike 68 = .ok (.imul, 1) := by decide +kernel
theorem dX10_areAlike_69 : decode cX10_areAlike 69 = .ok (.iadd, 1) := by decide +kernel
theorem dX10_areAlike_70 : decode cX10_areAlike 70 = .ok (.iconst 2, 1) := by decide +kernel
theorem dX10_areAlike_71 : decode cX10_areAlike 71 = .ok (.aload_n 0, 1) := by decide +kernel
theorem dX10_areAlike_72 : decode cX10_areAlike 72 = .ok (.getfield 28, 3) := by decide +kernel
theorem dX10_areAlike_75 : decode cX10_areAlike 75 = .ok (.iload_n 2, 1) := by decide +kernel
theorem dX10_areAlike_76 : decode cX10_areAlike 76 = .ok (.iaload, 1) := by decide +kernel
theorem dX10_areAlike_77 : decode cX10_areAlike 77 = .ok (.imul, 1) := by decide +kernel
theorem dX10_areAlike_78 : decode cX10_areAlike 78 = .ok (.iadd, 1) := by decide +kernel
theorem dX10_areAlike_79 : decode cX10_areAlike 79 = .ok (.if_icmp .gt 7, 3) := by decide +kernel
theorem dX10_areAlike_82 : decode cX10_areAlike 82 = .ok (.iconst 1, 1) := by decide +kernel
theorem dX10_areAlike_83 : decode cX10_areAlike 83 = .ok (.goto 4, 3) := by decide +kernel
theorem dX10_areAlike_86 : decode cX10_areAlike 86 = .ok (.iconst 0, 1) := by decide +kernel
theorem dX10_areAlike_87 : decode cX10_areAlike 87 = .ok (.ireturn, 1) := by decide +kernel
theorem dX10_findsHands_0 : decode cX10_findsHands 0 = .ok (.iconst 0, 1) := by decide +kernel
theorem dX10_findsHands_1 : decode cX10_findsHands 1 = .ok (.istore_n 1, 1) := by decide +kernel
theorem dX10_findsHands_2 : decode cX10_findsHands 2 = .ok (.iload_n 1, 1) := by decide +kernel
theorem dX10_findsHands_3 : decode cX10_findsHands 3 = .ok (.aload_n 0, 1) := by decide +kernel
theorem dX10_findsHands_4 : decode cX10_findsHands 4 = .ok (.getfield 126, 3) := by decide +kernel
theorem dX10_findsHands_7 : decode cX10_findsHands 7 = .ok (.if_icmp .ge 16, 3) := by decide +kernel
theorem dX10_findsHands_10 : decode cX10_findsHands 10 = .ok (.aload_n 0, 1) := by decide +kernel
theorem dX10_findsHands_11 : decode cX10_findsHands 11 = .ok (.getfield 113, 3) := by decide +kernel
theorem dX10_findsHands_14 : decode cX10_findsHands 14 = .ok (.iload_n 1, 1) := by decide +kernel
theorem dX10_findsHands_15 : decode cX10_findsHands 15 = .ok (.iload_n 1, 1) := by decide +kernel
theorem dX10_findsHands_16 : decode cX10_findsHands 16 = .ok (.iastore, 1) := by decide +kernel
theorem dX10_findsHands_17 : decode cX10_findsHands 17 = .ok (.iinc 1 1, 3) := by decide +kernel
theorem dX10_findsHands_20 : decode cX10_findsHands 20 = .ok (.goto (-18), 3) := by decide +kernel
theorem dX10_findsHands_23 : decode cX10_findsHands 23 = .ok (.iconst 1, 1) := by decide +kernel
theorem dX10_findsHands_24 : decode cX10_findsHands 24 = .ok (.istore_n 1, 1) := by decide +kernel
theorem dX10_findsHands_25 : decode cX10_findsHands 25 = .ok (.iload_n 1, 1) := by decide +kernel
theorem dX10_findsHands_26 : decode cX10_findsHands 26 = .ok (.ifCond .eq 78, 3) := by decide +kernel
theorem dX10_findsHands_29 : decode cX10_findsHands 29 = .ok (.iconst 0, 1) := by decide +kernel
theorem dX10_findsHands_30 : decode cX10_findsHands 30 = .ok (.istore_n 1, 1) := by decide +kernel
theorem dX10_findsHands_31 : decode cX10_findsHands 31 = .ok (.iconst 0, 1) := by decide +kernel
theorem dX10_findsHands_32 : decode cX10_findsHands 32 = .ok (.istore_n 2, 1) := by decide +kernel
theorem dX10_findsHands_33 : decode cX10_findsHands 33 = .ok (.iload_n 2, 1) := by decide +kernel
theorem dX10_findsHands_34 : decode cX10_findsHands 34 = .ok (.aload_n 0, 1) := by decide +kernel
theorem dX10_findsHands_35 : decode cX10_findsHands 35 = .ok (.getfield 126, 3) := by decide +kernel
theorem dX10_findsHands_38 : decode cX10_findsHands 38 = .ok (.if_icmp .ge 63, 3) := by decide +kernel
theorem dX10_findsHands_41 : decode cX10_findsHands 41 = .ok (.iconst 0, 1) := by decide +kernel
theorem dX10_findsHands_42 : decode cX10_findsHands 42 = .ok (.istore_n 3, 1) := by decide +kernel
theorem dX10_findsHands_43 : decode cX10_findsHands 43 = .ok (.iload_n 3, 1) := by decide +kernel
theorem dX10_findsHands_44 : decode cX10_findsHands 44 = .ok (.aload_n 0, 1) := by decide +kernel
theorem dX10_findsHands_45 : decode cX10_findsHands 45 = .ok (.getfield 126, 3) := by decide +kernel
theorem dX10_findsHands_48 : decode cX10_findsHands 48 = .ok (.if_icmp .ge 47, 3) := by decide +kernel
theorem dX10_findsHands_51 : decode cX10_findsHands 51 = .ok (.aload_n 0, 1) := by decide +kernel
theorem dX10_findsHands_52 : decode cX10_findsHands 52 = .ok (.getfield 113, 3) := by decide +kernel
theorem dX10_findsHands_55 : decode cX10_findsHands 55 = .ok (.iload_n 2, 1) := by decide +kernel
theorem dX10_findsHands_56 : decode cX10_findsHands 56 = .ok (.iaload, 1) := by decide +kernel
theorem dX10_findsHands_57 : decode cX10_findsHands 57 = .ok (.aload_n 0, 1) := by decide +kernel
theorem dX10_findsHands_58 : decode cX10_findsHands 58 = .ok (.getfield 113, 3) := by decide +kernel
theorem dX10_findsHands_61 : decode cX10_findsHands 61 = .ok (.iload_n 3, 1) := by decide +kernel
theorem dX10_findsHands_62 : decode cX10_findsHands 62 = .ok (.iaload, 1) := by decide +kernel
theorem dX10_findsHands_63 : decode cX10_findsHands 63 = .ok (.if_icmp .ge 26, 3) := by decide +kernel
theorem dX10_findsHands_66 : decode cX10_findsHands 66 = .ok (.aload_n 0, 1) := by decide +kernel
theorem dX10_findsHands_67 : decode cX10_findsHands 67 = .ok (.iload_n 2, 1) := by decide +kernel
theorem dX10_findsHands_68 : decode cX10_findsHands 68 = .ok (.iload_n 3, 1) := by decide +kernel
theorem dX10_findsHands_69 : decode cX10_findsHands 69 = .ok (.invokevirtual 209, 3) := by decide +kernel
theorem dX10_findsHands_72 : decode cX10_findsHands 72 = .ok (.ifCond .eq 17, 3) := by decide +kernel
theorem dX10_findsHands_75 : decode cX10_findsHands 75 = .ok (.aload_n 0, 1) := by decide +kernel
theorem dX10_findsHands_76 : decode cX10_findsHands 76 = .ok (.getfield 113, 3) := by decide +kernel
theorem dX10_findsHands_79 : decode cX10_findsHands 79 = .ok (.iload_n 3, 1) := by decide +kernel
theorem dX10_findsHands_80 : decode cX10_findsHands 80 = .ok (.aload_n 0, 1) := by decide +kernel
theorem dX10_findsHands_81 : decode cX10_findsHands 81 = .ok (.getfield 113, 3) := by decide +kernel
theorem dX10_findsHands_84 : decode cX10_findsHands 84 = .ok (.iload_n 2, 1) := by decide +kernel
theorem dX10_findsHands_85 : decode cX10_findsHands 85 = .ok (.iaload, 1) := by decide +kernel
theorem dX10_findsHands_86 : decode cX10_findsHands 86 = .ok (.iastore, 1) := by decide +kernel
theorem dX10_findsHands_87 : decode cX10_findsHands 87 = .ok (.iconst 1, 1) := by decide +kernel
theorem dX10_findsHands_88 : decode cX10_findsHands 88 = .ok (.istore_n 1, 1) := by decide +kernel
theorem dX10_findsHands_89 : decode cX10_findsHands 89 = .ok (.iinc 3 1, 3) := by decide +kernel
theorem dX10_findsHands_92 : decode cX10_findsHands 92 = .ok (.goto (-49), 3) := by decide +kernel
theorem dX10_findsHands_95 : decode cX10_findsHands 95 = .ok (.iinc 2 1, 3) := by decide +kernel
theorem dX10_findsHands_98 : decode cX10_findsHands 98 = .ok (.goto (-65), 3) := by decide +kernel
theorem dX10_findsHands_101 : decode cX10_findsHands 101 = .ok (.goto (-76), 3) := by decide +kernel
theorem dX10_findsHands_104 : decode cX10_findsHands 104 = .ok (.return_, 1) := by decide +kernel
theorem dX10_hand_0 : decode cX10_hand 0 = .ok (.aload_n 0, 1) := by decide +kernel
theorem dX10_hand_1 : decode cX10_hand 1 = .ok (.aload_n 0, 1) := by decide +kernel
theorem dX10_hand_2 : decode cX10_hand 2 = .ok (.iload_n 1, 1) := by decide +kernel
theorem dX10_hand_3 : decode cX10_hand 3 = .ok (.invokevirtual 133, 3) := by decide +kernel
theorem dX10_hand_6 : decode cX10_hand 6 = .ok (.ifCond .ne 7, 3) := by decide +kernel
theorem dX10_hand_9 : decode cX10_hand 9 = .ok (.iconst 1, 1) := by decide +kernel
theorem dX10_hand_10 : decode cX10_hand 10 = .ok (.goto 49, 3) := by decide +kernel
theorem dX10_hand_13 : decode cX10_hand 13 = .ok (.iload_n 2, 1) := by decide +kernel
theorem dX10_hand_14 : decode cX10_hand 14 = .ok (.iconst 0, 1) := by decide +kernel
theorem dX10_hand_15 : decode cX10_hand 15 = .ok (.bipush 20, 2) := by decide +kernel
theorem dX10_hand_17 : decode cX10_hand 17 = .ok (.invokestatic 129, 3) := by decide +kernel
theorem dX10_hand_20 : decode cX10_hand 20 = .ok (.ifCond .eq 34, 3) := by decide +kernel
theorem dX10_hand_23 : decode cX10_hand 23 = .ok (.iload_n 3, 1) := by decide +kernel
theorem dX10_hand_24 : decode cX10_hand 24 = .ok (.iconst 0, 1) := by decide +kernel
theorem dX10_hand_25 : decode cX10_hand 25 = .ok (.bipush 20, 2) := by decide +kernel
theorem dX10_hand_27 : decode cX10_hand 27 = .ok (.invokestatic 129, 3) := by decide +kernel
theorem dX10_hand_30 : decode cX10_hand 30 = .ok (.ifCond .eq 24, 3) := by decide +kernel
theorem dX10_hand_33 : decode cX10_hand 33 = .ok (.iload 4, 2) := by decide +kernel
theorem dX10_hand_35 : decode cX10_hand 35 = .ok (.iconst 0, 1) := by decide +kernel
theorem dX10_hand_36 : decode cX10_hand 36 = .ok (.bipush 20, 2) := by decide +kernel
theorem dX10_hand_38 : decode cX10_hand 38 = .ok (.invokestatic 129, 3) := by decide +kernel
theorem dX10_hand_41 : decode cX10_hand 41 = .ok (.ifCond .eq 13, 3) := by decide +kernel
theorem dX10_hand_44 : decode cX10_hand 44 = .ok (.iload 5, 2) := by decide +kernel
theorem dX10_hand_46 : decode cX10_hand 46 = .ok (.iconst 0, 1) := by decide +kernel
theorem dX10_hand_47 : decode cX10_hand 47 = .ok (.iconst 3, 1) := by decide +kernel
theorem dX10_hand_48 : decode cX10_hand 48 = .ok (.invokestatic 129, 3) := by decide +kernel
theorem dX10_hand_51 : decode cX10_hand 51 = .ok (.ifCond .ne 7, 3) := by decide +kernel
theorem dX10_hand_54 : decode cX10_hand 54 = .ok (.iconst 2, 1) := by decide +kernel
theorem dX10_hand_55 : decode cX10_hand 55 = .ok (.goto 4, 3) := by decide +kernel
theorem dX10_hand_58 : decode cX10_hand 58 = .ok (.iconst 0, 1) := by decide +kernel
theorem dX10_hand_59 : decode cX10_hand 59 = .ok (.putfield 122, 3) := by decide +kernel
theorem dX10_hand_62 : decode cX10_hand 62 = .ok (.aload_n 0, 1) := by decide +kernel
theorem dX10_hand_63 : decode cX10_hand 63 = .ok (.getfield 122, 3) := by decide +kernel
theorem dX10_hand_66 : decode cX10_hand 66 = .ok (.ifCond .le 5, 3) := by decide +kernel
theorem dX10_hand_69 : decode cX10_hand 69 = .ok (.iconst 0, 1) := by decide +kernel
theorem dX10_hand_70 : decode cX10_hand 70 = .ok (.ireturn, 1) := by decide +kernel
theorem dX10_hand_71 : decode cX10_hand 71 = .ok (.aload_n 0, 1) := by decide +kernel
theorem dX10_hand_72 : decode cX10_hand 72 = .ok (.getfield 25, 3) := by decide +kernel
theorem dX10_hand_75 : decode cX10_hand 75 = .ok (.iconst 3, 1) := by decide +kernel
theorem dX10_hand_76 : decode cX10_hand 76 = .ok (.iload_n 1, 1) := by decide +kernel
theorem dX10_hand_77 : decode cX10_hand 77 = .ok (.imul, 1) := by decide +kernel
theorem dX10_hand_78 : decode cX10_hand 78 = .ok (.iload_n 2, 1) := by decide +kernel
theorem dX10_hand_79 : decode cX10_hand 79 = .ok (.iastore, 1) := by decide +kernel
theorem dX10_hand_80 : decode cX10_hand 80 = .ok (.aload_n 0, 1) := by decide +kernel
theorem dX10_hand_81 : decode cX10_hand 81 = .ok (.getfield 25, 3) := by decide +kernel
theorem dX10_hand_84 : decode cX10_hand 84 = .ok (.iconst 3, 1) := by decide +kernel
theorem dX10_hand_85 : decode cX10_hand 85 = .ok (.iload_n 1, 1) := by decide +kernel
theorem dX10_hand_86 : decode cX10_hand 86 = .ok (.imul, 1) := by decide +kernel
theorem dX10_hand_87 : decode cX10_hand 87 = .ok (.iconst 1, 1) := by decide +kernel
theorem dX10_hand_88 : decode cX10_hand 88 = .ok (.iadd, 1) := by decide +kernel
theorem dX10_hand_89 : decode cX10_hand 89 = .ok (.iload_n 3, 1) := by decide +kernel
theorem dX10_hand_90 : decode cX10_hand 90 = .ok (.iastore, 1) := by decide +kernel
theorem dX10_hand_91 : decode cX10_hand 91 = .ok (.aload_n 0, 1) := by decide +kernel
theorem dX10_hand_92 : decode cX10_hand 92 = .ok (.getfield 25, 3) := by decide +kernel
theorem dX10_hand_95 : decode cX10_hand 95 = .ok (.iconst 3, 1) := by decide +kernel
theorem dX10_hand_96 : decode cX10_hand 96 = .ok (.iload_n 1, 1) := by decide +kernel
theorem dX10_hand_97 : decode cX10_hand 97 = .ok (.imul, 1) := by decide +kernel
theorem dX10_hand_98 : decode cX10_hand 98 = .ok (.iconst 2, 1) := by decide +kernel
theorem dX10_hand_99 : decode cX10_hand 99 = .ok (.iadd, 1) := by decide +kernel
theorem dX10_hand_100 : decode cX10_hand 100 = .ok (.iload 4, 2) := by decide +kernel
theorem dX10_hand_102 : decode cX10_hand 102 = .ok (.iastore, 1) := by decide +kernel
theorem dX10_hand_103 : decode cX10_hand 103 = .ok (.aload_n 0, 1) := by decide +kernel
theorem dX10_hand_104 : decode cX10_hand 104 = .ok (.getfield 28, 3) := by decide +kernel
theorem dX10_hand_107 : decode cX10_hand 107 = .ok (.iload_n 1, 1) := by decide +kernel
theorem dX10_hand_108 : decode cX10_hand 108 = .ok (.iload 5, 2) := by decide +kernel
theorem dX10_hand_110 : decode cX10_hand 110 = .ok (.iastore, 1) := by decide +kernel
theorem dX10_hand_111 : decode cX10_hand 111 = .ok (.aload_n 0, 1) := by decide +kernel
theorem dX10_hand_112 : decode cX10_hand 112 = .ok (.invokevirtual 213, 3) := by decide +kernel
theorem dX10_hand_115 : decode cX10_hand 115 = .ok (.iconst 0, 1) := by decide +kernel
theorem dX10_hand_116 : decode cX10_hand 116 = .ok (.istore 6, 2) := by decide +kernel
theorem dX10_hand_118 : decode cX10_hand 118 = .ok (.iconst 0, 1) := by decide +kernel
theorem dX10_hand_119 : decode cX10_hand 119 = .ok (.istore 7, 2) := by decide +kernel
theorem dX10_hand_121 : decode cX10_hand 121 = .ok (.iload 7, 2) := by decide +kernel
theorem dX10_hand_123 : decode cX10_hand 123 = .ok (.aload_n 0, 1) := by decide +kernel
theorem dX10_hand_124 : decode cX10_hand 124 = .ok (.getfield 126, 3) := by decide +kernel
theorem dX10_hand_127 : decode cX10_hand 127 = .ok (.if_icmp .ge 31, 3) := by decide +kernel
theorem dX10_hand_130 : decode cX10_hand 130 = .ok (.iload 6, 2) := by decide +kernel
theorem dX10_hand_132 : decode cX10_hand 132 = .ok (.aload_n 0, 1) := by decide +kernel
theorem dX10_hand_133 : decode cX10_hand 133 = .ok (.getfield 113, 3) := by decide +kernel
theorem dX10_hand_136 : decode cX10_hand 136 = .ok (.iload 7, 2) := by decide +kernel
theorem dX10_hand_138 : decode cX10_hand 138 = .ok (.iaload, 1) := by decide +kernel
theorem dX10_hand_139 : decode cX10_hand 139 = .ok (.iload 7, 2) := by decide +kernel
theorem dX10_hand_141 : decode cX10_hand 141 = .ok (.if_icmp .ne 7, 3) := by decide +kernel
theorem dX10_hand_144 : decode cX10_hand 144 = .ok (.iconst 1, 1) := by decide +kernel
theorem dX10_hand_145 : decode cX10_hand 145 = .ok (.goto 4, 3) := by decide +kernel
theorem dX10_hand_148 : decode cX10_hand 148 = .ok (.iconst 0, 1) := by decide +kernel
theorem dX10_hand_149 : decode cX10_hand 149 = .ok (.iadd, 1) := by decide +kernel
theorem dX10_hand_150 : decode cX10_hand 150 = .ok (.istore 6, 2) := by decide +kernel
theorem dX10_hand_152 : decode cX10_hand 152 = .ok (.iinc 7 1, 3) := by decide +kernel
theorem dX10_hand_155 : decode cX10_hand 155 = .ok (.goto (-34), 3) := by decide +kernel
theorem dX10_hand_158 : decode cX10_hand 158 = .ok (.iload 6, 2) := by decide +kernel
theorem dX10_hand_160 : decode cX10_hand 160 = .ok (.ireturn, 1) := by decide +kernel
theorem dX10_handOf_0 : decode cX10_handOf 0 = .ok (.aload_n 0, 1) := by decide +kernel
theorem dX10_handOf_1 : decode cX10_handOf 1 = .ok (.aload_n 0, 1) := by decide +kernel
theorem dX10_handOf_2 : decode cX10_handOf 2 = .ok (.iload_n 1, 1) := by decide +kernel
theorem dX10_handOf_3 : decode cX10_handOf 3 = .ok (.invokevirtual 133, 3) := by decide +kernel
theorem dX10_handOf_6 : decode cX10_handOf 6 = .ok (.ifCond .eq 7, 3) := by decide +kernel
theorem dX10_handOf_9 : decode cX10_handOf 9 = .ok (.iconst 0, 1) := by decide +kernel
theorem dX10_handOf_10 : decode cX10_handOf 10 = .ok (.goto 4, 3) := by decide +kernel
theorem dX10_handOf_13 : decode cX10_handOf 13 = .ok (.iconst 1, 1) := by decide +kernel
theorem dX10_handOf_14 : decode cX10_handOf 14 = .ok (.putfield 122, 3) := by decide +kernel
theorem dX10_handOf_17 : decode cX10_handOf 17 = .ok (.aload_n 0, 1) := by decide +kernel
theorem dX10_handOf_18 : decode cX10_handOf 18 = .ok (.getfield 122, 3) := by decide +kernel
theorem dX10_handOf_21 : decode cX10_handOf 21 = .ok (.ifCond .le 5, 3) := by decide +kernel
theorem dX10_handOf_24 : decode cX10_handOf 24 = .ok (.iconst 0, 1) := by decide +kernel
theorem dX10_handOf_25 : decode cX10_handOf 25 = .ok (.ireturn, 1) := by decide +kernel
theorem dX10_handOf_26 : decode cX10_handOf 26 = .ok (.aload_n 0, 1) := by decide +kernel
theorem dX10_handOf_27 : decode cX10_handOf 27 = .ok (.invokevirtual 213, 3) := by decide +kernel
theorem dX10_handOf_30 : decode cX10_handOf 30 = .ok (.aload_n 0, 1) := by decide +kernel
theorem dX10_handOf_31 : decode cX10_handOf 31 = .ok (.getfield 113, 3) := by decide +kernel
theorem dX10_handOf_34 : decode cX10_handOf 34 = .ok (.iload_n 1, 1) := by decide +kernel
theorem dX10_handOf_35 : decode cX10_handOf 35 = .ok (.iaload, 1) := by decide +kernel
theorem dX10_handOf_36 : decode cX10_handOf 36 = .ok (.ireturn, 1) := by decide +kernel
theorem dX10_datesOf_0 : decode cX10_datesOf 0 = .ok (.iconst 1, 1) := by decide +kernel
theorem dX10_datesOf_1 : decode cX10_datesOf 1 = .ok (.iload_n 1, 1) := by decide +kernel
theorem dX10_datesOf_2 : decode cX10_datesOf 2 = .ok (.ishl, 1) := by decide +kernel
theorem dX10_datesOf_3 : decode cX10_datesOf 3 = .ok (.istore_n 2, 1) := by decide +kernel
theorem dX10_datesOf_4 : decode cX10_datesOf 4 = .ok (.iconst 0, 1) := by decide +kernel
theorem dX10_datesOf_5 : decode cX10_datesOf 5 = .ok (.istore_n 3, 1) := by decide +kernel
theorem dX10_datesOf_6 : decode cX10_datesOf 6 = .ok (.iload_n 2, 1) := by decide +kernel
theorem dX10_datesOf_7 : decode cX10_datesOf 7 = .ok (.iload_n 3, 1) := by decide +kernel
theorem dX10_datesOf_8 : decode cX10_datesOf 8 = .ok (.if_icmp .eq 121, 3) := by decide +kernel
theorem dX10_datesOf_11 : decode cX10_datesOf 11 = .ok (.iload_n 2, 1) := by decide +kernel
theorem dX10_datesOf_12 : decode cX10_datesOf 12 = .ok (.istore_n 3, 1) := by decide +kernel
theorem dX10_datesOf_13 : decode cX10_datesOf 13 = .ok (.iconst 0, 1) := by decide +kernel
theorem dX10_datesOf_14 : decode cX10_datesOf 14 = .ok (.istore 4, 2) := by decide +kernel
theorem dX10_datesOf_16 : decode cX10_datesOf 16 = .ok (.iload 4, 2) := by decide +kernel
theorem dX10_datesOf_18 : decode cX10_datesOf 18 = .ok (.aload_n 0, 1) := by decide +kernel
theorem dX10_datesOf_19 : decode cX10_datesOf 19 = .ok (.getfield 185, 3) := by decide +kernel
theorem dX10_datesOf_22 : decode cX10_datesOf 22 = .ok (.if_icmp .ge 104, 3) := by decide +kernel
theorem dX10_datesOf_25 : decode cX10_datesOf 25 = .ok (.aload_n 0, 1) := by decide +kernel
theorem dX10_datesOf_26 : decode cX10_datesOf 26 = .ok (.getfield 80, 3) := by decide +kernel
theorem dX10_datesOf_29 : decode cX10_datesOf 29 = .ok (.iload 4, 2) := by decide +kernel
theorem dX10_datesOf_31 : decode cX10_datesOf 31 = .ok (.baload, 1) := by decide +kernel
theorem dX10_datesOf_32 : decode cX10_datesOf 32 = .ok (.ifCond .eq 54, 3) := by decide +kernel
theorem dX10_datesOf_35 : decode cX10_datesOf 35 = .ok (.aload_n 0, 1) := by decide +kernel
theorem dX10_datesOf_36 : decode cX10_datesOf 36 = .ok (.getfield 76, 3) := by decide +kernel
theorem dX10_datesOf_39 : decode cX10_datesOf 39 = .ok (.iload 4, 2) := by decide +kernel
theorem dX10_datesOf_41 : decode cX10_datesOf 41 = .ok (.baload, 1) := by decide +kernel
theorem dX10_datesOf_42 : decode cX10_datesOf 42 = .ok (.ifCond .eq 44, 3) := by decide +kernel
theorem dX10_datesOf_45 : decode cX10_datesOf 45 = .ok (.aload_n 0, 1) := by decide +kernel
theorem dX10_datesOf_46 : decode cX10_datesOf 46 = .ok (.getfield 67, 3) := by decide +kernel
theorem dX10_datesOf_49 : decode cX10_datesOf 49 = .ok (.iload 4, 2) := by decide +kernel
theorem dX10_datesOf_51 : decode cX10_datesOf 51 = .ok (.iaload, 1) := by decide +kernel
theorem dX10_datesOf_52 : decode cX10_datesOf 52 = .ok (.ifCond .ne 34, 3) := by decide +kernel
theorem dX10_datesOf_55 : decode cX10_datesOf 55 = .ok (.iload_n 2, 1) := by decide +kernel
theorem dX10_datesOf_56 : decode cX10_datesOf 56 = .ok (.aload_n 0, 1) := by decide +kernel
theorem dX10_datesOf_57 : decode cX10_datesOf 57 = .ok (.getfield 70, 3) := by decide +kernel
theorem dX10_datesOf_60 : decode cX10_datesOf 60 = .ok (.iload 4, 2) := by decide +kernel
theorem dX10_datesOf_62 : decode cX10_datesOf 62 = .ok (.iaload, 1) := by decide +kernel
theorem dX10_datesOf_63 : decode cX10_datesOf 63 = .ok (.ishr, 1) := by decide +kernel
theorem dX10_datesOf_64 : decode cX10_datesOf 64 = .ok (.iconst 1, 1) := by decide +kernel
theorem dX10_datesOf_65 : decode cX10_datesOf 65 = .ok (.iand, 1) := by decide +kernel
theorem dX10_datesOf_66 : decode cX10_datesOf 66 = .ok (.iload_n 2, 1) := by decide +kernel
theorem dX10_datesOf_67 : decode cX10_datesOf 67 = .ok (.aload_n 0, 1) := by decide +kernel
theorem dX10_datesOf_68 : decode cX10_datesOf 68 = .ok (.getfield 73, 3) := by decide +kernel
theorem dX10_datesOf_71 : decode cX10_datesOf 71 = .ok (.iload 4, 2) := by decide +kernel
theorem dX10_datesOf_73 : decode cX10_datesOf 73 = .ok (.iaload, 1) := by decide +kernel
theorem dX10_datesOf_74 : decode cX10_datesOf 74 = .ok (.ishr, 1) := by decide +kernel
theorem dX10_datesOf_75 : decode cX10_datesOf 75 = .ok (.iconst 1, 1) := by decide +kernel
theorem dX10_datesOf_76 : decode cX10_datesOf 76 = .ok (.iand, 1) := by decide +kernel
theorem dX10_datesOf_77 : decode cX10_datesOf 77 = .ok (.ior, 1) := by decide +kernel
theorem dX10_datesOf_78 : decode cX10_datesOf 78 = .ok (.iconst 1, 1) := by decide +kernel
theorem dX10_datesOf_79 : decode cX10_datesOf 79 = .ok (.if_icmp .ne 7, 3) := by decide +kernel
theorem dX10_datesOf_82 : decode cX10_datesOf 82 = .ok (.iconst 1, 1) := by decide +kernel
theorem dX10_datesOf_83 : decode cX10_datesOf 83 = .ok (.goto 4, 3) := by decide +kernel
theorem dX10_datesOf_86 : decode cX10_datesOf 86 = .ok (.iconst 0, 1) := by decide +kernel
theorem dX10_datesOf_87 : decode cX10_datesOf 87 = .ok (.istore 5, 2) := by decide +kernel
theorem dX10_datesOf_89 : decode cX10_datesOf 89 = .ok (.iload_n 2, 1) := by decide +kernel
theorem dX10_datesOf_90 : decode cX10_datesOf 90 = .ok (.iload 5, 2) := by decide +kernel
theorem dX10_datesOf_92 : decode cX10_datesOf 92 = .ok (.ifCond .eq 25, 3) := by decide +kernel
theorem dX10_datesOf_95 : decode cX10_datesOf 95 = .ok (.iconst 1, 1) := by decide +kernel
theorem dX10_datesOf_96 : decode cX10_datesOf 96 = .ok (.aload_n 0, 1) := by decide +kernel
theorem dX10_datesOf_97 : decode cX10_datesOf 97 = .ok (.getfield 70, 3) := by decide +kernel
theorem dX10_datesOf_100 : decode cX10_datesOf 100 = .ok (.iload 4, 2) := by decide +kernel
theorem dX10_datesOf_102 : decode cX10_datesOf 102 = .ok (.iaload, 1) := by decide +kernel
theorem dX10_datesOf_103 : decode cX10_datesOf 103 = .ok (.ishl, 1) := by decide +kernel
theorem dX10_datesOf_104 : decode cX10_datesOf 104 = .ok (.iconst 1, 1) := by decide +kernel
theorem dX10_datesOf_105 : decode cX10_datesOf 105 = .ok (.aload_n 0, 1) := by decide +kernel
theorem dX10_datesOf_106 : decode cX10_datesOf 106 = .ok (.getfield 73, 3) := by decide +kernel
theorem dX10_datesOf_109 : decode cX10_datesOf 109 = .ok (.iload 4, 2) := by decide +kernel
theorem dX10_datesOf_111 : decode cX10_datesOf 111 = .ok (.iaload, 1) := by decide +kernel
theorem dX10_datesOf_112 : decode cX10_datesOf 112 = .ok (.ishl, 1) := by decide +kernel
theorem dX10_datesOf_113 : decode cX10_datesOf 113 = .ok (.ior, 1) := by decide +kernel
theorem dX10_datesOf_114 : decode cX10_datesOf 114 = .ok (.goto 4, 3) := by decide +kernel
theorem dX10_datesOf_117 : decode cX10_datesOf 117 = .ok (.iconst 0, 1) := by decide +kernel
theorem dX10_datesOf_118 : decode cX10_datesOf 118 = .ok (.ior, 1) := by decide +kernel
theorem dX10_datesOf_119 : decode cX10_datesOf 119 = .ok (.istore_n 2, 1) := by decide +kernel
theorem dX10_datesOf_120 : decode cX10_datesOf 120 = .ok (.iinc 4 1, 3) := by decide +kernel
theorem dX10_datesOf_123 : decode cX10_datesOf 123 = .ok (.goto (-107), 3) := by decide +kernel
theorem dX10_datesOf_126 : decode cX10_datesOf 126 = .ok (.goto (-120), 3) := by decide +kernel
theorem dX10_datesOf_129 : decode cX10_datesOf 129 = .ok (.sipush 4095, 3) := by decide +kernel
theorem dX10_datesOf_132 : decode cX10_datesOf 132 = .ok (.istore 4, 2) := by decide +kernel
theorem dX10_datesOf_134 : decode cX10_datesOf 134 = .ok (.iconst 0, 1) := by decide +kernel
theorem dX10_datesOf_135 : decode cX10_datesOf 135 = .ok (.istore 5, 2) := by decide +kernel
theorem dX10_datesOf_137 : decode cX10_datesOf 137 = .ok (.iload 5, 2) := by decide +kernel
theorem dX10_datesOf_139 : decode cX10_datesOf 139 = .ok (.aload_n 0, 1) := by decide +kernel
theorem dX10_datesOf_140 : decode cX10_datesOf 140 = .ok (.getfield 126, 3) := by decide +kernel
theorem dX10_datesOf_143 : decode cX10_datesOf 143 = .ok (.if_icmp .ge 37, 3) := by decide +kernel
theorem dX10_datesOf_146 : decode cX10_datesOf 146 = .ok (.iload 4, 2) := by decide +kernel
theorem dX10_datesOf_148 : decode cX10_datesOf 148 = .ok (.iload_n 2, 1) := by decide +kernel
theorem dX10_datesOf_149 : decode cX10_datesOf 149 = .ok (.iload 5, 2) := by decide +kernel
theorem dX10_datesOf_151 : decode cX10_datesOf 151 = .ok (.ishr, 1) := by decide +kernel
theorem dX10_datesOf_152 : decode cX10_datesOf 152 = .ok (.iconst 1, 1) := by decide +kernel
theorem dX10_datesOf_153 : decode cX10_datesOf 153 = .ok (.iand, 1) := by decide +kernel
theorem dX10_datesOf_154 : decode cX10_datesOf 154 = .ok (.iconst 1, 1) := by decide +kernel
theorem dX10_datesOf_155 : decode cX10_datesOf 155 = .ok (.if_icmp .ne 13, 3) := by decide +kernel
theorem dX10_datesOf_158 : decode cX10_datesOf 158 = .ok (.aload_n 0, 1) := by decide +kernel
theorem dX10_datesOf_159 : decode cX10_datesOf 159 = .ok (.getfield 34, 3) := by decide +kernel
theorem dX10_datesOf_162 : decode cX10_datesOf 162 = .ok (.iload 5, 2) := by decide +kernel
theorem dX10_datesOf_164 : decode cX10_datesOf 164 = .ok (.iaload, 1) := by decide +kernel
theorem dX10_datesOf_165 : decode cX10_datesOf 165 = .ok (.goto 6, 3) := by decide +kernel
theorem dX10_datesOf_168 : decode cX10_datesOf 168 = .ok (.sipush 4095, 3) := by decide +kernel
theorem dX10_datesOf_171 : decode cX10_datesOf 171 = .ok (.iand, 1) := by decide +kernel
theorem dX10_datesOf_172 : decode cX10_datesOf 172 = .ok (.istore 4, 2) := by decide +kernel
theorem dX10_datesOf_174 : decode cX10_datesOf 174 = .ok (.iinc 5 1, 3) := by decide +kernel
theorem dX10_datesOf_177 : decode cX10_datesOf 177 = .ok (.goto (-40), 3) := by decide +kernel
theorem dX10_datesOf_180 : decode cX10_datesOf 180 = .ok (.iload 4, 2) := by decide +kernel
theorem dX10_datesOf_182 : decode cX10_datesOf 182 = .ok (.ireturn, 1) := by decide +kernel
theorem dX10_date_0 : decode cX10_date 0 = .ok (.aload_n 0, 1) := by decide +kernel
theorem dX10_date_1 : decode cX10_date 1 = .ok (.aload_n 0, 1) := by decide +kernel
theorem dX10_date_2 : decode cX10_date 2 = .ok (.iload_n 1, 1) := by decide +kernel
theorem dX10_date_3 : decode cX10_date 3 = .ok (.invokevirtual 133, 3) := by decide +kernel
theorem dX10_date_6 : decode cX10_date 6 = .ok (.ifCond .ne 7, 3) := by decide +kernel
theorem dX10_date_9 : decode cX10_date 9 = .ok (.iconst 1, 1) := by decide +kernel
theorem dX10_date_10 : decode cX10_date 10 = .ok (.goto 19, 3) := by decide +kernel
theorem dX10_date_13 : decode cX10_date 13 = .ok (.iload_n 2, 1) := by decide +kernel
theorem dX10_date_14 : decode cX10_date 14 = .ok (.iconst 0, 1) := by decide +kernel
theorem dX10_date_15 : decode cX10_date 15 = .ok (.sipush 4095, 3) := by decide +kernel
theorem dX10_date_18 : decode cX10_date 18 = .ok (.invokestatic 129, 3) := by decide +kernel
theorem dX10_date_21 : decode cX10_date 21 = .ok (.ifCond .ne 7, 3) := by decide +kernel
theorem dX10_date_24 : decode cX10_date 24 = .ok (.iconst 2, 1) := by decide +kernel
theorem dX10_date_25 : decode cX10_date 25 = .ok (.goto 4, 3) := by decide +kernel
theorem dX10_date_28 : decode cX10_date 28 = .ok (.iconst 0, 1) := by decide +kernel
theorem dX10_date_29 : decode cX10_date 29 = .ok (.putfield 122, 3) := by decide +kernel
theorem dX10_date_32 : decode cX10_date 32 = .ok (.aload_n 0, 1) := by decide +kernel
theorem dX10_date_33 : decode cX10_date 33 = .ok (.aload_n 0, 1) := by decide +kernel
theorem dX10_date_34 : decode cX10_date 34 = .ok (.getfield 122, 3) := by decide +kernel
theorem dX10_date_37 : decode cX10_date 37 = .ok (.ifCond .le 10, 3) := by decide +kernel
theorem dX10_date_40 : decode cX10_date 40 = .ok (.aload_n 0, 1) := by decide +kernel
theorem dX10_date_41 : decode cX10_date 41 = .ok (.getfield 122, 3) := by decide +kernel
theorem dX10_date_44 : decode cX10_date 44 = .ok (.goto 18, 3) := by decide +kernel
theorem dX10_date_47 : decode cX10_date 47 = .ok (.aload_n 0, 1) := by decide +kernel
theorem dX10_date_48 : decode cX10_date 48 = .ok (.getfield 31, 3) := by decide +kernel
theorem dX10_date_51 : decode cX10_date 51 = .ok (.iload_n 1, 1) := by decide +kernel
theorem dX10_date_52 : decode cX10_date 52 = .ok (.iaload, 1) := by decide +kernel
theorem dX10_date_53 : decode cX10_date 53 = .ok (.iconst 4, 1) := by decide +kernel
theorem dX10_date_54 : decode cX10_date 54 = .ok (.if_icmp .ne 7, 3) := by decide +kernel
theorem dX10_date_57 : decode cX10_date 57 = .ok (.iconst 3, 1) := by decide +kernel
theorem dX10_date_58 : decode cX10_date 58 = .ok (.goto 4, 3) := by decide +kernel
theorem dX10_date_61 : decode cX10_date 61 = .ok (.iconst 0, 1) := by decide +kernel
theorem dX10_date_62 : decode cX10_date 62 = .ok (.putfield 122, 3) := by decide +kernel
theorem dX10_date_65 : decode cX10_date 65 = .ok (.aload_n 0, 1) := by decide +kernel
theorem dX10_date_66 : decode cX10_date 66 = .ok (.getfield 122, 3) := by decide +kernel
theorem dX10_date_69 : decode cX10_date 69 = .ok (.ifCond .le 5, 3) := by decide +kernel
theorem dX10_date_72 : decode cX10_date 72 = .ok (.iconst 0, 1) := by decide +kernel
theorem dX10_date_73 : decode cX10_date 73 = .ok (.ireturn, 1) := by decide +kernel
theorem dX10_date_74 : decode cX10_date 74 = .ok (.aload_n 0, 1) := by decide +kernel
theorem dX10_date_75 : decode cX10_date 75 = .ok (.getfield 31, 3) := by decide +kernel
theorem dX10_date_78 : decode cX10_date 78 = .ok (.iload_n 1, 1) := by decide +kernel
theorem dX10_date_79 : decode cX10_date 79 = .ok (.dup2, 1) := by decide +kernel
theorem dX10_date_80 : decode cX10_date 80 = .ok (.iaload, 1) := by decide +kernel
theorem dX10_date_81 : decode cX10_date 81 = .ok (.iconst 1, 1) := by decide +kernel
theorem dX10_date_82 : decode cX10_date 82 = .ok (.iadd, 1) := by decide +kernel
theorem dX10_date_83 : decode cX10_date 83 = .ok (.iastore, 1) := by decide +kernel
theorem dX10_date_84 : decode cX10_date 84 = .ok (.aload_n 0, 1) := by decide +kernel
theorem dX10_date_85 : decode cX10_date 85 = .ok (.getfield 34, 3) := by decide +kernel
theorem dX10_date_88 : decode cX10_date 88 = .ok (.iload_n 1, 1) := by decide +kernel
theorem dX10_date_89 : decode cX10_date 89 = .ok (.dup2, 1) := by decide +kernel
theorem dX10_date_90 : decode cX10_date 90 = .ok (.iaload, 1) := by decide +kernel
theorem dX10_date_91 : decode cX10_date 91 = .ok (.iload_n 2, 1) := by decide +kernel
theorem dX10_date_92 : decode cX10_date 92 = .ok (.iand, 1) := by decide +kernel
theorem dX10_date_93 : decode cX10_date 93 = .ok (.iastore, 1) := by decide +kernel
theorem dX10_date_94 : decode cX10_date 94 = .ok (.aload_n 0, 1) := by decide +kernel
theorem dX10_date_95 : decode cX10_date 95 = .ok (.iload_n 1, 1) := by decide +kernel
theorem dX10_date_96 : decode cX10_date 96 = .ok (.invokevirtual 216, 3) := by decide +kernel
theorem dX10_date_99 : decode cX10_date 99 = .ok (.ireturn, 1) := by decide +kernel
theorem dX10_dates_0 : decode cX10_dates 0 = .ok (.aload_n 0, 1) := by decide +kernel
theorem dX10_dates_1 : decode cX10_dates 1 = .ok (.aload_n 0, 1) := by decide +kernel
theorem dX10_dates_2 : decode cX10_dates 2 = .ok (.iload_n 1, 1) := by decide +kernel
theorem dX10_dates_3 : decode cX10_dates 3 = .ok (.invokevirtual 133, 3) := by decide +kernel
theorem dX10_dates_6 : decode cX10_dates 6 = .ok (.ifCond .eq 7, 3) := by decide +kernel
theorem dX10_dates_9 : decode cX10_dates 9 = .ok (.iconst 0, 1) := by decide +kernel
theorem dX10_dates_10 : decode cX10_dates 10 = .ok (.goto 4, 3) := by decide +kernel
theorem dX10_dates_13 : decode cX10_dates 13 = .ok (.iconst 1, 1) := by decide +kernel
theorem dX10_dates_14 : decode cX10_dates 14 = .ok (.putfield 122, 3) := by decide +kernel
theorem dX10_dates_17 : decode cX10_dates 17 = .ok (.aload_n 0, 1) := by decide +kernel
theorem dX10_dates_18 : decode cX10_dates 18 = .ok (.getfield 122, 3) := by decide +kernel
theorem dX10_dates_21 : decode cX10_dates 21 = .ok (.ifCond .ne 11, 3) := by decide +kernel
theorem dX10_dates_24 : decode cX10_dates 24 = .ok (.aload_n 0, 1) := by decide +kernel
theorem dX10_dates_25 : decode cX10_dates 25 = .ok (.iload_n 1, 1) := by decide +kernel
theorem dX10_dates_26 : decode cX10_dates 26 = .ok (.invokevirtual 216, 3) := by decide +kernel
theorem dX10_dates_29 : decode cX10_dates 29 = .ok (.goto 4, 3) := by decide +kernel
theorem dX10_dates_32 : decode cX10_dates 32 = .ok (.iconst 0, 1) := by decide +kernel
theorem dX10_dates_33 : decode cX10_dates 33 = .ok (.ireturn, 1) := by decide +kernel
theorem dX10_match_0 : decode cX10_match 0 = .ok (.aload_n 0, 1) := by decide +kernel
theorem dX10_match_1 : decode cX10_match 1 = .ok (.iload_n 1, 1) := by decide +kernel
theorem dX10_match_2 : decode cX10_match 2 = .ok (.iconst 0, 1) := by decide +kernel
theorem dX10_match_3 : decode cX10_match 3 = .ok (.aload_n 0, 1) := by decide +kernel
theorem dX10_match_4 : decode cX10_match 4 = .ok (.getfield 166, 3) := by decide +kernel
theorem dX10_match_7 : decode cX10_match 7 = .ok (.iconst 1, 1) := by decide +kernel
theorem dX10_match_8 : decode cX10_match 8 = .ok (.isub, 1) := by decide +kernel
theorem dX10_match_9 : decode cX10_match 9 = .ok (.invokestatic 129, 3) := by decide +kernel
theorem dX10_match_12 : decode cX10_match 12 = .ok (.ifCond .ne 7, 3) := by decide +kernel
theorem dX10_match_15 : decode cX10_match 15 = .ok (.iconst 1, 1) := by decide +kernel
theorem dX10_match_16 : decode cX10_match 16 = .ok (.goto 4, 3) := by decide +kernel
theorem dX10_match_19 : decode cX10_match 19 = .ok (.iconst 0, 1) := by decide +kernel
theorem dX10_match_20 : decode cX10_match 20 = .ok (.putfield 122, 3) := by decide +kernel
theorem dX10_match_23 : decode cX10_match 23 = .ok (.aload_n 0, 1) := by decide +kernel
theorem dX10_match_24 : decode cX10_match 24 = .ok (.getfield 122, 3) := by decide +kernel
theorem dX10_match_27 : decode cX10_match 27 = .ok (.ifCond .gt 14, 3) := by decide +kernel
theorem dX10_match_30 : decode cX10_match 30 = .ok (.aload_n 0, 1) := by decide +kernel
theorem dX10_match_31 : decode cX10_match 31 = .ok (.iload_n 2, 1) := by decide +kernel
theorem dX10_match_32 : decode cX10_match 32 = .ok (.iload_n 3, 1) := by decide +kernel
theorem dX10_match_33 : decode cX10_match 33 = .ok (.iload 4, 2) := by decide +kernel
theorem dX10_match_35 : decode cX10_match 35 = .ok (.invokevirtual 182, 3) := by decide +kernel
theorem dX10_match_38 : decode cX10_match 38 = .ok (.ifCond .ne 5, 3) := by decide +kernel
theorem dX10_match_41 : decode cX10_match 41 = .ok (.iconst 0, 1) := by decide +kernel
theorem dX10_match_42 : decode cX10_match 42 = .ok (.ireturn, 1) := by decide +kernel
theorem dX10_match_43 : decode cX10_match 43 = .ok (.aload_n 0, 1) := by decide +kernel
theorem dX10_match_44 : decode cX10_match 44 = .ok (.getfield 83, 3) := by decide +kernel
theorem dX10_match_47 : decode cX10_match 47 = .ok (.iconst 0, 1) := by decide +kernel
theorem dX10_match_48 : decode cX10_match 48 = .ok (.iaload, 1) := by decide +kernel
theorem dX10_match_49 : decode cX10_match 49 = .ok (.iconst (-1), 1) := by decide +kernel
theorem dX10_match_50 : decode cX10_match 50 = .ok (.if_icmp .ne 5, 3) := by decide +kernel
theorem dX10_match_53 : decode cX10_match 53 = .ok (.iconst (-1), 1) := by decide +kernel
theorem dX10_match_54 : decode cX10_match 54 = .ok (.ireturn, 1) := by decide +kernel
theorem dX10_match_55 : decode cX10_match 55 = .ok (.aload_n 0, 1) := by decide +kernel
theorem dX10_match_56 : decode cX10_match 56 = .ok (.getfield 61, 3) := by decide +kernel
theorem dX10_match_59 : decode cX10_match 59 = .ok (.iload_n 1, 1) := by decide +kernel
theorem dX10_match_60 : decode cX10_match 60 = .ok (.iaload, 1) := by decide +kernel
theorem dX10_match_61 : decode cX10_match 61 = .ok (.istore 6, 2) := by decide +kernel
theorem dX10_match_63 : decode cX10_match 63 = .ok (.iconst 0, 1) := by decide +kernel
theorem dX10_match_64 : decode cX10_match 64 = .ok (.istore 7, 2) := by decide +kernel
theorem dX10_match_66 : decode cX10_match 66 = .ok (.iload 7, 2) := by decide +kernel
theorem dX10_match_68 : decode cX10_match 68 = .ok (.iload 6, 2) := by decide +kernel
theorem dX10_match_70 : decode cX10_match 70 = .ok (.if_icmp .gt 17, 3) := by decide +kernel
theorem dX10_match_73 : decode cX10_match 73 = .ok (.aload_n 0, 1) := by decide +kernel
theorem dX10_match_74 : decode cX10_match 74 = .ok (.getfield 116, 3) := by decide +kernel
theorem dX10_match_77 : decode cX10_match 77 = .ok (.iload 7, 2) := by decide +kernel
theorem dX10_match_79 : decode cX10_match 79 = .ok (.iconst 0, 1) := by decide +kernel
theorem dX10_match_80 : decode cX10_match 80 = .ok (.iastore, 1) := by decide +kernel
theorem dX10_match_81 : decode cX10_match 81 = .ok (.iinc 7 1, 3) := by decide +kernel
theorem dX10_match_84 : decode cX10_match 84 = .ok (.goto (-18), 3) := by decide +kernel
theorem dX10_match_87 : decode cX10_match 87 = .ok (.iconst 0, 1) := by decide +kernel
theorem dX10_match_88 : decode cX10_match 88 = .ok (.istore 7, 2) := by decide +kernel
theorem dX10_match_90 : decode cX10_match 90 = .ok (.iload 7, 2) := by decide +kernel
theorem dX10_match_92 : decode cX10_match 92 = .ok (.aload_n 0, 1) := by decide +kernel
theorem dX10_match_93 : decode cX10_match 93 = .ok (.getfield 16, 3) := by decide +kernel
theorem dX10_match_96 : decode cX10_match 96 = .ok (.iload_n 2, 1) := by decide +kernel
theorem dX10_match_97 : decode cX10_match 97 = .ok (.iaload, 1) := by decide +kernel
theorem dX10_match_98 : decode cX10_match 98 = .ok (.if_icmp .ge 187, 3) := by decide +kernel
theorem dX10_match_101 : decode cX10_match 101 = .ok (.aload_n 0, 1) := by decide +kernel
theorem dX10_match_102 : decode cX10_match 102 = .ok (.getfield 92, 3) := by decide +kernel
theorem dX10_match_105 : decode cX10_match 105 = .ok (.iload 7, 2) := by decide +kernel
theorem dX10_match_107 : decode cX10_match 107 = .ok (.iaload, 1) := by decide +kernel
theorem dX10_match_108 : decode cX10_match 108 = .ok (.istore 8, 2) := by decide +kernel
theorem dX10_match_110 : decode cX10_match 110 = .ok (.iconst 0, 1) := by decide +kernel
theorem dX10_match_111 : decode cX10_match 111 = .ok (.istore 9, 2) := by decide +kernel
theorem dX10_match_113 : decode cX10_match 113 = .ok (.iload 9, 2) := by decide +kernel
theorem dX10_match_115 : decode cX10_match 115 = .ok (.iload 6, 2) := by decide +kernel
theorem dX10_match_117 : decode cX10_match 117 = .ok (.if_icmp .gt 126, 3) := by decide +kernel
theorem dX10_match_120 : decode cX10_match 120 = .ok (.iload 8, 2) := by decide +kernel
theorem dX10_match_122 : decode cX10_match 122 = .ok (.iconst (-1), 1) := by decide +kernel
theorem dX10_match_123 : decode cX10_match 123 = .ok (.if_icmp .eq 120, 3) := by decide +kernel
theorem dX10_match_126 : decode cX10_match 126 = .ok (.aload_n 0, 1) := by decide +kernel
theorem dX10_match_127 : decode cX10_match 127 = .ok (.getfield 116, 3) := by decide +kernel
theorem dX10_match_130 : decode cX10_match 130 = .ok (.iload 9, 2) := by decide +kernel
theorem dX10_match_132 : decode cX10_match 132 = .ok (.iaload, 1) := by decide +kernel
theorem dX10_match_133 : decode cX10_match 133 = .ok (.iconst 2, 1) := by decide +kernel
theorem dX10_match_134 : decode cX10_match 134 = .ok (.iadd, 1) := by decide +kernel
theorem dX10_match_135 : decode cX10_match 135 = .ok (.istore 10, 2) := by decide +kernel
theorem dX10_match_137 : decode cX10_match 137 = .ok (.iload 9, 2) := by decide +kernel
theorem dX10_match_139 : decode cX10_match 139 = .ok (.ifCond .le 89, 3) := by decide +kernel
theorem dX10_match_142 : decode cX10_match 142 = .ok (.aload_n 0, 1) := by decide +kernel
theorem dX10_match_143 : decode cX10_match 143 = .ok (.getfield 116, 3) := by decide +kernel
theorem dX10_match_146 : decode cX10_match 146 = .ok (.iload 9, 2) := by decide +kernel
theorem dX10_match_148 : decode cX10_match 148 = .ok (.iconst 1, 1) := by decide +kernel
theorem dX10_match_149 : decode cX10_match 149 = .ok (.isub, 1) := by decide +kernel
theorem dX10_match_150 : decode cX10_match 150 = .ok (.iaload, 1) := by decide +kernel
theorem dX10_match_151 : decode cX10_match 151 = .ok (.aload_n 0, 1) := by decide +kernel
theorem dX10_match_152 : decode cX10_match 152 = .ok (.getfield 64, 3) := by decide +kernel
theorem dX10_match_155 : decode cX10_match 155 = .ok (.bipush 40, 2) := by decide +kernel
theorem dX10_match_157 : decode cX10_match 157 = .ok (.iload_n 1, 1) := by decide +kernel
theorem dX10_match_158 : decode cX10_match 158 = .ok (.imul, 1) := by decide +kernel
theorem dX10_match_159 : decode cX10_match 159 = .ok (.iload 9, 2) := by decide +kernel
theorem dX10_match_161 : decode cX10_match 161 = .ok (.iadd, 1) := by decide +kernel
theorem dX10_match_162 : decode cX10_match 162 = .ok (.iconst 1, 1) := by decide +kernel
theorem dX10_match_163 : decode cX10_match 163 = .ok (.isub, 1) := by decide +kernel
theorem dX10_match_164 : decode cX10_match 164 = .ok (.iaload, 1) := by decide +kernel
theorem dX10_match_165 : decode cX10_match 165 = .ok (.iload 8, 2) := by decide +kernel
theorem dX10_match_167 : decode cX10_match 167 = .ok (.if_icmp .ne 7, 3) := by decide +kernel
theorem dX10_match_170 : decode cX10_match 170 = .ok (.iconst 0, 1) := by decide +kernel
theorem dX10_match_171 : decode cX10_match 171 = .ok (.goto 4, 3) := by decide +kernel
theorem dX10_match_174 : decode cX10_match 174 = .ok (.iconst 1, 1) := by decide +kernel
theorem dX10_match_175 : decode cX10_match 175 = .ok (.iadd, 1) := by decide +kernel
theorem dX10_match_176 : decode cX10_match 176 = .ok (.istore 11, 2) := by decide +kernel
theorem dX10_match_178 : decode cX10_match 178 = .ok (.iload 11, 2) := by decide +kernel
theorem dX10_match_180 : decode cX10_match 180 = .ok (.iload 10, 2) := by decide +kernel
theorem dX10_match_182 : decode cX10_match 182 = .ok (.if_icmp .ge 8, 3) := by decide +kernel
theorem dX10_match_185 : decode cX10_match 185 = .ok (.iload 11, 2) := by decide +kernel
theorem dX10_match_187 : decode cX10_match 187 = .ok (.goto 5, 3) := by decide +kernel
theorem dX10_match_190 : decode cX10_match 190 = .ok (.iload 10, 2) := by decide +kernel
theorem dX10_match_192 : decode cX10_match 192 = .ok (.istore 10, 2) := by decide +kernel
theorem dX10_match_194 : decode cX10_match 194 = .ok (.aload_n 0, 1) := by decide +kernel
theorem dX10_match_195 : decode cX10_match 195 = .ok (.getfield 119, 3) := by decide +kernel
theorem dX10_match_198 : decode cX10_match 198 = .ok (.iload 9, 2) := by decide +kernel
theorem dX10_match_200 : decode cX10_match 200 = .ok (.iconst 1, 1) := by decide +kernel
theorem dX10_match_201 : decode cX10_match 201 = .ok (.isub, 1) := by decide +kernel
theorem dX10_match_202 : decode cX10_match 202 = .ok (.iaload, 1) := by decide +kernel
theorem dX10_match_203 : decode cX10_match 203 = .ok (.iconst 2, 1) := by decide +kernel
theorem dX10_match_204 : decode cX10_match 204 = .ok (.iadd, 1) := by decide +kernel
theorem dX10_match_205 : decode cX10_match 205 = .ok (.iload 10, 2) := by decide +kernel
theorem dX10_match_207 : decode cX10_match 207 = .ok (.if_icmp .ge 17, 3) := by decide +kernel
theorem dX10_match_210 : decode cX10_match 210 = .ok (.aload_n 0, 1) := by decide +kernel
theorem dX10_match_211 : decode cX10_match 211 = .ok (.getfield 119, 3) := by decide +kernel
theorem dX10_match_214 : decode cX10_match 214 = .ok (.iload 9, 2) := by decide +kernel
theorem dX10_match_216 : decode cX10_match 216 = .ok (.iconst 1, 1) := by decide +kernel
theorem dX10_match_217 : decode cX10_match 217 = .ok (.isub, 1) := by decide +kernel
theorem dX10_match_218 : decode cX10_match 218 = .ok (.iaload, 1) := by decide +kernel
theorem dX10_match_219 : decode cX10_match 219 = .ok (.iconst 2, 1) := by decide +kernel
theorem dX10_match_220 : decode cX10_match 220 = .ok (.iadd, 1) := by decide +kernel
theorem dX10_match_221 : decode cX10_match 221 = .ok (.goto 5, 3) := by decide +kernel
theorem dX10_match_224 : decode cX10_match 224 = .ok (.iload 10, 2) := by decide +kernel
theorem dX10_match_226 : decode cX10_match 226 = .ok (.istore 10, 2) := by decide +kernel
theorem dX10_match_228 : decode cX10_match 228 = .ok (.aload_n 0, 1) := by decide +kernel
theorem dX10_match_229 : decode cX10_match 229 = .ok (.getfield 119, 3) := by decide +kernel
theorem dX10_match_232 : decode cX10_match 232 = .ok (.iload 9, 2) := by decide +kernel
theorem dX10_match_234 : decode cX10_match 234 = .ok (.iload 10, 2) := by decide +kernel
theorem dX10_match_236 : decode cX10_match 236 = .ok (.iastore, 1) := by decide +kernel
theorem dX10_match_237 : decode cX10_match 237 = .ok (.iinc 9 1, 3) := by decide +kernel
theorem dX10_match_240 : decode cX10_match 240 = .ok (.goto (-127), 3) := by decide +kernel
theorem dX10_match_243 : decode cX10_match 243 = .ok (.iconst 0, 1) := by decide +kernel
theorem dX10_match_244 : decode cX10_match 244 = .ok (.istore 9, 2) := by decide +kernel
theorem dX10_match_246 : decode cX10_match 246 = .ok (.iload 9, 2) := by decide +kernel
theorem dX10_match_248 : decode cX10_match 248 = .ok (.iload 6, 2) := by decide +kernel
theorem dX10_match_250 : decode cX10_match 250 = .ok (.if_icmp .gt 29, 3) := by decide +kernel
theorem dX10_match_253 : decode cX10_match 253 = .ok (.iload 8, 2) := by decide +kernel
theorem dX10_match_255 : decode cX10_match 255 = .ok (.iconst (-1), 1) := by decide +kernel
theorem dX10_match_256 : decode cX10_match 256 = .ok (.if_icmp .eq 23, 3) := by decide +kernel
theorem dX10_match_259 : decode cX10_match 259 = .ok (.aload_n 0, 1) := by decide +kernel
theorem dX10_match_260 : decode cX10_match 260 = .ok (.getfield 116, 3) := by decide +kernel
theorem dX10_match_263 : decode cX10_match 263 = .ok (.iload 9, 2) := by decide +kernel
theorem dX10_match_265 : decode cX10_match 265 = .ok (.aload_n 0, 1) := by decide +kernel
theorem dX10_match_266 : decode cX10_match 266 = .ok (.getfield 119, 3) := by decide +kernel
theorem dX10_match_269 : decode cX10_match 269 = .ok (.iload 9, 2) := by decide +kernel
theorem dX10_match_271 : decode cX10_match 271 = .ok (.iaload, 1) := by decide +kernel
theorem dX10_match_272 : decode cX10_match 272 = .ok (.iastore, 1) := by decide +kernel
theorem dX10_match_273 : decode cX10_match 273 = .ok (.iinc 9 1, 3) := by decide +kernel
theorem dX10_match_276 : decode cX10_match 276 = .ok (.goto (-30), 3) := by decide +kernel
theorem dX10_match_279 : decode cX10_match 279 = .ok (.iinc 7 1, 3) := by decide +kernel
theorem dX10_match_282 : decode cX10_match 282 = .ok (.goto (-192), 3) := by decide +kernel
theorem dX10_match_285 : decode cX10_match 285 = .ok (.iconst 0, 1) := by decide +kernel
theorem dX10_match_286 : decode cX10_match 286 = .ok (.istore 7, 2) := by decide +kernel
theorem dX10_match_288 : decode cX10_match 288 = .ok (.iconst 1, 1) := by decide +kernel
theorem dX10_match_289 : decode cX10_match 289 = .ok (.istore 8, 2) := by decide +kernel
theorem dX10_match_291 : decode cX10_match 291 = .ok (.iload 8, 2) := by decide +kernel
theorem dX10_match_293 : decode cX10_match 293 = .ok (.iload 6, 2) := by decide +kernel
theorem dX10_match_295 : decode cX10_match 295 = .ok (.if_icmp .gt 35, 3) := by decide +kernel
theorem dX10_match_298 : decode cX10_match 298 = .ok (.aload_n 0, 1) := by decide +kernel
theorem dX10_match_299 : decode cX10_match 299 = .ok (.getfield 116, 3) := by decide +kernel
theorem dX10_match_302 : decode cX10_match 302 = .ok (.iload 8, 2) := by decide +kernel
theorem dX10_match_304 : decode cX10_match 304 = .ok (.iaload, 1) := by decide +kernel
theorem dX10_match_305 : decode cX10_match 305 = .ok (.aload_n 0, 1) := by decide +kernel
theorem dX10_match_306 : decode cX10_match 306 = .ok (.getfield 116, 3) := by decide +kernel
theorem dX10_match_309 : decode cX10_match 309 = .ok (.iload 7, 2) := by decide +kernel
theorem dX10_match_311 : decode cX10_match 311 = .ok (.iaload, 1) := by decide +kernel
theorem dX10_match_312 : decode cX10_match 312 = .ok (.if_icmp .ge 8, 3) := by decide +kernel
theorem dX10_match_315 : decode cX10_match 315 = .ok (.iload 8, 2) := by decide +kernel
theorem dX10_match_317 : decode cX10_match 317 = .ok (.goto 5, 3) := by decide +kernel
theorem dX10_match_320 : decode cX10_match 320 = .ok (.iload 7, 2) := by decide +kernel
theorem dX10_match_322 : decode cX10_match 322 = .ok (.istore 7, 2) := by decide +kernel
theorem dX10_match_324 : decode cX10_match 324 = .ok (.iinc 8 1, 3) := by decide +kernel
theorem dX10_match_327 : decode cX10_match 327 = .ok (.goto (-36), 3) := by decide +kernel
theorem dX10_match_330 : decode cX10_match 330 = .ok (.iload 5, 2) := by decide +kernel
theorem dX10_match_332 : decode cX10_match 332 = .ok (.ifCond .eq 8, 3) := by decide +kernel
theorem dX10_match_335 : decode cX10_match 335 = .ok (.iload 7, 2) := by decide +kernel
theorem dX10_match_337 : decode cX10_match 337 = .ok (.goto 10, 3) := by decide +kernel
theorem dX10_match_340 : decode cX10_match 340 = .ok (.aload_n 0, 1) := by decide +kernel
theorem dX10_match_341 : decode cX10_match 341 = .ok (.getfield 116, 3) := by decide +kernel
theorem dX10_match_344 : decode cX10_match 344 = .ok (.iload 7, 2) := by decide +kernel
theorem dX10_match_346 : decode cX10_match 346 = .ok (.iaload, 1) := by decide +kernel
theorem dX10_match_347 : decode cX10_match 347 = .ok (.ireturn, 1) := by decide +kernel
theorem dX10_isOne_0 : decode cX10_isOne 0 = .ok (.iload_n 0, 1) := by decide +kernel
theorem dX10_isOne_1 : decode cX10_isOne 1 = .ok (.ifCond .eq 15, 3) := by decide +kernel
theorem dX10_isOne_4 : decode cX10_isOne 4 = .ok (.iload_n 0, 1) := by decide +kernel
theorem dX10_isOne_5 : decode cX10_isOne 5 = .ok (.iload_n 0, 1) := by decide +kernel
theorem dX10_isOne_6 : decode cX10_isOne 6 = .ok (.iconst 1, 1) := by decide +kernel
theorem dX10_isOne_7 : decode cX10_isOne 7 = .ok (.isub, 1) := by decide +kernel
theorem dX10_isOne_8 : decode cX10_isOne 8 = .ok (.iand, 1) := by decide +kernel
theorem dX10_isOne_9 : decode cX10_isOne 9 = .ok (.ifCond .ne 7, 3) := by decide +kernel
theorem dX10_isOne_12 : decode cX10_isOne 12 = .ok (.iconst 1, 1) := by decide +kernel
theorem dX10_isOne_13 : decode cX10_isOne 13 = .ok (.goto 4, 3) := by decide +kernel
theorem dX10_isOne_16 : decode cX10_isOne 16 = .ok (.iconst 0, 1) := by decide +kernel
theorem dX10_isOne_17 : decode cX10_isOne 17 = .ok (.ireturn, 1) := by decide +kernel
theorem dX10_edition_0 : decode cX10_edition 0 = .ok (.aload_n 0, 1) := by decide +kernel
theorem dX10_edition_1 : decode cX10_edition 1 = .ok (.iload_n 1, 1) := by decide +kernel
theorem dX10_edition_2 : decode cX10_edition 2 = .ok (.iconst 0, 1) := by decide +kernel
theorem dX10_edition_3 : decode cX10_edition 3 = .ok (.iconst 1, 1) := by decide +kernel
theorem dX10_edition_4 : decode cX10_edition 4 = .ok (.invokestatic 129, 3) := by decide +kernel
theorem dX10_edition_7 : decode cX10_edition 7 = .ok (.ifCond .eq 7, 3) := by decide +kernel
theorem dX10_edition_10 : decode cX10_edition 10 = .ok (.iconst 0, 1) := by decide +kernel
theorem dX10_edition_11 : decode cX10_edition 11 = .ok (.goto 4, 3) := by decide +kernel
theorem dX10_edition_14 : decode cX10_edition 14 = .ok (.iconst 1, 1) := by decide +kernel
theorem dX10_edition_15 : decode cX10_edition 15 = .ok (.putfield 122, 3) := by decide +kernel
theorem dX10_edition_18 : decode cX10_edition 18 = .ok (.aload_n 0, 1) := by decide +kernel
theorem dX10_edition_19 : decode cX10_edition 19 = .ok (.aload_n 0, 1) := by decide +kernel
theorem dX10_edition_20 : decode cX10_edition 20 = .ok (.getfield 122, 3) := by decide +kernel
theorem dX10_edition_23 : decode cX10_edition 23 = .ok (.ifCond .gt 21, 3) := by decide +kernel
theorem dX10_edition_26 : decode cX10_edition 26 = .ok (.iload_n 2, 1) := by decide +kernel
theorem dX10_edition_27 : decode cX10_edition 27 = .ok (.iconst 0, 1) := by decide +kernel
theorem dX10_edition_28 : decode cX10_edition 28 = .ok (.iconst 2, 1) := by decide +kernel
theorem dX10_edition_29 : decode cX10_edition 29 = .ok (.aload_n 0, 1) := by decide +kernel
theorem dX10_edition_30 : decode cX10_edition 30 = .ok (.getfield 37, 3) := by decide +kernel
theorem dX10_edition_33 : decode cX10_edition 33 = .ok (.iload_n 1, 1) := by decide +kernel
theorem dX10_edition_34 : decode cX10_edition 34 = .ok (.iaload, 1) := by decide +kernel
theorem dX10_edition_35 : decode cX10_edition 35 = .ok (.imul, 1) := by decide +kernel
theorem dX10_edition_36 : decode cX10_edition 36 = .ok (.iconst 1, 1) := by decide +kernel
theorem dX10_edition_37 : decode cX10_edition 37 = .ok (.isub, 1) := by decide +kernel
theorem dX10_edition_38 : decode cX10_edition 38 = .ok (.invokestatic 129, 3) := by decide +kernel
theorem dX10_edition_41 : decode cX10_edition 41 = .ok (.ifCond .ne 7, 3) := by decide +kernel
theorem dX10_edition_44 : decode cX10_edition 44 = .ok (.iconst 1, 1) := by decide +kernel
theorem dX10_edition_45 : decode cX10_edition 45 = .ok (.goto 4, 3) := by decide +kernel
theorem dX10_edition_48 : decode cX10_edition 48 = .ok (.iconst 0, 1) := by decide +kernel
theorem dX10_edition_49 : decode cX10_edition 49 = .ok (.putfield 122, 3) := by decide +kernel
theorem dX10_edition_52 : decode cX10_edition 52 = .ok (.aload_n 0, 1) := by decide +kernel
theorem dX10_edition_53 : decode cX10_edition 53 = .ok (.getfield 122, 3) := by decide +kernel
theorem dX10_edition_56 : decode cX10_edition 56 = .ok (.ifCond .le 5, 3) := by decide +kernel
theorem dX10_edition_59 : decode cX10_edition 59 = .ok (.iconst 0, 1) := by decide +kernel
theorem dX10_edition_60 : decode cX10_edition 60 = .ok (.ireturn, 1) := by decide +kernel
theorem dX10_edition_61 : decode cX10_edition 61 = .ok (.aload_n 0, 1) := by decide +kernel
theorem dX10_edition_62 : decode cX10_edition 62 = .ok (.iload_n 1, 1) := by decide +kernel
theorem dX10_edition_63 : decode cX10_edition 63 = .ok (.iconst 0, 1) := by decide +kernel
theorem dX10_edition_64 : decode cX10_edition 64 = .ok (.iconst (-1), 1) := by decide +kernel
theorem dX10_edition_65 : decode cX10_edition 65 = .ok (.iconst (-1), 1) := by decide +kernel
theorem dX10_edition_66 : decode cX10_edition 66 = .ok (.iconst (-1), 1) := by decide +kernel
theorem dX10_edition_67 : decode cX10_edition 67 = .ok (.invokevirtual 205, 3) := by decide +kernel
theorem dX10_edition_70 : decode cX10_edition 70 = .ok (.iconst 0, 1) := by decide +kernel
theorem dX10_edition_71 : decode cX10_edition 71 = .ok (.istore_n 3, 1) := by decide +kernel
theorem dX10_edition_72 : decode cX10_edition 72 = .ok (.iload_n 3, 1) := by decide +kernel
theorem dX10_edition_73 : decode cX10_edition 73 = .ok (.aload_n 0, 1) := by decide +kernel
theorem dX10_edition_74 : decode cX10_edition 74 = .ok (.getfield 126, 3) := by decide +kernel
theorem dX10_edition_77 : decode cX10_edition 77 = .ok (.if_icmp .ge 33, 3) := by decide +kernel
theorem dX10_edition_80 : decode cX10_edition 80 = .ok (.aload_n 0, 1) := by decide +kernel
theorem dX10_edition_81 : decode cX10_edition 81 = .ok (.getfield 7, 3) := by decide +kernel
theorem dX10_edition_84 : decode cX10_edition 84 = .ok (.iload_n 3, 1) := by decide +kernel
theorem dX10_edition_85 : decode cX10_edition 85 = .ok (.iaload, 1) := by decide +kernel
theorem dX10_edition_86 : decode cX10_edition 86 = .ok (.iload_n 1, 1) := by decide +kernel
theorem dX10_edition_87 : decode cX10_edition 87 = .ok (.if_icmp .ne 17, 3) := by decide +kernel
theorem dX10_edition_90 : decode cX10_edition 90 = .ok (.aload_n 0, 1) := by decide +kernel
theorem dX10_edition_91 : decode cX10_edition 91 = .ok (.getfield 110, 3) := by decide +kernel
theorem dX10_edition_94 : decode cX10_edition 94 = .ok (.iload_n 3, 1) := by decide +kernel
theorem dX10_edition_95 : decode cX10_edition 95 = .ok (.iaload, 1) := by decide +kernel
theorem dX10_edition_96 : decode cX10_edition 96 = .ok (.iconst 1, 1) := by decide +kernel
theorem dX10_edition_97 : decode cX10_edition 97 = .ok (.iload_n 2, 1) := by decide +kernel
theorem dX10_edition_98 : decode cX10_edition 98 = .ok (.ishl, 1) := by decide +kernel
theorem dX10_edition_99 : decode cX10_edition 99 = .ok (.if_icmp .ne 5, 3) := by decide +kernel
theorem dX10_edition_102 : decode cX10_edition 102 = .ok (.iload_n 3, 1) := by decide +kernel
theorem dX10_edition_103 : decode cX10_edition 103 = .ok (.ireturn, 1) := by decide +kernel
theorem dX10_edition_104 : decode cX10_edition 104 = .ok (.iinc 3 1, 3) := by decide +kernel
theorem dX10_edition_107 : decode cX10_edition 107 = .ok (.goto (-35), 3) := by decide +kernel
theorem dX10_edition_110 : decode cX10_edition 110 = .ok (.iconst (-1), 1) := by decide +kernel
theorem dX10_edition_111 : decode cX10_edition 111 = .ok (.ireturn, 1) := by decide +kernel
theorem dX10_lettersOf_0 : decode cX10_lettersOf 0 = .ok (.iconst 0, 1) := by decide +kernel
theorem dX10_lettersOf_1 : decode cX10_lettersOf 1 = .ok (.istore_n 3, 1) := by decide +kernel
theorem dX10_lettersOf_2 : decode cX10_lettersOf 2 = .ok (.iload_n 3, 1) := by decide +kernel
theorem dX10_lettersOf_3 : decode cX10_lettersOf 3 = .ok (.iload_n 2, 1) := by decide +kernel
theorem dX10_lettersOf_4 : decode cX10_lettersOf 4 = .ok (.if_icmp .gt 16, 3) := by decide +kernel
theorem dX10_lettersOf_7 : decode cX10_lettersOf 7 = .ok (.aload_n 0, 1) := by decide +kernel
theorem dX10_lettersOf_8 : decode cX10_lettersOf 8 = .ok (.getfield 86, 3) := by decide +kernel
theorem dX10_lettersOf_11 : decode cX10_lettersOf 11 = .ok (.iload_n 3, 1) := by decide +kernel
theorem dX10_lettersOf_12 : decode cX10_lettersOf 12 = .ok (.iconst (-1), 1) := by decide +kernel
theorem dX10_lettersOf_13 : decode cX10_lettersOf 13 = .ok (.iastore, 1) := by decide +kernel
theorem dX10_lettersOf_14 : decode cX10_lettersOf 14 = .ok (.iinc 3 1, 3) := by decide +kernel
theorem dX10_lettersOf_17 : decode cX10_lettersOf 17 = .ok (.goto (-15), 3) := by decide +kernel
theorem dX10_lettersOf_20 : decode cX10_lettersOf 20 = .ok (.aload_n 0, 1) := by decide +kernel
theorem dX10_lettersOf_21 : decode cX10_lettersOf 21 = .ok (.getfield 86, 3) := by decide +kernel
theorem dX10_lettersOf_24 : decode cX10_lettersOf 24 = .ok (.iconst 0, 1) := by decide +kernel
theorem dX10_lettersOf_25 : decode cX10_lettersOf 25 = .ok (.iconst 0, 1) := by decide +kernel
theorem dX10_lettersOf_26 : decode cX10_lettersOf 26 = .ok (.iastore, 1) := by decide +kernel
theorem dX10_lettersOf_27 : decode cX10_lettersOf 27 = .ok (.iconst 0, 1) := by decide +kernel
theorem dX10_lettersOf_28 : decode cX10_lettersOf 28 = .ok (.istore_n 3, 1) := by decide +kernel
theorem dX10_lettersOf_29 : decode cX10_lettersOf 29 = .ok (.iconst 0, 1) := by decide +kernel
theorem dX10_lettersOf_30 : decode cX10_lettersOf 30 = .ok (.istore 4, 2) := by decide +kernel
theorem dX10_lettersOf_32 : decode cX10_lettersOf 32 = .ok (.iload 4, 2) := by decide +kernel
theorem dX10_lettersOf_34 : decode cX10_lettersOf 34 = .ok (.iload_n 2, 1) := by decide +kernel
theorem dX10_lettersOf_35 : decode cX10_lettersOf 35 = .ok (.if_icmp .ge 279, 3) := by decide +kernel
theorem dX10_lettersOf_38 : decode cX10_lettersOf 38 = .ok (.aload_n 0, 1) := by decide +kernel
theorem dX10_lettersOf_39 : decode cX10_lettersOf 39 = .ok (.getfield 86, 3) := by decide +kernel
theorem dX10_lettersOf_42 : decode cX10_lettersOf 42 = .ok (.iload 4, 2) := by decide +kernel
theorem dX10_lettersOf_44 : decode cX10_lettersOf 44 = .ok (.iaload, 1) := by decide +kernel
theorem dX10_lettersOf_45 : decode cX10_lettersOf 45 = .ok (.iconst (-1), 1) := by decide +kernel
theorem dX10_lettersOf_46 : decode cX10_lettersOf 46 = .ok (.if_icmp .eq 60, 3) := by decide +kernel
theorem dX10_lettersOf_49 : decode cX10_lettersOf 49 = .ok (.aload_n 0, 1) := by decide +kernel
theorem dX10_lettersOf_50 : decode cX10_lettersOf 50 = .ok (.getfield 95, 3) := by decide +kernel
theorem dX10_lettersOf_53 : decode cX10_lettersOf 53 = .ok (.iload 4, 2) := by decide +kernel
theorem dX10_lettersOf_55 : decode cX10_lettersOf 55 = .ok (.baload, 1) := by decide +kernel
theorem dX10_lettersOf_56 : decode cX10_lettersOf 56 = .ok (.ifCond .eq 50, 3) := by decide +kernel
theorem dX10_lettersOf_59 : decode cX10_lettersOf 59 = .ok (.aload_n 0, 1) := by decide +kernel
theorem dX10_lettersOf_60 : decode cX10_lettersOf 60 = .ok (.getfield 86, 3) := by decide +kernel
theorem dX10_lettersOf_63 : decode cX10_lettersOf 63 = .ok (.iload 4, 2) := by decide +kernel
theorem dX10_lettersOf_65 : decode cX10_lettersOf 65 = .ok (.iconst 1, 1) := by decide +kernel
theorem dX10_lettersOf_66 : decode cX10_lettersOf 66 = .ok (.iadd, 1) := by decide +kernel
theorem dX10_lettersOf_67 : decode cX10_lettersOf 67 = .ok (.aload_n 0, 1) := by decide +kernel
theorem dX10_lettersOf_68 : decode cX10_lettersOf 68 = .ok (.getfield 86, 3) := by decide +kernel
theorem dX10_lettersOf_71 : decode cX10_lettersOf 71 = .ok (.iload 4, 2) := by decide +kernel
theorem dX10_lettersOf_73 : decode cX10_lettersOf 73 = .ok (.iaload, 1) := by decide +kernel
theorem dX10_lettersOf_74 : decode cX10_lettersOf 74 = .ok (.aload_n 0, 1) := by decide +kernel
theorem dX10_lettersOf_75 : decode cX10_lettersOf 75 = .ok (.getfield 86, 3) := by decide +kernel
theorem dX10_lettersOf_78 : decode cX10_lettersOf 78 = .ok (.iload 4, 2) := by decide +kernel
theorem dX10_lettersOf_80 : decode cX10_lettersOf 80 = .ok (.iconst 1, 1) := by decide +kernel
theorem dX10_lettersOf_81 : decode cX10_lettersOf 81 = .ok (.iadd, 1) := by decide +kernel
theorem dX10_lettersOf_82 : decode cX10_lettersOf 82 = .ok (.iaload, 1) := by decide +kernel
theorem dX10_lettersOf_83 : decode cX10_lettersOf 83 = .ok (.if_icmp .le 13, 3) := by decide +kernel
theorem dX10_lettersOf_86 : decode cX10_lettersOf 86 = .ok (.aload_n 0, 1) := by decide +kernel
theorem dX10_lettersOf_87 : decode cX10_lettersOf 87 = .ok (.getfield 86, 3) := by decide +kernel
theorem dX10_lettersOf_90 : decode cX10_lettersOf 90 = .ok (.iload 4, 2) := by decide +kernel
theorem dX10_lettersOf_92 : decode cX10_lettersOf 92 = .ok (.iaload, 1) := by decide +kernel
theorem dX10_lettersOf_93 : decode cX10_lettersOf 93 = .ok (.goto 12, 3) := by decide +kernel
theorem dX10_lettersOf_96 : decode cX10_lettersOf 96 = .ok (.aload_n 0, 1) := by decide +kernel
theorem dX10_lettersOf_97 : decode cX10_lettersOf 97 = .ok (.getfield 86, 3) := by decide +kernel
theorem dX10_lettersOf_100 : decode cX10_lettersOf 100 = .ok (.iload 4, 2) := by decide +kernel
theorem dX10_lettersOf_102 : decode cX10_lettersOf 102 = .ok (.iconst 1, 1) := by decide +kernel
theorem dX10_lettersOf_103 : decode cX10_lettersOf 103 = .ok (.iadd, 1) := by decide +kernel
theorem dX10_lettersOf_104 : decode cX10_lettersOf 104 = .ok (.iaload, 1) := by decide +kernel
theorem dX10_lettersOf_105 : decode cX10_lettersOf 105 = .ok (.iastore, 1) := by decide +kernel
theorem dX10_lettersOf_106 : decode cX10_lettersOf 106 = .ok (.iconst 0, 1) := by decide +kernel
theorem dX10_lettersOf_107 : decode cX10_lettersOf 107 = .ok (.istore 5, 2) := by decide +kernel
theorem dX10_lettersOf_109 : decode cX10_lettersOf 109 = .ok (.iload 5, 2) := by decide +kernel
theorem dX10_lettersOf_111 : decode cX10_lettersOf 111 = .ok (.aload_n 0, 1) := by decide +kernel
theorem dX10_lettersOf_112 : decode cX10_lettersOf 112 = .ok (.getfield 163, 3) := by decide +kernel
theorem dX10_lettersOf_115 : decode cX10_lettersOf 115 = .ok (.if_icmp .ge 193, 3) := by decide +kernel
theorem dX10_lettersOf_118 : decode cX10_lettersOf 118 = .ok (.aload_n 0, 1) := by decide +kernel
theorem dX10_lettersOf_119 : decode cX10_lettersOf 119 = .ok (.getfield 86, 3) := by decide +kernel
theorem dX10_lettersOf_122 : decode cX10_lettersOf 122 = .ok (.iload 4, 2) := by decide +kernel
theorem dX10_lettersOf_124 : decode cX10_lettersOf 124 = .ok (.iaload, 1) := by decide +kernel
theorem dX10_lettersOf_125 : decode cX10_lettersOf 125 = .ok (.iconst (-1), 1) := by decide +kernel
theorem dX10_lettersOf_126 : decode cX10_lettersOf 126 = .ok (.if_icmp .eq 182, 3) := by decide +kernel
theorem dX10_lettersOf_129 : decode cX10_lettersOf 129 = .ok (.aload_n 0, 1) := by decide +kernel
theorem dX10_lettersOf_130 : decode cX10_lettersOf 130 = .ok (.getfield 95, 3) := by decide +kernel
theorem dX10_lettersOf_133 : decode cX10_lettersOf 133 = .ok (.iload 4, 2) := by decide +kernel
theorem dX10_lettersOf_135 : decode cX10_lettersOf 135 = .ok (.baload, 1) := by decide +kernel
theorem dX10_lettersOf_136 : decode cX10_lettersOf 136 = .ok (.ifCond .ne 172, 3) := by decide +kernel
theorem dX10_lettersOf_139 : decode cX10_lettersOf 139 = .ok (.aload_n 0, 1) := by decide +kernel
theorem dX10_lettersOf_140 : decode cX10_lettersOf 140 = .ok (.iload 5, 2) := by decide +kernel
theorem dX10_lettersOf_142 : decode cX10_lettersOf 142 = .ok (.iload 4, 2) := by decide +kernel
theorem dX10_lettersOf_144 : decode cX10_lettersOf 144 = .ok (.iload_n 2, 1) := by decide +kernel
theorem dX10_lettersOf_145 : decode cX10_lettersOf 145 = .ok (.invokevirtual 169, 3) := by decide +kernel
theorem dX10_lettersOf_148 : decode cX10_lettersOf 148 = .ok (.istore 6, 2) := by decide +kernel
theorem dX10_lettersOf_150 : decode cX10_lettersOf 150 = .ok (.iload 4, 2) := by decide +kernel
theorem dX10_lettersOf_152 : decode cX10_lettersOf 152 = .ok (.aload_n 0, 1) := by decide +kernel
theorem dX10_lettersOf_153 : decode cX10_lettersOf 153 = .ok (.getfield 55, 3) := by decide +kernel
theorem dX10_lettersOf_156 : decode cX10_lettersOf 156 = .ok (.iload 5, 2) := by decide +kernel
theorem dX10_lettersOf_158 : decode cX10_lettersOf 158 = .ok (.iaload, 1) := by decide +kernel
theorem dX10_lettersOf_159 : decode cX10_lettersOf 159 = .ok (.iadd, 1) := by decide +kernel
theorem dX10_lettersOf_160 : decode cX10_lettersOf 160 = .ok (.istore 7, 2) := by decide +kernel
theorem dX10_lettersOf_162 : decode cX10_lettersOf 162 = .ok (.iload 6, 2) := by decide +kernel
theorem dX10_lettersOf_164 : decode cX10_lettersOf 164 = .ok (.iconst (-1), 1) := by decide +kernel
theorem dX10_lettersOf_165 : decode cX10_lettersOf 165 = .ok (.if_icmp .eq 137, 3) := by decide +kernel
theorem dX10_lettersOf_168 : decode cX10_lettersOf 168 = .ok (.aload_n 0, 1) := by decide +kernel
theorem dX10_lettersOf_169 : decode cX10_lettersOf 169 = .ok (.getfield 83, 3) := by decide +kernel
theorem dX10_lettersOf_172 : decode cX10_lettersOf 172 = .ok (.iload 7, 2) := by decide +kernel
theorem dX10_lettersOf_174 : decode cX10_lettersOf 174 = .ok (.iaload, 1) := by decide +kernel
theorem dX10_lettersOf_175 : decode cX10_lettersOf 175 = .ok (.iconst (-1), 1) := by decide +kernel
theorem dX10_lettersOf_176 : decode cX10_lettersOf 176 = .ok (.if_icmp .eq 126, 3) := by decide +kernel
theorem dX10_lettersOf_179 : decode cX10_lettersOf 179 = .ok (.aload_n 0, 1) := by decide +kernel
theorem dX10_lettersOf_180 : decode cX10_lettersOf 180 = .ok (.getfield 86, 3) := by decide +kernel
theorem dX10_lettersOf_183 : decode cX10_lettersOf 183 = .ok (.iload 4, 2) := by decide +kernel
theorem dX10_lettersOf_185 : decode cX10_lettersOf 185 = .ok (.iaload, 1) := by decide +kernel
theorem dX10_lettersOf_186 : decode cX10_lettersOf 186 = .ok (.iload 6, 2) := by decide +kernel
theorem dX10_lettersOf_188 : decode cX10_lettersOf 188 = .ok (.iadd, 1) := by decide +kernel
theorem dX10_lettersOf_189 : decode cX10_lettersOf 189 = .ok (.aload_n 0, 1) := by decide +kernel
theorem dX10_lettersOf_190 : decode cX10_lettersOf 190 = .ok (.getfield 83, 3) := by decide +kernel
theorem dX10_lettersOf_193 : decode cX10_lettersOf 193 = .ok (.iload 7, 2) := by decide +kernel
theorem dX10_lettersOf_195 : decode cX10_lettersOf 195 = .ok (.iaload, 1) := by decide +kernel
theorem dX10_lettersOf_196 : decode cX10_lettersOf 196 = .ok (.iadd, 1) := by decide +kernel
theorem dX10_lettersOf_197 : decode cX10_lettersOf 197 = .ok (.aload_n 0, 1) := by decide +kernel
theorem dX10_lettersOf_198 : decode cX10_lettersOf 198 = .ok (.getfield 83, 3) := by decide +kernel
theorem dX10_lettersOf_201 : decode cX10_lettersOf 201 = .ok (.iconst 0, 1) := by decide +kernel
theorem dX10_lettersOf_202 : decode cX10_lettersOf 202 = .ok (.iaload, 1) := by decide +kernel
theorem dX10_lettersOf_203 : decode cX10_lettersOf 203 = .ok (.if_icmp .ne 7, 3) := by decide +kernel
theorem dX10_lettersOf_206 : decode cX10_lettersOf 206 = .ok (.iconst 1, 1) := by decide +kernel
theorem dX10_lettersOf_207 : decode cX10_lettersOf 207 = .ok (.goto 4, 3) := by decide +kernel
theorem dX10_lettersOf_210 : decode cX10_lettersOf 210 = .ok (.iconst 0, 1) := by decide +kernel
theorem dX10_lettersOf_211 : decode cX10_lettersOf 211 = .ok (.istore 8, 2) := by decide +kernel
theorem dX10_lettersOf_213 : decode cX10_lettersOf 213 = .ok (.iload_n 3, 1) := by decide +kernel
theorem dX10_lettersOf_214 : decode cX10_lettersOf 214 = .ok (.iload 8, 2) := by decide +kernel
theorem dX10_lettersOf_216 : decode cX10_lettersOf 216 = .ok (.ifCond .eq 36, 3) := by decide +kernel
theorem dX10_lettersOf_219 : decode cX10_lettersOf 219 = .ok (.iload_n 1, 1) := by decide +kernel
theorem dX10_lettersOf_220 : decode cX10_lettersOf 220 = .ok (.iload 4, 2) := by decide +kernel
theorem dX10_lettersOf_222 : decode cX10_lettersOf 222 = .ok (.iload 7, 2) := by decide +kernel
theorem dX10_lettersOf_224 : decode cX10_lettersOf 224 = .ok (.iconst 1, 1) := by decide +kernel
theorem dX10_lettersOf_225 : decode cX10_lettersOf 225 = .ok (.isub, 1) := by decide +kernel
theorem dX10_lettersOf_226 : decode cX10_lettersOf 226 = .ok (.invokestatic 129, 3) := by decide +kernel
theorem dX10_lettersOf_229 : decode cX10_lettersOf 229 = .ok (.ifCond .eq 23, 3) := by decide +kernel
theorem dX10_lettersOf_232 : decode cX10_lettersOf 232 = .ok (.iconst 1, 1) := by decide +kernel
theorem dX10_lettersOf_233 : decode cX10_lettersOf 233 = .ok (.aload_n 0, 1) := by decide +kernel
theorem dX10_lettersOf_234 : decode cX10_lettersOf 234 = .ok (.getfield 58, 3) := by decide +kernel
theorem dX10_lettersOf_237 : decode cX10_lettersOf 237 = .ok (.bipush 8, 2) := by decide +kernel
theorem dX10_lettersOf_239 : decode cX10_lettersOf 239 = .ok (.iload 5, 2) := by decide +kernel
theorem dX10_lettersOf_241 : decode cX10_lettersOf 241 = .ok (.imul, 1) := by decide +kernel
theorem dX10_lettersOf_242 : decode cX10_lettersOf 242 = .ok (.iload_n 1, 1) := by decide +kernel
theorem dX10_lettersOf_243 : decode cX10_lettersOf 243 = .ok (.iadd, 1) := by decide +kernel
theorem dX10_lettersOf_244 : decode cX10_lettersOf 244 = .ok (.iload 4, 2) := by decide +kernel
theorem dX10_lettersOf_246 : decode cX10_lettersOf 246 = .ok (.isub, 1) := by decide +kernel
theorem dX10_lettersOf_247 : decode cX10_lettersOf 247 = .ok (.iaload, 1) := by decide +kernel
theorem dX10_lettersOf_248 : decode cX10_lettersOf 248 = .ok (.ishl, 1) := by decide +kernel
theorem dX10_lettersOf_249 : decode cX10_lettersOf 249 = .ok (.goto 4, 3) := by decide +kernel
theorem dX10_lettersOf_252 : decode cX10_lettersOf 252 = .ok (.iconst 0, 1) := by decide +kernel
theorem dX10_lettersOf_253 : decode cX10_lettersOf 253 = .ok (.ior, 1) := by decide +kernel
theorem dX10_lettersOf_254 : decode cX10_lettersOf 254 = .ok (.istore_n 3, 1) := by decide +kernel
theorem dX10_lettersOf_255 : decode cX10_lettersOf 255 = .ok (.aload_n 0, 1) := by decide +kernel
theorem dX10_lettersOf_256 : decode cX10_lettersOf 256 = .ok (.getfield 86, 3) := by decide +kernel
theorem dX10_lettersOf_259 : decode cX10_lettersOf 259 = .ok (.iload 7, 2) := by decide +kernel
theorem dX10_lettersOf_261 : decode cX10_lettersOf 261 = .ok (.aload_n 0, 1) := by decide +kernel
theorem dX10_lettersOf_262 : decode cX10_lettersOf 262 = .ok (.getfield 86, 3) := by decide +kernel
theorem dX10_lettersOf_265 : decode cX10_lettersOf 265 = .ok (.iload 4, 2) := by decide +kernel
theorem dX10_lettersOf_267 : decode cX10_lettersOf 267 = .ok (.iaload, 1) := by decide +kernel
theorem dX10_lettersOf_268 : decode cX10_lettersOf 268 = .ok (.iload 6, 2) := by decide +kernel
theorem dX10_lettersOf_270 : decode cX10_lettersOf 270 = .ok (.iadd, 1) := by decide +kernel
theorem dX10_lettersOf_271 : decode cX10_lettersOf 271 = .ok (.aload_n 0, 1) := by decide +kernel
theorem dX10_lettersOf_272 : decode cX10_lettersOf 272 = .ok (.getfield 86, 3) := by decide +kernel
theorem dX10_lettersOf_275 : decode cX10_lettersOf 275 = .ok (.iload 7, 2) := by decide +kernel
theorem dX10_lettersOf_277 : decode cX10_lettersOf 277 = .ok (.iaload, 1) := by decide +kernel
theorem dX10_lettersOf_278 : decode cX10_lettersOf 278 = .ok (.if_icmp .le 16, 3) := by decide +kernel
theorem dX10_lettersOf_281 : decode cX10_lettersOf 281 = .ok (.aload_n 0, 1) := by decide +kernel
theorem dX10_lettersOf_282 : decode cX10_lettersOf 282 = .ok (.getfield 86, 3) := by decide +kernel
theorem dX10_lettersOf_285 : decode cX10_lettersOf 285 = .ok (.iload 4, 2) := by decide +kernel
theorem dX10_lettersOf_287 : decode cX10_lettersOf 287 = .ok (.iaload, 1) := by decide +kernel
theorem dX10_lettersOf_288 : decode cX10_lettersOf 288 = .ok (.iload 6, 2) := by decide +kernel
theorem dX10_lettersOf_290 : decode cX10_lettersOf 290 = .ok (.iadd, 1) := by decide +kernel
theorem dX10_lettersOf_291 : decode cX10_lettersOf 291 = .ok (.goto 10, 3) := by decide +kernel
theorem dX10_lettersOf_294 : decode cX10_lettersOf 294 = .ok (.aload_n 0, 1) := by decide +kernel
theorem dX10_lettersOf_295 : decode cX10_lettersOf 295 = .ok (.getfield 86, 3) := by decide +kernel
theorem dX10_lettersOf_298 : decode cX10_lettersOf 298 = .ok (.iload 7, 2) := by decide +kernel
theorem dX10_lettersOf_300 : decode cX10_lettersOf 300 = .ok (.iaload, 1) := by decide +kernel
theorem dX10_lettersOf_301 : decode cX10_lettersOf 301 = .ok (.iastore, 1) := by decide +kernel
theorem dX10_lettersOf_302 : decode cX10_lettersOf 302 = .ok (.iinc 5 1, 3) := by decide +kernel
theorem dX10_lettersOf_305 : decode cX10_lettersOf 305 = .ok (.goto (-196), 3) := by decide +kernel
theorem dX10_lettersOf_308 : decode cX10_lettersOf 308 = .ok (.iinc 4 1, 3) := by decide +kernel
theorem dX10_lettersOf_311 : decode cX10_lettersOf 311 = .ok (.goto (-279), 3) := by decide +kernel
theorem dX10_lettersOf_314 : decode cX10_lettersOf 314 = .ok (.iload_n 3, 1) := by decide +kernel
theorem dX10_lettersOf_315 : decode cX10_lettersOf 315 = .ok (.ireturn, 1) := by decide +kernel
theorem dX10_state_0 : decode cX10_state 0 = .ok (.aload_n 0, 1) := by decide +kernel
theorem dX10_state_1 : decode cX10_state 1 = .ok (.aload_n 0, 1) := by decide +kernel
theorem dX10_state_2 : decode cX10_state 2 = .ok (.iload_n 1, 1) := by decide +kernel
theorem dX10_state_3 : decode cX10_state 3 = .ok (.iload_n 2, 1) := by decide +kernel
theorem dX10_state_4 : decode cX10_state 4 = .ok (.iload_n 3, 1) := by decide +kernel
theorem dX10_state_5 : decode cX10_state 5 = .ok (.invokevirtual 150, 3) := by decide +kernel
theorem dX10_state_8 : decode cX10_state 8 = .ok (.ifCond .ne 7, 3) := by decide +kernel
theorem dX10_state_11 : decode cX10_state 11 = .ok (.iconst 1, 1) := by decide +kernel
theorem dX10_state_12 : decode cX10_state 12 = .ok (.goto 19, 3) := by decide +kernel
theorem dX10_state_15 : decode cX10_state 15 = .ok (.iload 4, 2) := by decide +kernel
theorem dX10_state_17 : decode cX10_state 17 = .ok (.iconst 0, 1) := by decide +kernel
theorem dX10_state_18 : decode cX10_state 18 = .ok (.bipush 7, 2) := by decide +kernel
theorem dX10_state_20 : decode cX10_state 20 = .ok (.invokestatic 129, 3) := by decide +kernel
theorem dX10_state_23 : decode cX10_state 23 = .ok (.ifCond .ne 7, 3) := by decide +kernel
theorem dX10_state_26 : decode cX10_state 26 = .ok (.iconst 2, 1) := by decide +kernel
theorem dX10_state_27 : decode cX10_state 27 = .ok (.goto 4, 3) := by decide +kernel
theorem dX10_state_30 : decode cX10_state 30 = .ok (.iconst 0, 1) := by decide +kernel
theorem dX10_state_31 : decode cX10_state 31 = .ok (.putfield 122, 3) := by decide +kernel
theorem dX10_state_34 : decode cX10_state 34 = .ok (.aload_n 0, 1) := by decide +kernel
theorem dX10_state_35 : decode cX10_state 35 = .ok (.getfield 122, 3) := by decide +kernel
theorem dX10_state_38 : decode cX10_state 38 = .ok (.ifCond .le 5, 3) := by decide +kernel
theorem dX10_state_41 : decode cX10_state 41 = .ok (.iconst 0, 1) := by decide +kernel
theorem dX10_state_42 : decode cX10_state 42 = .ok (.ireturn, 1) := by decide +kernel
theorem dX10_state_43 : decode cX10_state 43 = .ok (.aload_n 0, 1) := by decide +kernel
theorem dX10_state_44 : decode cX10_state 44 = .ok (.iload_n 1, 1) := by decide +kernel
theorem dX10_state_45 : decode cX10_state 45 = .ok (.iload_n 2, 1) := by decide +kernel
theorem dX10_state_46 : decode cX10_state 46 = .ok (.iload 4, 2) := by decide +kernel
theorem dX10_state_48 : decode cX10_state 48 = .ok (.invokevirtual 179, 3) := by decide +kernel
theorem dX10_state_51 : decode cX10_state 51 = .ok (.aload_n 0, 1) := by decide +kernel
theorem dX10_state_52 : decode cX10_state 52 = .ok (.getfield 83, 3) := by decide +kernel
theorem dX10_state_55 : decode cX10_state 55 = .ok (.iconst 0, 1) := by decide +kernel
theorem dX10_state_56 : decode cX10_state 56 = .ok (.iaload, 1) := by decide +kernel
theorem dX10_state_57 : decode cX10_state 57 = .ok (.iconst (-1), 1) := by decide +kernel
theorem dX10_state_58 : decode cX10_state 58 = .ok (.if_icmp .ne 5, 3) := by decide +kernel
theorem dX10_state_61 : decode cX10_state 61 = .ok (.iconst 0, 1) := by decide +kernel
theorem dX10_state_62 : decode cX10_state 62 = .ok (.ireturn, 1) := by decide +kernel
theorem dX10_state_63 : decode cX10_state 63 = .ok (.aload_n 0, 1) := by decide +kernel
theorem dX10_state_64 : decode cX10_state 64 = .ok (.getfield 95, 3) := by decide +kernel
theorem dX10_state_67 : decode cX10_state 67 = .ok (.iload_n 3, 1) := by decide +kernel
theorem dX10_state_68 : decode cX10_state 68 = .ok (.baload, 1) := by decide +kernel
theorem dX10_state_69 : decode cX10_state 69 = .ok (.ifCond .eq 5, 3) := by decide +kernel
theorem dX10_state_72 : decode cX10_state 72 = .ok (.iconst 1, 1) := by decide +kernel
theorem dX10_state_73 : decode cX10_state 73 = .ok (.ireturn, 1) := by decide +kernel
theorem dX10_state_74 : decode cX10_state 74 = .ok (.aload_n 0, 1) := by decide +kernel
theorem dX10_state_75 : decode cX10_state 75 = .ok (.iload_n 3, 1) := by decide +kernel
theorem dX10_state_76 : decode cX10_state 76 = .ok (.aload_n 0, 1) := by decide +kernel
theorem dX10_state_77 : decode cX10_state 77 = .ok (.getfield 16, 3) := by decide +kernel
theorem dX10_state_80 : decode cX10_state 80 = .ok (.iload_n 1, 1) := by decide +kernel
theorem dX10_state_81 : decode cX10_state 81 = .ok (.iaload, 1) := by decide +kernel
theorem dX10_state_82 : decode cX10_state 82 = .ok (.invokevirtual 219, 3) := by decide +kernel
theorem dX10_state_85 : decode cX10_state 85 = .ok (.istore 5, 2) := by decide +kernel
theorem dX10_state_87 : decode cX10_state 87 = .ok (.iload 5, 2) := by decide +kernel
theorem dX10_state_89 : decode cX10_state 89 = .ok (.invokestatic 222, 3) := by decide +kernel
theorem dX10_state_92 : decode cX10_state 92 = .ok (.ifCond .ne 7, 3) := by decide +kernel
theorem dX10_state_95 : decode cX10_state 95 = .ok (.iconst 5, 1) := by decide +kernel
theorem dX10_state_96 : decode cX10_state 96 = .ok (.goto 31, 3) := by decide +kernel
theorem dX10_state_99 : decode cX10_state 99 = .ok (.aload_n 0, 1) := by decide +kernel
theorem dX10_state_100 : decode cX10_state 100 = .ok (.getfield 101, 3) := by decide +kernel
theorem dX10_state_103 : decode cX10_state 103 = .ok (.iload_n 3, 1) := by decide +kernel
theorem dX10_state_104 : decode cX10_state 104 = .ok (.iaload, 1) := by decide +kernel
theorem dX10_state_105 : decode cX10_state 105 = .ok (.ifCond .ne 7, 3) := by decide +kernel
theorem dX10_state_108 : decode cX10_state 108 = .ok (.iconst 4, 1) := by decide +kernel
theorem dX10_state_109 : decode cX10_state 109 = .ok (.goto 18, 3) := by decide +kernel
theorem dX10_state_112 : decode cX10_state 112 = .ok (.aload_n 0, 1) := by decide +kernel
theorem dX10_state_113 : decode cX10_state 113 = .ok (.getfield 101, 3) := by decide +kernel
theorem dX10_state_116 : decode cX10_state 116 = .ok (.iload_n 3, 1) := by decide +kernel
theorem dX10_state_117 : decode cX10_state 117 = .ok (.iaload, 1) := by decide +kernel
theorem dX10_state_118 : decode cX10_state 118 = .ok (.iconst 1, 1) := by decide +kernel
theorem dX10_state_119 : decode cX10_state 119 = .ok (.if_icmp .ne 7, 3) := by decide +kernel
theorem dX10_state_122 : decode cX10_state 122 = .ok (.iconst 2, 1) := by decide +kernel
theorem dX10_state_123 : decode cX10_state 123 = .ok (.goto 4, 3) := by decide +kernel
theorem dX10_state_126 : decode cX10_state 126 = .ok (.iconst 3, 1) := by decide +kernel
theorem dX10_state_127 : decode cX10_state 127 = .ok (.ireturn, 1) := by decide +kernel
theorem dX10_rests_0 : decode cX10_rests 0 = .ok (.aload_n 0, 1) := by decide +kernel
theorem dX10_rests_1 : decode cX10_rests 1 = .ok (.aload_n 0, 1) := by decide +kernel
theorem dX10_rests_2 : decode cX10_rests 2 = .ok (.iload_n 1, 1) := by decide +kernel
theorem dX10_rests_3 : decode cX10_rests 3 = .ok (.invokevirtual 133, 3) := by decide +kernel
theorem dX10_rests_6 : decode cX10_rests 6 = .ok (.ifCond .eq 7, 3) := by decide +kernel
theorem dX10_rests_9 : decode cX10_rests 9 = .ok (.iconst 0, 1) := by decide +kernel
theorem dX10_rests_10 : decode cX10_rests 10 = .ok (.goto 4, 3) := by decide +kernel
theorem dX10_rests_13 : decode cX10_rests 13 = .ok (.iconst 1, 1) := by decide +kernel
theorem dX10_rests_14 : decode cX10_rests 14 = .ok (.putfield 122, 3) := by decide +kernel
theorem dX10_rests_17 : decode cX10_rests 17 = .ok (.aload_n 0, 1) := by decide +kernel
theorem dX10_rests_18 : decode cX10_rests 18 = .ok (.getfield 122, 3) := by decide +kernel
theorem dX10_rests_21 : decode cX10_rests 21 = .ok (.ifCond .le 5, 3) := by decide +kernel
theorem dX10_rests_24 : decode cX10_rests 24 = .ok (.iconst 0, 1) := by decide +kernel
theorem dX10_rests_25 : decode cX10_rests 25 = .ok (.ireturn, 1) := by decide +kernel
theorem dX10_rests_26 : decode cX10_rests 26 = .ok (.aload_n 0, 1) := by decide +kernel
theorem dX10_rests_27 : decode cX10_rests 27 = .ok (.aload_n 0, 1) := by decide +kernel
theorem dX10_rests_28 : decode cX10_rests 28 = .ok (.getfield 7, 3) := by decide +kernel
theorem dX10_rests_31 : decode cX10_rests 31 = .ok (.iload_n 1, 1) := by decide +kernel
theorem dX10_rests_32 : decode cX10_rests 32 = .ok (.iaload, 1) := by decide +kernel
theorem dX10_rests_33 : decode cX10_rests 33 = .ok (.iconst 0, 1) := by decide +kernel
theorem dX10_rests_34 : decode cX10_rests 34 = .ok (.iconst (-1), 1) := by decide +kernel
theorem dX10_rests_35 : decode cX10_rests 35 = .ok (.iconst (-1), 1) := by decide +kernel
theorem dX10_rests_36 : decode cX10_rests 36 = .ok (.iconst (-1), 1) := by decide +kernel
theorem dX10_rests_37 : decode cX10_rests 37 = .ok (.invokevirtual 205, 3) := by decide +kernel
theorem dX10_rests_40 : decode cX10_rests 40 = .ok (.aload_n 0, 1) := by decide +kernel
theorem dX10_rests_41 : decode cX10_rests 41 = .ok (.getfield 110, 3) := by decide +kernel
theorem dX10_rests_44 : decode cX10_rests 44 = .ok (.iload_n 1, 1) := by decide +kernel
theorem dX10_rests_45 : decode cX10_rests 45 = .ok (.iaload, 1) := by decide +kernel
theorem dX10_rests_46 : decode cX10_rests 46 = .ok (.istore_n 2, 1) := by decide +kernel
theorem dX10_rests_47 : decode cX10_rests 47 = .ok (.iconst 0, 1) := by decide +kernel
theorem dX10_rests_48 : decode cX10_rests 48 = .ok (.istore_n 3, 1) := by decide +kernel
theorem dX10_rests_49 : decode cX10_rests 49 = .ok (.iconst 0, 1) := by decide +kernel
theorem dX10_rests_50 : decode cX10_rests 50 = .ok (.istore 4, 2) := by decide +kernel
theorem dX10_rests_52 : decode cX10_rests 52 = .ok (.iload 4, 2) := by decide +kernel
theorem dX10_rests_54 : decode cX10_rests 54 = .ok (.aload_n 0, 1) := by decide +kernel
theorem dX10_rests_55 : decode cX10_rests 55 = .ok (.getfield 185, 3) := by decide +kernel
theorem dX10_rests_58 : decode cX10_rests 58 = .ok (.if_icmp .ge 52, 3) := by decide +kernel
theorem dX10_rests_61 : decode cX10_rests 61 = .ok (.iload_n 2, 1) := by decide +kernel
theorem dX10_rests_62 : decode cX10_rests 62 = .ok (.invokestatic 222, 3) := by decide +kernel
theorem dX10_rests_65 : decode cX10_rests 65 = .ok (.ifCond .eq 45, 3) := by decide +kernel
theorem dX10_rests_68 : decode cX10_rests 68 = .ok (.aload_n 0, 1) := by decide +kernel
theorem dX10_rests_69 : decode cX10_rests 69 = .ok (.aload_n 0, 1) := by decide +kernel
theorem dX10_rests_70 : decode cX10_rests 70 = .ok (.getfield 7, 3) := by decide +kernel
theorem dX10_rests_73 : decode cX10_rests 73 = .ok (.iload_n 1, 1) := by decide +kernel
theorem dX10_rests_74 : decode cX10_rests 74 = .ok (.iaload, 1) := by decide +kernel
theorem dX10_rests_75 : decode cX10_rests 75 = .ok (.iconst 0, 1) := by decide +kernel
theorem dX10_rests_76 : decode cX10_rests 76 = .ok (.iload 4, 2) := by decide +kernel
theorem dX10_rests_78 : decode cX10_rests 78 = .ok (.iconst (-1), 1) := by decide +kernel
theorem dX10_rests_79 : decode cX10_rests 79 = .ok (.iconst (-1), 1) := by decide +kernel
theorem dX10_rests_80 : decode cX10_rests 80 = .ok (.invokevirtual 205, 3) := by decide +kernel
theorem dX10_rests_83 : decode cX10_rests 83 = .ok (.iload_n 3, 1) := by decide +kernel
theorem dX10_rests_84 : decode cX10_rests 84 = .ok (.aload_n 0, 1) := by decide +kernel
theorem dX10_rests_85 : decode cX10_rests 85 = .ok (.getfield 110, 3) := by decide +kernel
theorem dX10_rests_88 : decode cX10_rests 88 = .ok (.iload_n 1, 1) := by decide +kernel
theorem dX10_rests_89 : decode cX10_rests 89 = .ok (.iaload, 1) := by decide +kernel
theorem dX10_rests_90 : decode cX10_rests 90 = .ok (.iload_n 2, 1) := by decide +kernel
theorem dX10_rests_91 : decode cX10_rests 91 = .ok (.if_icmp .eq 10, 3) := by decide +kernel
theorem dX10_rests_94 : decode cX10_rests 94 = .ok (.iconst 1, 1) := by decide +kernel
theorem dX10_rests_95 : decode cX10_rests 95 = .ok (.iload 4, 2) := by decide +kernel
theorem dX10_rests_97 : decode cX10_rests 97 = .ok (.ishl, 1) := by decide +kernel
theorem dX10_rests_98 : decode cX10_rests 98 = .ok (.goto 4, 3) := by decide +kernel
theorem dX10_rests_101 : decode cX10_rests 101 = .ok (.iconst 0, 1) := by decide +kernel
theorem dX10_rests_102 : decode cX10_rests 102 = .ok (.ior, 1) := by decide +kernel
theorem dX10_rests_103 : decode cX10_rests 103 = .ok (.istore_n 3, 1) := by decide +kernel
theorem dX10_rests_104 : decode cX10_rests 104 = .ok (.iinc 4 1, 3) := by decide +kernel
theorem dX10_rests_107 : decode cX10_rests 107 = .ok (.goto (-55), 3) := by decide +kernel
theorem dX10_rests_110 : decode cX10_rests 110 = .ok (.iload_n 3, 1) := by decide +kernel
theorem dX10_rests_111 : decode cX10_rests 111 = .ok (.ireturn, 1) := by decide +kernel
theorem dX10_many_0 : decode cX10_many 0 = .ok (.iconst 0, 1) := by decide +kernel
theorem dX10_many_1 : decode cX10_many 1 = .ok (.istore_n 1, 1) := by decide +kernel
theorem dX10_many_2 : decode cX10_many 2 = .ok (.iload_n 0, 1) := by decide +kernel
theorem dX10_many_3 : decode cX10_many 3 = .ok (.istore_n 2, 1) := by decide +kernel
theorem dX10_many_4 : decode cX10_many 4 = .ok (.iload_n 2, 1) := by decide +kernel
theorem dX10_many_5 : decode cX10_many 5 = .ok (.ifCond .le 16, 3) := by decide +kernel
theorem dX10_many_8 : decode cX10_many 8 = .ok (.iload_n 1, 1) := by decide +kernel
theorem dX10_many_9 : decode cX10_many 9 = .ok (.iload_n 2, 1) := by decide +kernel
theorem dX10_many_10 : decode cX10_many 10 = .ok (.iconst 1, 1) := by decide +kernel
theorem dX10_many_11 : decode cX10_many 11 = .ok (.iand, 1) := by decide +kernel
theorem dX10_many_12 : decode cX10_many 12 = .ok (.iadd, 1) := by decide +kernel
theorem dX10_many_13 : decode cX10_many 13 = .ok (.istore_n 1, 1) := by decide +kernel
theorem dX10_many_14 : decode cX10_many 14 = .ok (.iload_n 2, 1) := by decide +kernel
theorem dX10_many_15 : decode cX10_many 15 = .ok (.iconst 1, 1) := by decide +kernel
theorem dX10_many_16 : decode cX10_many 16 = .ok (.ishr, 1) := by decide +kernel
theorem dX10_many_17 : decode cX10_many 17 = .ok (.istore_n 2, 1) := by decide +kernel
theorem dX10_many_18 : decode cX10_many 18 = .ok (.goto (-14), 3) := by decide +kernel
theorem dX10_many_21 : decode cX10_many 21 = .ok (.iload_n 1, 1) := by decide +kernel
theorem dX10_many_22 : decode cX10_many 22 = .ok (.ireturn, 1) := by decide +kernel
theorem dX10_worth_0 : decode cX10_worth 0 = .ok (.aload_n 0, 1) := by decide +kernel
theorem dX10_worth_1 : decode cX10_worth 1 = .ok (.iconst 0, 1) := by decide +kernel
theorem dX10_worth_2 : decode cX10_worth 2 = .ok (.putfield 122, 3) := by decide +kernel
theorem dX10_worth_5 : decode cX10_worth 5 = .ok (.iconst (-1), 1) := by decide +kernel
theorem dX10_worth_6 : decode cX10_worth 6 = .ok (.istore_n 1, 1) := by decide +kernel
theorem dX10_worth_7 : decode cX10_worth 7 = .ok (.iconst 0, 1) := by decide +kernel
theorem dX10_worth_8 : decode cX10_worth 8 = .ok (.istore_n 2, 1) := by decide +kernel
theorem dX10_worth_9 : decode cX10_worth 9 = .ok (.iconst 0, 1) := by decide +kernel
theorem dX10_worth_10 : decode cX10_worth 10 = .ok (.istore_n 3, 1) := by decide +kernel
theorem dX10_worth_11 : decode cX10_worth 11 = .ok (.iload_n 3, 1) := by decide +kernel
theorem dX10_worth_12 : decode cX10_worth 12 = .ok (.iconst 2, 1) := by decide +kernel
theorem dX10_worth_13 : decode cX10_worth 13 = .ok (.if_icmp .ge 18, 3) := by decide +kernel
theorem dX10_worth_16 : decode cX10_worth 16 = .ok (.aload_n 0, 1) := by decide +kernel
theorem dX10_worth_17 : decode cX10_worth 17 = .ok (.iload_n 3, 1) := by decide +kernel
theorem dX10_worth_18 : decode cX10_worth 18 = .ok (.iconst 0, 1) := by decide +kernel
theorem dX10_worth_19 : decode cX10_worth 19 = .ok (.iconst (-1), 1) := by decide +kernel
theorem dX10_worth_20 : decode cX10_worth 20 = .ok (.iconst (-1), 1) := by decide +kernel
theorem dX10_worth_21 : decode cX10_worth 21 = .ok (.iconst (-1), 1) := by decide +kernel
theorem dX10_worth_22 : decode cX10_worth 22 = .ok (.invokevirtual 205, 3) := by decide +kernel
theorem dX10_worth_25 : decode cX10_worth 25 = .ok (.iinc 3 1, 3) := by decide +kernel
theorem dX10_worth_28 : decode cX10_worth 28 = .ok (.goto (-17), 3) := by decide +kernel
theorem dX10_worth_31 : decode cX10_worth 31 = .ok (.iconst 0, 1) := by decide +kernel
theorem dX10_worth_32 : decode cX10_worth 32 = .ok (.istore_n 3, 1) := by decide +kernel
theorem dX10_worth_33 : decode cX10_worth 33 = .ok (.iload_n 3, 1) := by decide +kernel
theorem dX10_worth_34 : decode cX10_worth 34 = .ok (.aload_n 0, 1) := by decide +kernel
theorem dX10_worth_35 : decode cX10_worth 35 = .ok (.getfield 126, 3) := by decide +kernel
theorem dX10_worth_38 : decode cX10_worth 38 = .ok (.if_icmp .ge 130, 3) := by decide +kernel
theorem dX10_worth_41 : decode cX10_worth 41 = .ok (.iconst 0, 1) := by decide +kernel
theorem dX10_worth_42 : decode cX10_worth 42 = .ok (.istore 4, 2) := by decide +kernel
theorem dX10_worth_44 : decode cX10_worth 44 = .ok (.iconst 0, 1) := by decide +kernel
theorem dX10_worth_45 : decode cX10_worth 45 = .ok (.istore 5, 2) := by decide +kernel
theorem dX10_worth_47 : decode cX10_worth 47 = .ok (.iload 5, 2) := by decide +kernel
theorem dX10_worth_49 : decode cX10_worth 49 = .ok (.aload_n 0, 1) := by decide +kernel
theorem dX10_worth_50 : decode cX10_worth 50 = .ok (.getfield 13, 3) := by decide +kernel
theorem dX10_worth_53 : decode cX10_worth 53 = .ok (.iload_n 3, 1) := by decide +kernel
theorem dX10_worth_54 : decode cX10_worth 54 = .ok (.iaload, 1) := by decide +kernel
theorem dX10_worth_55 : decode cX10_worth 55 = .ok (.aload_n 0, 1) := by decide +kernel
theorem dX10_worth_56 : decode cX10_worth 56 = .ok (.getfield 16, 3) := by decide +kernel
theorem dX10_worth_59 : decode cX10_worth 59 = .ok (.iload_n 3, 1) := by decide +kernel
theorem dX10_worth_60 : decode cX10_worth 60 = .ok (.iaload, 1) := by decide +kernel
theorem dX10_worth_61 : decode cX10_worth 61 = .ok (.imul, 1) := by decide +kernel
theorem dX10_worth_62 : decode cX10_worth 62 = .ok (.if_icmp .ge 48, 3) := by decide +kernel
theorem dX10_worth_65 : decode cX10_worth 65 = .ok (.iload 4, 2) := by decide +kernel
theorem dX10_worth_67 : decode cX10_worth 67 = .ok (.aload_n 0, 1) := by decide +kernel
theorem dX10_worth_68 : decode cX10_worth 68 = .ok (.iload_n 3, 1) := by decide +kernel
theorem dX10_worth_69 : decode cX10_worth 69 = .ok (.iload 5, 2) := by decide +kernel
theorem dX10_worth_71 : decode cX10_worth 71 = .ok (.aload_n 0, 1) := by decide +kernel
theorem dX10_worth_72 : decode cX10_worth 72 = .ok (.getfield 16, 3) := by decide +kernel
theorem dX10_worth_75 : decode cX10_worth 75 = .ok (.iload_n 3, 1) := by decide +kernel
theorem dX10_worth_76 : decode cX10_worth 76 = .ok (.iaload, 1) := by decide +kernel
theorem dX10_worth_77 : decode cX10_worth 77 = .ok (.idiv, 1) := by decide +kernel
theorem dX10_worth_78 : decode cX10_worth 78 = .ok (.iload 5, 2) := by decide +kernel
theorem dX10_worth_80 : decode cX10_worth 80 = .ok (.aload_n 0, 1) := by decide +kernel
theorem dX10_worth_81 : decode cX10_worth 81 = .ok (.getfield 16, 3) := by decide +kernel
theorem dX10_worth_84 : decode cX10_worth 84 = .ok (.iload_n 3, 1) := by decide +kernel
theorem dX10_worth_85 : decode cX10_worth 85 = .ok (.iaload, 1) := by decide +kernel
theorem dX10_worth_86 : decode cX10_worth 86 = .ok (.irem, 1) := by decide +kernel
theorem dX10_worth_87 : decode cX10_worth 87 = .ok (.invokestatic 153, 3) := by decide +kernel
theorem dX10_worth_90 : decode cX10_worth 90 = .ok (.invokevirtual 147, 3) := by decide +kernel
theorem dX10_worth_93 : decode cX10_worth 93 = .ok (.ifCond .eq 7, 3) := by decide +kernel
theorem dX10_worth_96 : decode cX10_worth 96 = .ok (.iconst 0, 1) := by decide +kernel
theorem dX10_worth_97 : decode cX10_worth 97 = .ok (.goto 4, 3) := by decide +kernel
theorem dX10_worth_100 : decode cX10_worth 100 = .ok (.iconst 1, 1) := by decide +kernel
theorem dX10_worth_101 : decode cX10_worth 101 = .ok (.iadd, 1) := by decide +kernel
theorem dX10_worth_102 : decode cX10_worth 102 = .ok (.istore 4, 2) := by decide +kernel
theorem dX10_worth_104 : decode cX10_worth 104 = .ok (.iinc 5 1, 3) := by decide +kernel
theorem dX10_worth_107 : decode cX10_worth 107 = .ok (.goto (-60), 3) := by decide +kernel
theorem dX10_worth_110 : decode cX10_worth 110 = .ok (.iload 4, 2) := by decide +kernel
theorem dX10_worth_112 : decode cX10_worth 112 = .ok (.aload_n 0, 1) := by decide +kernel
theorem dX10_worth_113 : decode cX10_worth 113 = .ok (.getfield 110, 3) := by decide +kernel
theorem dX10_worth_116 : decode cX10_worth 116 = .ok (.iload_n 3, 1) := by decide +kernel
theorem dX10_worth_117 : decode cX10_worth 117 = .ok (.iaload, 1) := by decide +kernel
theorem dX10_worth_118 : decode cX10_worth 118 = .ok (.ifCond .ne 7, 3) := by decide +kernel
theorem dX10_worth_121 : decode cX10_worth 121 = .ok (.iconst 1, 1) := by decide +kernel
theorem dX10_worth_122 : decode cX10_worth 122 = .ok (.goto 12, 3) := by decide +kernel
theorem dX10_worth_125 : decode cX10_worth 125 = .ok (.aload_n 0, 1) := by decide +kernel
theorem dX10_worth_126 : decode cX10_worth 126 = .ok (.getfield 110, 3) := by decide +kernel
theorem dX10_worth_129 : decode cX10_worth 129 = .ok (.iload_n 3, 1) := by decide +kernel
theorem dX10_worth_130 : decode cX10_worth 130 = .ok (.iaload, 1) := by decide +kernel
theorem dX10_worth_131 : decode cX10_worth 131 = .ok (.invokestatic 225, 3) := by decide +kernel
theorem dX10_worth_134 : decode cX10_worth 134 = .ok (.imul, 1) := by decide +kernel
theorem dX10_worth_135 : decode cX10_worth 135 = .ok (.istore 4, 2) := by decide +kernel
theorem dX10_worth_137 : decode cX10_worth 137 = .ok (.iload 4, 2) := by decide +kernel
theorem dX10_worth_139 : decode cX10_worth 139 = .ok (.iload_n 2, 1) := by decide +kernel
theorem dX10_worth_140 : decode cX10_worth 140 = .ok (.if_icmp .le 7, 3) := by decide +kernel
theorem dX10_worth_143 : decode cX10_worth 143 = .ok (.iload_n 3, 1) := by decide +kernel
theorem dX10_worth_144 : decode cX10_worth 144 = .ok (.goto 4, 3) := by decide +kernel
theorem dX10_worth_147 : decode cX10_worth 147 = .ok (.iload_n 1, 1) := by decide +kernel
theorem dX10_worth_148 : decode cX10_worth 148 = .ok (.istore_n 1, 1) := by decide +kernel
theorem dX10_worth_149 : decode cX10_worth 149 = .ok (.iload 4, 2) := by decide +kernel
theorem dX10_worth_151 : decode cX10_worth 151 = .ok (.iload_n 2, 1) := by decide +kernel
theorem dX10_worth_152 : decode cX10_worth 152 = .ok (.if_icmp .le 8, 3) := by decide +kernel
theorem dX10_worth_155 : decode cX10_worth 155 = .ok (.iload 4, 2) := by decide +kernel
theorem dX10_worth_157 : decode cX10_worth 157 = .ok (.goto 4, 3) := by decide +kernel
theorem dX10_worth_160 : decode cX10_worth 160 = .ok (.iload_n 2, 1) := by decide +kernel
theorem dX10_worth_161 : decode cX10_worth 161 = .ok (.istore_n 2, 1) := by decide +kernel
theorem dX10_worth_162 : decode cX10_worth 162 = .ok (.iinc 3 1, 3) := by decide +kernel
theorem dX10_worth_165 : decode cX10_worth 165 = .ok (.goto (-132), 3) := by decide +kernel
theorem dX10_worth_168 : decode cX10_worth 168 = .ok (.iload_n 1, 1) := by decide +kernel
theorem dX10_worth_169 : decode cX10_worth 169 = .ok (.ireturn, 1) := by decide +kernel
