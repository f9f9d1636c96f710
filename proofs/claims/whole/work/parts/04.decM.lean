theorem dX12_init_0 : decode cX12_init 0 = .ok (.aload_n 0, 1) := by decide +kernel
theorem dX12_init_1 : decode cX12_init 1 = .ok (.invokespecial 1, 3) := by decide +kernel
theorem dX12_init_4 : decode cX12_init 4 = .ok (.aload_n 0, 1) := by decide +kernel
theorem dX12_init_5 : decode cX12_init 5 = .ok (.sipush 500, 3) := by decide +kernel
theorem dX12_init_8 : decode cX12_init 8 = .ok (.newarray .byte, 2) := by decide +kernel
theorem dX12_init_10 : decode cX12_init 10 = .ok (.putfield 9, 3) := by decide +kernel
theorem dX12_init_13 : decode cX12_init 13 = .ok (.aload_n 0, 1) := by decide +kernel
theorem dX12_init_14 : decode cX12_init 14 = .ok (.iconst 2, 1) := by decide +kernel
theorem dX12_init_15 : decode cX12_init 15 = .ok (.bipush 26, 2) := by decide +kernel
theorem dX12_init_17 : decode cX12_init 17 = .ok (.multianewarray 13 2, 4) := by decide +kernel
theorem dX12_init_21 : decode cX12_init 21 = .ok (.putfield 15, 3) := by decide +kernel
theorem dX12_init_24 : decode cX12_init 24 = .ok (.aload_n 0, 1) := by decide +kernel
theorem dX12_init_25 : decode cX12_init 25 = .ok (.iconst 2, 1) := by decide +kernel
theorem dX12_init_26 : decode cX12_init 26 = .ok (.bipush 20, 2) := by decide +kernel
theorem dX12_init_28 : decode cX12_init 28 = .ok (.multianewarray 13 2, 4) := by decide +kernel
theorem dX12_init_32 : decode cX12_init 32 = .ok (.putfield 18, 3) := by decide +kernel
theorem dX12_init_35 : decode cX12_init 35 = .ok (.aload_n 0, 1) := by decide +kernel
theorem dX12_init_36 : decode cX12_init 36 = .ok (.iconst 2, 1) := by decide +kernel
theorem dX12_init_37 : decode cX12_init 37 = .ok (.bipush 20, 2) := by decide +kernel
theorem dX12_init_39 : decode cX12_init 39 = .ok (.multianewarray 21 2, 4) := by decide +kernel
theorem dX12_init_43 : decode cX12_init 43 = .ok (.putfield 23, 3) := by decide +kernel
theorem dX12_init_46 : decode cX12_init 46 = .ok (.aload_n 0, 1) := by decide +kernel
theorem dX12_init_47 : decode cX12_init 47 = .ok (.iconst 2, 1) := by decide +kernel
theorem dX12_init_48 : decode cX12_init 48 = .ok (.newarray .int, 2) := by decide +kernel
theorem dX12_init_50 : decode cX12_init 50 = .ok (.putfield 26, 3) := by decide +kernel
theorem dX12_init_53 : decode cX12_init 53 = .ok (.aload_n 0, 1) := by decide +kernel
theorem dX12_init_54 : decode cX12_init 54 = .ok (.iconst 2, 1) := by decide +kernel
theorem dX12_init_55 : decode cX12_init 55 = .ok (.newarray .int, 2) := by decide +kernel
theorem dX12_init_57 : decode cX12_init 57 = .ok (.putfield 30, 3) := by decide +kernel
theorem dX12_init_60 : decode cX12_init 60 = .ok (.aload_n 0, 1) := by decide +kernel
theorem dX12_init_61 : decode cX12_init 61 = .ok (.iconst 3, 1) := by decide +kernel
theorem dX12_init_62 : decode cX12_init 62 = .ok (.anewarray 33, 3) := by decide +kernel
theorem dX12_init_65 : decode cX12_init 65 = .ok (.dup, 1) := by decide +kernel
theorem dX12_init_66 : decode cX12_init 66 = .ok (.iconst 0, 1) := by decide +kernel
theorem dX12_init_67 : decode cX12_init 67 = .ok (.ldc 35, 2) := by decide +kernel
theorem dX12_init_69 : decode cX12_init 69 = .ok (.aastore, 1) := by decide +kernel
theorem dX12_init_70 : decode cX12_init 70 = .ok (.dup, 1) := by decide +kernel
theorem dX12_init_71 : decode cX12_init 71 = .ok (.iconst 1, 1) := by decide +kernel
theorem dX12_init_72 : decode cX12_init 72 = .ok (.ldc 37, 2) := by decide +kernel
theorem dX12_init_74 : decode cX12_init 74 = .ok (.aastore, 1) := by decide +kernel
theorem dX12_init_75 : decode cX12_init 75 = .ok (.dup, 1) := by decide +kernel
theorem dX12_init_76 : decode cX12_init 76 = .ok (.iconst 2, 1) := by decide +kernel
theorem dX12_init_77 : decode cX12_init 77 = .ok (.ldc 39, 2) := by decide +kernel
theorem dX12_init_79 : decode cX12_init 79 = .ok (.aastore, 1) := by decide +kernel
theorem dX12_init_80 : decode cX12_init 80 = .ok (.putfield 41, 3) := by decide +kernel
theorem dX12_init_83 : decode cX12_init 83 = .ok (.aload_n 0, 1) := by decide +kernel
theorem dX12_init_84 : decode cX12_init 84 = .ok (.bipush 40, 2) := by decide +kernel
theorem dX12_init_86 : decode cX12_init 86 = .ok (.newarray .int, 2) := by decide +kernel
theorem dX12_init_88 : decode cX12_init 88 = .ok (.putfield 45, 3) := by decide +kernel
theorem dX12_init_91 : decode cX12_init 91 = .ok (.aload_n 0, 1) := by decide +kernel
theorem dX12_init_92 : decode cX12_init 92 = .ok (.bipush 40, 2) := by decide +kernel
theorem dX12_init_94 : decode cX12_init 94 = .ok (.newarray .int, 2) := by decide +kernel
theorem dX12_init_96 : decode cX12_init 96 = .ok (.putfield 48, 3) := by decide +kernel
theorem dX12_init_99 : decode cX12_init 99 = .ok (.aload_n 0, 1) := by decide +kernel
theorem dX12_init_100 : decode cX12_init 100 = .ok (.bipush 8, 2) := by decide +kernel
theorem dX12_init_102 : decode cX12_init 102 = .ok (.newarray .int, 2) := by decide +kernel
theorem dX12_init_104 : decode cX12_init 104 = .ok (.putfield 51, 3) := by decide +kernel
theorem dX12_init_107 : decode cX12_init 107 = .ok (.aload_n 0, 1) := by decide +kernel
theorem dX12_init_108 : decode cX12_init 108 = .ok (.bipush 8, 2) := by decide +kernel
theorem dX12_init_110 : decode cX12_init 110 = .ok (.newarray .int, 2) := by decide +kernel
theorem dX12_init_112 : decode cX12_init 112 = .ok (.putfield 54, 3) := by decide +kernel
theorem dX12_init_115 : decode cX12_init 115 = .ok (.aload_n 0, 1) := by decide +kernel
theorem dX12_init_116 : decode cX12_init 116 = .ok (.bipush 8, 2) := by decide +kernel
theorem dX12_init_118 : decode cX12_init 118 = .ok (.newarray .int, 2) := by decide +kernel
theorem dX12_init_120 : decode cX12_init 120 = .ok (.putfield 57, 3) := by decide +kernel
theorem dX12_init_123 : decode cX12_init 123 = .ok (.aload_n 0, 1) := by decide +kernel
theorem dX12_init_124 : decode cX12_init 124 = .ok (.bipush 8, 2) := by decide +kernel
theorem dX12_init_126 : decode cX12_init 126 = .ok (.newarray .int, 2) := by decide +kernel
theorem dX12_init_128 : decode cX12_init 128 = .ok (.putfield 60, 3) := by decide +kernel
theorem dX12_init_131 : decode cX12_init 131 = .ok (.aload_n 0, 1) := by decide +kernel
theorem dX12_init_132 : decode cX12_init 132 = .ok (.bipush 120, 2) := by decide +kernel
theorem dX12_init_134 : decode cX12_init 134 = .ok (.newarray .int, 2) := by decide +kernel
theorem dX12_init_136 : decode cX12_init 136 = .ok (.putfield 63, 3) := by decide +kernel
theorem dX12_init_139 : decode cX12_init 139 = .ok (.aload_n 0, 1) := by decide +kernel
theorem dX12_init_140 : decode cX12_init 140 = .ok (.bipush 122, 2) := by decide +kernel
theorem dX12_init_142 : decode cX12_init 142 = .ok (.newarray .int, 2) := by decide +kernel
theorem dX12_init_144 : decode cX12_init 144 = .ok (.putfield 66, 3) := by decide +kernel
theorem dX12_init_147 : decode cX12_init 147 = .ok (.aload_n 0, 1) := by decide +kernel
theorem dX12_init_148 : decode cX12_init 148 = .ok (.bipush 122, 2) := by decide +kernel
theorem dX12_init_150 : decode cX12_init 150 = .ok (.newarray .int, 2) := by decide +kernel
theorem dX12_init_152 : decode cX12_init 152 = .ok (.putfield 69, 3) := by decide +kernel
theorem dX12_init_155 : decode cX12_init 155 = .ok (.aload_n 0, 1) := by decide +kernel
theorem dX12_init_156 : decode cX12_init 156 = .ok (.bipush 120, 2) := by decide +kernel
theorem dX12_init_158 : decode cX12_init 158 = .ok (.newarray .byte, 2) := by decide +kernel
theorem dX12_init_160 : decode cX12_init 160 = .ok (.putfield 72, 3) := by decide +kernel
theorem dX12_init_163 : decode cX12_init 163 = .ok (.aload_n 0, 1) := by decide +kernel
theorem dX12_init_164 : decode cX12_init 164 = .ok (.sipush 720, 3) := by decide +kernel
theorem dX12_init_167 : decode cX12_init 167 = .ok (.newarray .int, 2) := by decide +kernel
theorem dX12_init_169 : decode cX12_init 169 = .ok (.putfield 75, 3) := by decide +kernel
theorem dX12_init_172 : decode cX12_init 172 = .ok (.aload_n 0, 1) := by decide +kernel
theorem dX12_init_173 : decode cX12_init 173 = .ok (.sipush 160, 3) := by decide +kernel
theorem dX12_init_176 : decode cX12_init 176 = .ok (.newarray .int, 2) := by decide +kernel
theorem dX12_init_178 : decode cX12_init 178 = .ok (.putfield 78, 3) := by decide +kernel
theorem dX12_init_181 : decode cX12_init 181 = .ok (.aload_n 0, 1) := by decide +kernel
theorem dX12_init_182 : decode cX12_init 182 = .ok (.bipush 20, 2) := by decide +kernel
theorem dX12_init_184 : decode cX12_init 184 = .ok (.newarray .int, 2) := by decide +kernel
theorem dX12_init_186 : decode cX12_init 186 = .ok (.putfield 81, 3) := by decide +kernel
theorem dX12_init_189 : decode cX12_init 189 = .ok (.aload_n 0, 1) := by decide +kernel
theorem dX12_init_190 : decode cX12_init 190 = .ok (.bipush 20, 2) := by decide +kernel
theorem dX12_init_192 : decode cX12_init 192 = .ok (.newarray .int, 2) := by decide +kernel
theorem dX12_init_194 : decode cX12_init 194 = .ok (.putfield 84, 3) := by decide +kernel
theorem dX12_init_197 : decode cX12_init 197 = .ok (.aload_n 0, 1) := by decide +kernel
theorem dX12_init_198 : decode cX12_init 198 = .ok (.bipush 20, 2) := by decide +kernel
theorem dX12_init_200 : decode cX12_init 200 = .ok (.newarray .int, 2) := by decide +kernel
theorem dX12_init_202 : decode cX12_init 202 = .ok (.putfield 87, 3) := by decide +kernel
theorem dX12_init_205 : decode cX12_init 205 = .ok (.aload_n 0, 1) := by decide +kernel
theorem dX12_init_206 : decode cX12_init 206 = .ok (.bipush 20, 2) := by decide +kernel
theorem dX12_init_208 : decode cX12_init 208 = .ok (.newarray .int, 2) := by decide +kernel
theorem dX12_init_210 : decode cX12_init 210 = .ok (.putfield 90, 3) := by decide +kernel
theorem dX12_init_213 : decode cX12_init 213 = .ok (.aload_n 0, 1) := by decide +kernel
theorem dX12_init_214 : decode cX12_init 214 = .ok (.bipush 20, 2) := by decide +kernel
theorem dX12_init_216 : decode cX12_init 216 = .ok (.newarray .int, 2) := by decide +kernel
theorem dX12_init_218 : decode cX12_init 218 = .ok (.putfield 93, 3) := by decide +kernel
theorem dX12_init_221 : decode cX12_init 221 = .ok (.aload_n 0, 1) := by decide +kernel
theorem dX12_init_222 : decode cX12_init 222 = .ok (.bipush 6, 2) := by decide +kernel
theorem dX12_init_224 : decode cX12_init 224 = .ok (.newarray .int, 2) := by decide +kernel
theorem dX12_init_226 : decode cX12_init 226 = .ok (.putfield 96, 3) := by decide +kernel
theorem dX12_init_229 : decode cX12_init 229 = .ok (.aload_n 0, 1) := by decide +kernel
theorem dX12_init_230 : decode cX12_init 230 = .ok (.bipush 20, 2) := by decide +kernel
theorem dX12_init_232 : decode cX12_init 232 = .ok (.newarray .int, 2) := by decide +kernel
theorem dX12_init_234 : decode cX12_init 234 = .ok (.putfield 99, 3) := by decide +kernel
theorem dX12_init_237 : decode cX12_init 237 = .ok (.aload_n 0, 1) := by decide +kernel
theorem dX12_init_238 : decode cX12_init 238 = .ok (.bipush 20, 2) := by decide +kernel
theorem dX12_init_240 : decode cX12_init 240 = .ok (.newarray .int, 2) := by decide +kernel
theorem dX12_init_242 : decode cX12_init 242 = .ok (.putfield 102, 3) := by decide +kernel
theorem dX12_init_245 : decode cX12_init 245 = .ok (.aload_n 0, 1) := by decide +kernel
theorem dX12_init_246 : decode cX12_init 246 = .ok (.bipush 20, 2) := by decide +kernel
theorem dX12_init_248 : decode cX12_init 248 = .ok (.newarray .int, 2) := by decide +kernel
theorem dX12_init_250 : decode cX12_init 250 = .ok (.putfield 105, 3) := by decide +kernel
theorem dX12_init_253 : decode cX12_init 253 = .ok (.aload_n 0, 1) := by decide +kernel
theorem dX12_init_254 : decode cX12_init 254 = .ok (.bipush 20, 2) := by decide +kernel
theorem dX12_init_256 : decode cX12_init 256 = .ok (.newarray .int, 2) := by decide +kernel
theorem dX12_init_258 : decode cX12_init 258 = .ok (.putfield 108, 3) := by decide +kernel
theorem dX12_init_261 : decode cX12_init 261 = .ok (.aload_n 0, 1) := by decide +kernel
theorem dX12_init_262 : decode cX12_init 262 = .ok (.bipush 20, 2) := by decide +kernel
theorem dX12_init_264 : decode cX12_init 264 = .ok (.newarray .int, 2) := by decide +kernel
theorem dX12_init_266 : decode cX12_init 266 = .ok (.putfield 111, 3) := by decide +kernel
theorem dX12_init_269 : decode cX12_init 269 = .ok (.aload_n 0, 1) := by decide +kernel
theorem dX12_init_270 : decode cX12_init 270 = .ok (.bipush 8, 2) := by decide +kernel
theorem dX12_init_272 : decode cX12_init 272 = .ok (.newarray .int, 2) := by decide +kernel
theorem dX12_init_274 : decode cX12_init 274 = .ok (.putfield 114, 3) := by decide +kernel
theorem dX12_init_277 : decode cX12_init 277 = .ok (.aload_n 0, 1) := by decide +kernel
theorem dX12_init_278 : decode cX12_init 278 = .ok (.bipush 20, 2) := by decide +kernel
theorem dX12_init_280 : decode cX12_init 280 = .ok (.newarray .int, 2) := by decide +kernel
theorem dX12_init_282 : decode cX12_init 282 = .ok (.putfield 117, 3) := by decide +kernel
theorem dX12_init_285 : decode cX12_init 285 = .ok (.aload_n 0, 1) := by decide +kernel
theorem dX12_init_286 : decode cX12_init 286 = .ok (.bipush 20, 2) := by decide +kernel
theorem dX12_init_288 : decode cX12_init 288 = .ok (.newarray .int, 2) := by decide +kernel
theorem dX12_init_290 : decode cX12_init 290 = .ok (.putfield 120, 3) := by decide +kernel
theorem dX12_init_293 : decode cX12_init 293 = .ok (.aload_n 0, 1) := by decide +kernel
theorem dX12_init_294 : decode cX12_init 294 = .ok (.bipush 6, 2) := by decide +kernel
theorem dX12_init_296 : decode cX12_init 296 = .ok (.newarray .int, 2) := by decide +kernel
theorem dX12_init_298 : decode cX12_init 298 = .ok (.putfield 123, 3) := by decide +kernel
theorem dX12_init_301 : decode cX12_init 301 = .ok (.aload_n 0, 1) := by decide +kernel
theorem dX12_init_302 : decode cX12_init 302 = .ok (.bipush 6, 2) := by decide +kernel
theorem dX12_init_304 : decode cX12_init 304 = .ok (.newarray .int, 2) := by decide +kernel
theorem dX12_init_306 : decode cX12_init 306 = .ok (.putfield 126, 3) := by decide +kernel
theorem dX12_init_309 : decode cX12_init 309 = .ok (.aload_n 0, 1) := by decide +kernel
theorem dX12_init_310 : decode cX12_init 310 = .ok (.bipush 12, 2) := by decide +kernel
theorem dX12_init_312 : decode cX12_init 312 = .ok (.newarray .int, 2) := by decide +kernel
theorem dX12_init_314 : decode cX12_init 314 = .ok (.putfield 129, 3) := by decide +kernel
theorem dX12_init_317 : decode cX12_init 317 = .ok (.aload_n 0, 1) := by decide +kernel
theorem dX12_init_318 : decode cX12_init 318 = .ok (.bipush 12, 2) := by decide +kernel
theorem dX12_init_320 : decode cX12_init 320 = .ok (.newarray .int, 2) := by decide +kernel
theorem dX12_init_322 : decode cX12_init 322 = .ok (.putfield 132, 3) := by decide +kernel
theorem dX12_init_325 : decode cX12_init 325 = .ok (.aload_n 0, 1) := by decide +kernel
theorem dX12_init_326 : decode cX12_init 326 = .ok (.bipush 12, 2) := by decide +kernel
theorem dX12_init_328 : decode cX12_init 328 = .ok (.newarray .int, 2) := by decide +kernel
theorem dX12_init_330 : decode cX12_init 330 = .ok (.putfield 135, 3) := by decide +kernel
theorem dX12_init_333 : decode cX12_init 333 = .ok (.aload_n 0, 1) := by decide +kernel
theorem dX12_init_334 : decode cX12_init 334 = .ok (.bipush 12, 2) := by decide +kernel
theorem dX12_init_336 : decode cX12_init 336 = .ok (.newarray .int, 2) := by decide +kernel
theorem dX12_init_338 : decode cX12_init 338 = .ok (.putfield 138, 3) := by decide +kernel
theorem dX12_init_341 : decode cX12_init 341 = .ok (.aload_n 0, 1) := by decide +kernel
theorem dX12_init_342 : decode cX12_init 342 = .ok (.bipush 12, 2) := by decide +kernel
theorem dX12_init_344 : decode cX12_init 344 = .ok (.newarray .int, 2) := by decide +kernel
theorem dX12_init_346 : decode cX12_init 346 = .ok (.putfield 141, 3) := by decide +kernel
theorem dX12_init_349 : decode cX12_init 349 = .ok (.aload_n 0, 1) := by decide +kernel
theorem dX12_init_350 : decode cX12_init 350 = .ok (.bipush 49, 2) := by decide +kernel
theorem dX12_init_352 : decode cX12_init 352 = .ok (.newarray .int, 2) := by decide +kernel
theorem dX12_init_354 : decode cX12_init 354 = .ok (.putfield 144, 3) := by decide +kernel
theorem dX12_init_357 : decode cX12_init 357 = .ok (.return_, 1) := by decide +kernel
theorem dX12_in_0 : decode cX12_in 0 = .ok (.lload_n 0, 1) := by decide +kernel
theorem dX12_in_1 : decode cX12_in 1 = .ok (.lload_n 2, 1) := by decide +kernel
theorem dX12_in_2 : decode cX12_in 2 = .ok (.lcmp, 1) := by decide +kernel
theorem dX12_in_3 : decode cX12_in 3 = .ok (.ifCond .lt 14, 3) := by decide +kernel
theorem dX12_in_6 : decode cX12_in 6 = .ok (.lload_n 0, 1) := by decide +kernel
theorem dX12_in_7 : decode cX12_in 7 = .ok (.lload 4, 2) := by decide +kernel
theorem dX12_in_9 : decode cX12_in 9 = .ok (.lcmp, 1) := by decide +kernel
theorem dX12_in_10 : decode cX12_in 10 = .ok (.ifCond .gt 7, 3) := by decide +kernel
theorem dX12_in_13 : decode cX12_in 13 = .ok (.iconst 1, 1) := by decide +kernel
theorem dX12_in_14 : decode cX12_in 14 = .ok (.goto 4, 3) := by decide +kernel
theorem dX12_in_17 : decode cX12_in 17 = .ok (.iconst 0, 1) := by decide +kernel
theorem dX12_in_18 : decode cX12_in 18 = .ok (.ireturn, 1) := by decide +kernel
theorem dX12_feeds_0 : decode cX12_feeds 0 = .ok (.iconst 3, 1) := by decide +kernel
theorem dX12_feeds_1 : decode cX12_feeds 1 = .ok (.istore_n 2, 1) := by decide +kernel
theorem dX12_feeds_2 : decode cX12_feeds 2 = .ok (.iload_n 2, 1) := by decide +kernel
theorem dX12_feeds_3 : decode cX12_feeds 3 = .ok (.ifCond .lt 35, 3) := by decide +kernel
theorem dX12_feeds_6 : decode cX12_feeds 6 = .ok (.aload_n 0, 1) := by decide +kernel
theorem dX12_feeds_7 : decode cX12_feeds 7 = .ok (.getfield 9, 3) := by decide +kernel
theorem dX12_feeds_10 : decode cX12_feeds 10 = .ok (.aload_n 0, 1) := by decide +kernel
theorem dX12_feeds_11 : decode cX12_feeds 11 = .ok (.getfield 147, 3) := by decide +kernel
theorem dX12_feeds_14 : decode cX12_feeds 14 = .ok (.iload_n 1, 1) := by decide +kernel
theorem dX12_feeds_15 : decode cX12_feeds 15 = .ok (.bipush 8, 2) := by decide +kernel
theorem dX12_feeds_17 : decode cX12_feeds 17 = .ok (.iload_n 2, 1) := by decide +kernel
theorem dX12_feeds_18 : decode cX12_feeds 18 = .ok (.imul, 1) := by decide +kernel
theorem dX12_feeds_19 : decode cX12_feeds 19 = .ok (.iushr, 1) := by decide +kernel
theorem dX12_feeds_20 : decode cX12_feeds 20 = .ok (.i2b, 1) := by decide +kernel
theorem dX12_feeds_21 : decode cX12_feeds 21 = .ok (.bastore, 1) := by decide +kernel
theorem dX12_feeds_22 : decode cX12_feeds 22 = .ok (.aload_n 0, 1) := by decide +kernel
theorem dX12_feeds_23 : decode cX12_feeds 23 = .ok (.dup, 1) := by decide +kernel
theorem dX12_feeds_24 : decode cX12_feeds 24 = .ok (.getfield 147, 3) := by decide +kernel
theorem dX12_feeds_27 : decode cX12_feeds 27 = .ok (.iconst 1, 1) := by decide +kernel
theorem dX12_feeds_28 : decode cX12_feeds 28 = .ok (.iadd, 1) := by decide +kernel
theorem dX12_feeds_29 : decode cX12_feeds 29 = .ok (.putfield 147, 3) := by decide +kernel
theorem dX12_feeds_32 : decode cX12_feeds 32 = .ok (.iinc 2 (-1), 3) := by decide +kernel
theorem dX12_feeds_35 : decode cX12_feeds 35 = .ok (.goto (-33), 3) := by decide +kernel
theorem dX12_feeds_38 : decode cX12_feeds 38 = .ok (.return_, 1) := by decide +kernel
theorem dX12_feed_0 : decode cX12_feed 0 = .ok (.aload_n 0, 1) := by decide +kernel
theorem dX12_feed_1 : decode cX12_feed 1 = .ok (.getfield 147, 3) := by decide +kernel
theorem dX12_feed_4 : decode cX12_feed 4 = .ok (.bipush 20, 2) := by decide +kernel
theorem dX12_feed_6 : decode cX12_feed 6 = .ok (.iadd, 1) := by decide +kernel
theorem dX12_feed_7 : decode cX12_feed 7 = .ok (.sipush 500, 3) := by decide +kernel
theorem dX12_feed_10 : decode cX12_feed 10 = .ok (.if_icmp .le 5, 3) := by decide +kernel
theorem dX12_feed_13 : decode cX12_feed 13 = .ok (.iconst (-1), 1) := by decide +kernel
theorem dX12_feed_14 : decode cX12_feed 14 = .ok (.ireturn, 1) := by decide +kernel
theorem dX12_feed_15 : decode cX12_feed 15 = .ok (.aload_n 0, 1) := by decide +kernel
theorem dX12_feed_16 : decode cX12_feed 16 = .ok (.iload_n 1, 1) := by decide +kernel
theorem dX12_feed_17 : decode cX12_feed 17 = .ok (.invokevirtual 151, 3) := by decide +kernel
theorem dX12_feed_20 : decode cX12_feed 20 = .ok (.aload_n 0, 1) := by decide +kernel
theorem dX12_feed_21 : decode cX12_feed 21 = .ok (.iload_n 2, 1) := by decide +kernel
theorem dX12_feed_22 : decode cX12_feed 22 = .ok (.invokevirtual 151, 3) := by decide +kernel
theorem dX12_feed_25 : decode cX12_feed 25 = .ok (.aload_n 0, 1) := by decide +kernel
theorem dX12_feed_26 : decode cX12_feed 26 = .ok (.iload_n 3, 1) := by decide +kernel
theorem dX12_feed_27 : decode cX12_feed 27 = .ok (.invokevirtual 151, 3) := by decide +kernel
theorem dX12_feed_30 : decode cX12_feed 30 = .ok (.aload_n 0, 1) := by decide +kernel
theorem dX12_feed_31 : decode cX12_feed 31 = .ok (.iload 4, 2) := by decide +kernel
theorem dX12_feed_33 : decode cX12_feed 33 = .ok (.invokevirtual 151, 3) := by decide +kernel
theorem dX12_feed_36 : decode cX12_feed 36 = .ok (.aload_n 0, 1) := by decide +kernel
theorem dX12_feed_37 : decode cX12_feed 37 = .ok (.iload 5, 2) := by decide +kernel
theorem dX12_feed_39 : decode cX12_feed 39 = .ok (.invokevirtual 151, 3) := by decide +kernel
theorem dX12_feed_42 : decode cX12_feed 42 = .ok (.aload_n 0, 1) := by decide +kernel
theorem dX12_feed_43 : decode cX12_feed 43 = .ok (.getfield 147, 3) := by decide +kernel
theorem dX12_feed_46 : decode cX12_feed 46 = .ok (.ireturn, 1) := by decide +kernel
theorem dX12_end_0 : decode cX12_end 0 = .ok (.iload_n 1, 1) := by decide +kernel
theorem dX12_end_1 : decode cX12_end 1 = .ok (.i2l, 1) := by decide +kernel
theorem dX12_end_2 : decode cX12_end 2 = .ok (.lconst 0, 1) := by decide +kernel
theorem dX12_end_3 : decode cX12_end 3 = .ok (.aload_n 0, 1) := by decide +kernel
theorem dX12_end_4 : decode cX12_end 4 = .ok (.getfield 147, 3) := by decide +kernel
theorem dX12_end_7 : decode cX12_end 7 = .ok (.i2l, 1) := by decide +kernel
theorem dX12_end_8 : decode cX12_end 8 = .ok (.invokestatic 155, 3) := by decide +kernel
theorem dX12_end_11 : decode cX12_end 11 = .ok (.ifCond .ne 5, 3) := by decide +kernel
theorem dX12_end_14 : decode cX12_end 14 = .ok (.iconst 0, 1) := by decide +kernel
theorem dX12_end_15 : decode cX12_end 15 = .ok (.ireturn, 1) := by decide +kernel
theorem dX12_end_16 : decode cX12_end 16 = .ok (.aload_n 0, 1) := by decide +kernel
theorem dX12_end_17 : decode cX12_end 17 = .ok (.iload_n 1, 1) := by decide +kernel
theorem dX12_end_18 : decode cX12_end 18 = .ok (.putfield 147, 3) := by decide +kernel
theorem dX12_end_21 : decode cX12_end 21 = .ok (.iconst 1, 1) := by decide +kernel
theorem dX12_end_22 : decode cX12_end 22 = .ok (.ireturn, 1) := by decide +kernel
theorem dX12_between_0 : decode cX12_between 0 = .ok (.iload_n 1, 1) := by decide +kernel
theorem dX12_between_1 : decode cX12_between 1 = .ok (.aload_n 0, 1) := by decide +kernel
theorem dX12_between_2 : decode cX12_between 2 = .ok (.getfield 147, 3) := by decide +kernel
theorem dX12_between_5 : decode cX12_between 5 = .ok (.if_icmp .ge 27, 3) := by decide +kernel
theorem dX12_between_8 : decode cX12_between 8 = .ok (.aload_n 0, 1) := by decide +kernel
theorem dX12_between_9 : decode cX12_between 9 = .ok (.getfield 9, 3) := by decide +kernel
theorem dX12_between_12 : decode cX12_between 12 = .ok (.iload_n 1, 1) := by decide +kernel
theorem dX12_between_13 : decode cX12_between 13 = .ok (.baload, 1) := by decide +kernel
theorem dX12_between_14 : decode cX12_between 14 = .ok (.iload_n 2, 1) := by decide +kernel
theorem dX12_between_15 : decode cX12_between 15 = .ok (.if_icmp .lt 17, 3) := by decide +kernel
theorem dX12_between_18 : decode cX12_between 18 = .ok (.aload_n 0, 1) := by decide +kernel
theorem dX12_between_19 : decode cX12_between 19 = .ok (.getfield 9, 3) := by decide +kernel
theorem dX12_between_22 : decode cX12_between 22 = .ok (.iload_n 1, 1) := by decide +kernel
theorem dX12_between_23 : decode cX12_between 23 = .ok (.baload, 1) := by decide +kernel
theorem dX12_between_24 : decode cX12_between 24 = .ok (.iload_n 3, 1) := by decide +kernel
theorem dX12_between_25 : decode cX12_between 25 = .ok (.if_icmp .gt 7, 3) := by decide +kernel
theorem dX12_between_28 : decode cX12_between 28 = .ok (.iconst 1, 1) := by decide +kernel
theorem dX12_between_29 : decode cX12_between 29 = .ok (.goto 4, 3) := by decide +kernel
theorem dX12_between_32 : decode cX12_between 32 = .ok (.iconst 0, 1) := by decide +kernel
theorem dX12_between_33 : decode cX12_between 33 = .ok (.ireturn, 1) := by decide +kernel
theorem dX12_next_0 : decode cX12_next 0 = .ok (.aload_n 0, 1) := by decide +kernel
theorem dX12_next_1 : decode cX12_next 1 = .ok (.aload_n 0, 1) := by decide +kernel
theorem dX12_next_2 : decode cX12_next 2 = .ok (.getfield 159, 3) := by decide +kernel
theorem dX12_next_5 : decode cX12_next 5 = .ok (.putfield 162, 3) := by decide +kernel
theorem dX12_next_8 : decode cX12_next 8 = .ok (.aload_n 0, 1) := by decide +kernel
theorem dX12_next_9 : decode cX12_next 9 = .ok (.getfield 162, 3) := by decide +kernel
theorem dX12_next_12 : decode cX12_next 12 = .ok (.aload_n 0, 1) := by decide +kernel
theorem dX12_next_13 : decode cX12_next 13 = .ok (.getfield 147, 3) := by decide +kernel
theorem dX12_next_16 : decode cX12_next 16 = .ok (.if_icmp .ge 44, 3) := by decide +kernel
theorem dX12_next_19 : decode cX12_next 19 = .ok (.aload_n 0, 1) := by decide +kernel
theorem dX12_next_20 : decode cX12_next 20 = .ok (.getfield 9, 3) := by decide +kernel
theorem dX12_next_23 : decode cX12_next 23 = .ok (.aload_n 0, 1) := by decide +kernel
theorem dX12_next_24 : decode cX12_next 24 = .ok (.getfield 162, 3) := by decide +kernel
theorem dX12_next_27 : decode cX12_next 27 = .ok (.baload, 1) := by decide +kernel
theorem dX12_next_28 : decode cX12_next 28 = .ok (.bipush 32, 2) := by decide +kernel
theorem dX12_next_30 : decode cX12_next 30 = .ok (.if_icmp .eq 17, 3) := by decide +kernel
theorem dX12_next_33 : decode cX12_next 33 = .ok (.aload_n 0, 1) := by decide +kernel
theorem dX12_next_34 : decode cX12_next 34 = .ok (.getfield 9, 3) := by decide +kernel
theorem dX12_next_37 : decode cX12_next 37 = .ok (.aload_n 0, 1) := by decide +kernel
theorem dX12_next_38 : decode cX12_next 38 = .ok (.getfield 162, 3) := by decide +kernel
theorem dX12_next_41 : decode cX12_next 41 = .ok (.baload, 1) := by decide +kernel
theorem dX12_next_42 : decode cX12_next 42 = .ok (.bipush 10, 2) := by decide +kernel
theorem dX12_next_44 : decode cX12_next 44 = .ok (.if_icmp .ne 16, 3) := by decide +kernel
theorem dX12_next_47 : decode cX12_next 47 = .ok (.aload_n 0, 1) := by decide +kernel
theorem dX12_next_48 : decode cX12_next 48 = .ok (.dup, 1) := by decide +kernel
theorem dX12_next_49 : decode cX12_next 49 = .ok (.getfield 162, 3) := by decide +kernel
theorem dX12_next_52 : decode cX12_next 52 = .ok (.iconst 1, 1) := by decide +kernel
theorem dX12_next_53 : decode cX12_next 53 = .ok (.iadd, 1) := by decide +kernel
theorem dX12_next_54 : decode cX12_next 54 = .ok (.putfield 162, 3) := by decide +kernel
theorem dX12_next_57 : decode cX12_next 57 = .ok (.goto (-49), 3) := by decide +kernel
theorem dX12_next_60 : decode cX12_next 60 = .ok (.aload_n 0, 1) := by decide +kernel
theorem dX12_next_61 : decode cX12_next 61 = .ok (.aload_n 0, 1) := by decide +kernel
theorem dX12_next_62 : decode cX12_next 62 = .ok (.getfield 162, 3) := by decide +kernel
theorem dX12_next_65 : decode cX12_next 65 = .ok (.putfield 159, 3) := by decide +kernel
theorem dX12_next_68 : decode cX12_next 68 = .ok (.aload_n 0, 1) := by decide +kernel
theorem dX12_next_69 : decode cX12_next 69 = .ok (.aload_n 0, 1) := by decide +kernel
theorem dX12_next_70 : decode cX12_next 70 = .ok (.getfield 162, 3) := by decide +kernel
theorem dX12_next_73 : decode cX12_next 73 = .ok (.bipush 97, 2) := by decide +kernel
theorem dX12_next_75 : decode cX12_next 75 = .ok (.bipush 122, 2) := by decide +kernel
theorem dX12_next_77 : decode cX12_next 77 = .ok (.invokevirtual 165, 3) := by decide +kernel
theorem dX12_next_80 : decode cX12_next 80 = .ok (.ifCond .eq 31, 3) := by decide +kernel
theorem dX12_next_83 : decode cX12_next 83 = .ok (.aload_n 0, 1) := by decide +kernel
theorem dX12_next_84 : decode cX12_next 84 = .ok (.aload_n 0, 1) := by decide +kernel
theorem dX12_next_85 : decode cX12_next 85 = .ok (.getfield 159, 3) := by decide +kernel
theorem dX12_next_88 : decode cX12_next 88 = .ok (.bipush 97, 2) := by decide +kernel
theorem dX12_next_90 : decode cX12_next 90 = .ok (.bipush 122, 2) := by decide +kernel
theorem dX12_next_92 : decode cX12_next 92 = .ok (.invokevirtual 165, 3) := by decide +kernel
theorem dX12_next_95 : decode cX12_next 95 = .ok (.ifCond .eq 80, 3) := by decide +kernel
theorem dX12_next_98 : decode cX12_next 98 = .ok (.aload_n 0, 1) := by decide +kernel
theorem dX12_next_99 : decode cX12_next 99 = .ok (.dup, 1) := by decide +kernel
theorem dX12_next_100 : decode cX12_next 100 = .ok (.getfield 159, 3) := by decide +kernel
theorem dX12_next_103 : decode cX12_next 103 = .ok (.iconst 1, 1) := by decide +kernel
theorem dX12_next_104 : decode cX12_next 104 = .ok (.iadd, 1) := by decide +kernel
theorem dX12_next_105 : decode cX12_next 105 = .ok (.putfield 159, 3) := by decide +kernel
theorem dX12_next_108 : decode cX12_next 108 = .ok (.goto (-25), 3) := by decide +kernel
theorem dX12_next_111 : decode cX12_next 111 = .ok (.aload_n 0, 1) := by decide +kernel
theorem dX12_next_112 : decode cX12_next 112 = .ok (.aload_n 0, 1) := by decide +kernel
theorem dX12_next_113 : decode cX12_next 113 = .ok (.getfield 162, 3) := by decide +kernel
theorem dX12_next_116 : decode cX12_next 116 = .ok (.bipush 48, 2) := by decide +kernel
theorem dX12_next_118 : decode cX12_next 118 = .ok (.bipush 57, 2) := by decide +kernel
theorem dX12_next_120 : decode cX12_next 120 = .ok (.invokevirtual 165, 3) := by decide +kernel
theorem dX12_next_123 : decode cX12_next 123 = .ok (.ifCond .eq 31, 3) := by decide +kernel
theorem dX12_next_126 : decode cX12_next 126 = .ok (.aload_n 0, 1) := by decide +kernel
theorem dX12_next_127 : decode cX12_next 127 = .ok (.aload_n 0, 1) := by decide +kernel
theorem dX12_next_128 : decode cX12_next 128 = .ok (.getfield 159, 3) := by decide +kernel
theorem dX12_next_131 : decode cX12_next 131 = .ok (.bipush 48, 2) := by decide +kernel
theorem dX12_next_133 : decode cX12_next 133 = .ok (.bipush 57, 2) := by decide +kernel
theorem dX12_next_135 : decode cX12_next 135 = .ok (.invokevirtual 165, 3) := by decide +kernel
theorem dX12_next_138 : decode cX12_next 138 = .ok (.ifCond .eq 37, 3) := by decide +kernel
theorem dX12_next_141 : decode cX12_next 141 = .ok (.aload_n 0, 1) := by decide +kernel
theorem dX12_next_142 : decode cX12_next 142 = .ok (.dup, 1) := by decide +kernel
theorem dX12_next_143 : decode cX12_next 143 = .ok (.getfield 159, 3) := by decide +kernel
theorem dX12_next_146 : decode cX12_next 146 = .ok (.iconst 1, 1) := by decide +kernel
theorem dX12_next_147 : decode cX12_next 147 = .ok (.iadd, 1) := by decide +kernel
theorem dX12_next_148 : decode cX12_next 148 = .ok (.putfield 159, 3) := by decide +kernel
theorem dX12_next_151 : decode cX12_next 151 = .ok (.goto (-25), 3) := by decide +kernel
theorem dX12_next_154 : decode cX12_next 154 = .ok (.aload_n 0, 1) := by decide +kernel
theorem dX12_next_155 : decode cX12_next 155 = .ok (.getfield 162, 3) := by decide +kernel
theorem dX12_next_158 : decode cX12_next 158 = .ok (.aload_n 0, 1) := by decide +kernel
theorem dX12_next_159 : decode cX12_next 159 = .ok (.getfield 147, 3) := by decide +kernel
theorem dX12_next_162 : decode cX12_next 162 = .ok (.if_icmp .ge 13, 3) := by decide +kernel
theorem dX12_next_165 : decode cX12_next 165 = .ok (.aload_n 0, 1) := by decide +kernel
theorem dX12_next_166 : decode cX12_next 166 = .ok (.dup, 1) := by decide +kernel
theorem dX12_next_167 : decode cX12_next 167 = .ok (.getfield 159, 3) := by decide +kernel
theorem dX12_next_170 : decode cX12_next 170 = .ok (.iconst 1, 1) := by decide +kernel
theorem dX12_next_171 : decode cX12_next 171 = .ok (.iadd, 1) := by decide +kernel
theorem dX12_next_172 : decode cX12_next 172 = .ok (.putfield 159, 3) := by decide +kernel
theorem dX12_next_175 : decode cX12_next 175 = .ok (.return_, 1) := by decide +kernel
theorem dX12_passes_0 : decode cX12_passes 0 = .ok (.iload_n 1, 1) := by decide +kernel
theorem dX12_passes_1 : decode cX12_passes 1 = .ok (.ifCond .ne 21, 3) := by decide +kernel
theorem dX12_passes_4 : decode cX12_passes 4 = .ok (.aload_n 0, 1) := by decide +kernel
theorem dX12_passes_5 : decode cX12_passes 5 = .ok (.getfield 169, 3) := by decide +kernel
theorem dX12_passes_8 : decode cX12_passes 8 = .ok (.iconst (-1), 1) := by decide +kernel
theorem dX12_passes_9 : decode cX12_passes 9 = .ok (.if_icmp .ne 11, 3) := by decide +kernel
theorem dX12_passes_12 : decode cX12_passes 12 = .ok (.aload_n 0, 1) := by decide +kernel
theorem dX12_passes_13 : decode cX12_passes 13 = .ok (.aload_n 0, 1) := by decide +kernel
theorem dX12_passes_14 : decode cX12_passes 14 = .ok (.getfield 162, 3) := by decide +kernel
theorem dX12_passes_17 : decode cX12_passes 17 = .ok (.putfield 169, 3) := by decide +kernel
theorem dX12_passes_20 : decode cX12_passes 20 = .ok (.iconst 0, 1) := by decide +kernel
theorem dX12_passes_21 : decode cX12_passes 21 = .ok (.ireturn, 1) := by decide +kernel
theorem dX12_passes_22 : decode cX12_passes 22 = .ok (.aload_n 0, 1) := by decide +kernel
theorem dX12_passes_23 : decode cX12_passes 23 = .ok (.invokevirtual 172, 3) := by decide +kernel
theorem dX12_passes_26 : decode cX12_passes 26 = .ok (.iconst 1, 1) := by decide +kernel
theorem dX12_passes_27 : decode cX12_passes 27 = .ok (.ireturn, 1) := by decide +kernel
theorem dX12_isWord_0 : decode cX12_isWord 0 = .ok (.aload_n 0, 1) := by decide +kernel
theorem dX12_isWord_1 : decode cX12_isWord 1 = .ok (.getfield 162, 3) := by decide +kernel
theorem dX12_isWord_4 : decode cX12_isWord 4 = .ok (.aload_n 0, 1) := by decide +kernel
theorem dX12_isWord_5 : decode cX12_isWord 5 = .ok (.getfield 147, 3) := by decide +kernel
theorem dX12_isWord_8 : decode cX12_isWord 8 = .ok (.if_icmp .eq 24, 3) := by decide +kernel
theorem dX12_isWord_11 : decode cX12_isWord 11 = .ok (.aload_n 0, 1) := by decide +kernel
theorem dX12_isWord_12 : decode cX12_isWord 12 = .ok (.getfield 159, 3) := by decide +kernel
theorem dX12_isWord_15 : decode cX12_isWord 15 = .ok (.aload_n 0, 1) := by decide +kernel
theorem dX12_isWord_16 : decode cX12_isWord 16 = .ok (.getfield 162, 3) := by decide +kernel
theorem dX12_isWord_19 : decode cX12_isWord 19 = .ok (.isub, 1) := by decide +kernel
theorem dX12_isWord_20 : decode cX12_isWord 20 = .ok (.aload_n 0, 1) := by decide +kernel
theorem dX12_isWord_21 : decode cX12_isWord 21 = .ok (.getfield 41, 3) := by decide +kernel
theorem dX12_isWord_24 : decode cX12_isWord 24 = .ok (.iload_n 1, 1) := by decide +kernel
theorem dX12_isWord_25 : decode cX12_isWord 25 = .ok (.aaload, 1) := by decide +kernel
theorem dX12_isWord_26 : decode cX12_isWord 26 = .ok (.invokevirtual 175, 3) := by decide +kernel
theorem dX12_isWord_29 : decode cX12_isWord 29 = .ok (.if_icmp .eq 5, 3) := by decide +kernel
theorem dX12_isWord_32 : decode cX12_isWord 32 = .ok (.iconst 0, 1) := by decide +kernel
theorem dX12_isWord_33 : decode cX12_isWord 33 = .ok (.ireturn, 1) := by decide +kernel
theorem dX12_isWord_34 : decode cX12_isWord 34 = .ok (.aload_n 0, 1) := by decide +kernel
theorem dX12_isWord_35 : decode cX12_isWord 35 = .ok (.getfield 162, 3) := by decide +kernel
theorem dX12_isWord_38 : decode cX12_isWord 38 = .ok (.istore_n 2, 1) := by decide +kernel
theorem dX12_isWord_39 : decode cX12_isWord 39 = .ok (.iload_n 2, 1) := by decide +kernel
theorem dX12_isWord_40 : decode cX12_isWord 40 = .ok (.aload_n 0, 1) := by decide +kernel
theorem dX12_isWord_41 : decode cX12_isWord 41 = .ok (.getfield 159, 3) := by decide +kernel
theorem dX12_isWord_44 : decode cX12_isWord 44 = .ok (.if_icmp .ge 35, 3) := by decide +kernel
theorem dX12_isWord_47 : decode cX12_isWord 47 = .ok (.aload_n 0, 1) := by decide +kernel
theorem dX12_isWord_48 : decode cX12_isWord 48 = .ok (.getfield 9, 3) := by decide +kernel
theorem dX12_isWord_51 : decode cX12_isWord 51 = .ok (.iload_n 2, 1) := by decide +kernel
theorem dX12_isWord_52 : decode cX12_isWord 52 = .ok (.baload, 1) := by decide +kernel
theorem dX12_isWord_53 : decode cX12_isWord 53 = .ok (.aload_n 0, 1) := by decide +kernel
theorem dX12_isWord_54 : decode cX12_isWord 54 = .ok (.getfield 41, 3) := by decide +kernel
theorem dX12_isWord_57 : decode cX12_isWord 57 = .ok (.iload_n 1, 1) := by decide +kernel
theorem dX12_isWord_58 : decode cX12_isWord 58 = .ok (.aaload, 1) := by decide +kernel
theorem dX12_isWord_59 : decode cX12_isWord 59 = .ok (.iload_n 2, 1) := by decide +kernel
theorem dX12_isWord_60 : decode cX12_isWord 60 = .ok (.aload_n 0, 1) := by decide +kernel
theorem dX12_isWord_61 : decode cX12_isWord 61 = .ok (.getfield 162, 3) := by decide +kernel
theorem dX12_isWord_64 : decode cX12_isWord 64 = .ok (.isub, 1) := by decide +kernel
theorem dX12_isWord_65 : decode cX12_isWord 65 = .ok (.invokevirtual 179, 3) := by decide +kernel
theorem dX12_isWord_68 : decode cX12_isWord 68 = .ok (.if_icmp .eq 5, 3) := by decide +kernel
theorem dX12_isWord_71 : decode cX12_isWord 71 = .ok (.iconst 0, 1) := by decide +kernel
theorem dX12_isWord_72 : decode cX12_isWord 72 = .ok (.ireturn, 1) := by decide +kernel
theorem dX12_isWord_73 : decode cX12_isWord 73 = .ok (.iinc 2 1, 3) := by decide +kernel
theorem dX12_isWord_76 : decode cX12_isWord 76 = .ok (.goto (-37), 3) := by decide +kernel
theorem dX12_isWord_79 : decode cX12_isWord 79 = .ok (.iconst 1, 1) := by decide +kernel
theorem dX12_isWord_80 : decode cX12_isWord 80 = .ok (.ireturn, 1) := by decide +kernel
theorem dX12_closes_0 : decode cX12_closes 0 = .ok (.aload_n 0, 1) := by decide +kernel
theorem dX12_closes_1 : decode cX12_closes 1 = .ok (.aload_n 0, 1) := by decide +kernel
theorem dX12_closes_2 : decode cX12_closes 2 = .ok (.getfield 162, 3) := by decide +kernel
theorem dX12_closes_5 : decode cX12_closes 5 = .ok (.aload_n 0, 1) := by decide +kernel
theorem dX12_closes_6 : decode cX12_closes 6 = .ok (.getfield 147, 3) := by decide +kernel
theorem dX12_closes_9 : decode cX12_closes 9 = .ok (.if_icmp .ge 21, 3) := by decide +kernel
theorem dX12_closes_12 : decode cX12_closes 12 = .ok (.aload_n 0, 1) := by decide +kernel
theorem dX12_closes_13 : decode cX12_closes 13 = .ok (.getfield 9, 3) := by decide +kernel
theorem dX12_closes_16 : decode cX12_closes 16 = .ok (.aload_n 0, 1) := by decide +kernel
theorem dX12_closes_17 : decode cX12_closes 17 = .ok (.getfield 162, 3) := by decide +kernel
theorem dX12_closes_20 : decode cX12_closes 20 = .ok (.baload, 1) := by decide +kernel
theorem dX12_closes_21 : decode cX12_closes 21 = .ok (.bipush 59, 2) := by decide +kernel
theorem dX12_closes_23 : decode cX12_closes 23 = .ok (.if_icmp .ne 7, 3) := by decide +kernel
theorem dX12_closes_26 : decode cX12_closes 26 = .ok (.iconst 1, 1) := by decide +kernel
theorem dX12_closes_27 : decode cX12_closes 27 = .ok (.goto 4, 3) := by decide +kernel
theorem dX12_closes_30 : decode cX12_closes 30 = .ok (.iconst 0, 1) := by decide +kernel
theorem dX12_closes_31 : decode cX12_closes 31 = .ok (.invokevirtual 183, 3) := by decide +kernel
theorem dX12_closes_34 : decode cX12_closes 34 = .ok (.ireturn, 1) := by decide +kernel
theorem dX12_marksHere_0 : decode cX12_marksHere 0 = .ok (.aload_n 0, 1) := by decide +kernel
theorem dX12_marksHere_1 : decode cX12_marksHere 1 = .ok (.aload_n 0, 1) := by decide +kernel
theorem dX12_marksHere_2 : decode cX12_marksHere 2 = .ok (.getfield 162, 3) := by decide +kernel
theorem dX12_marksHere_5 : decode cX12_marksHere 5 = .ok (.bipush 48, 2) := by decide +kernel
theorem dX12_marksHere_7 : decode cX12_marksHere 7 = .ok (.bipush 57, 2) := by decide +kernel
theorem dX12_marksHere_9 : decode cX12_marksHere 9 = .ok (.invokevirtual 165, 3) := by decide +kernel
theorem dX12_marksHere_12 : decode cX12_marksHere 12 = .ok (.ifCond .eq 16, 3) := by decide +kernel
theorem dX12_marksHere_15 : decode cX12_marksHere 15 = .ok (.aload_n 0, 1) := by decide +kernel
theorem dX12_marksHere_16 : decode cX12_marksHere 16 = .ok (.getfield 159, 3) := by decide +kernel
theorem dX12_marksHere_19 : decode cX12_marksHere 19 = .ok (.aload_n 0, 1) := by decide +kernel
theorem dX12_marksHere_20 : decode cX12_marksHere 20 = .ok (.getfield 162, 3) := by decide +kernel
theorem dX12_marksHere_23 : decode cX12_marksHere 23 = .ok (.isub, 1) := by decide +kernel
theorem dX12_marksHere_24 : decode cX12_marksHere 24 = .ok (.iconst 5, 1) := by decide +kernel
theorem dX12_marksHere_25 : decode cX12_marksHere 25 = .ok (.if_icmp .le 5, 3) := by decide +kernel
theorem dX12_marksHere_28 : decode cX12_marksHere 28 = .ok (.iconst (-1), 1) := by decide +kernel
theorem dX12_marksHere_29 : decode cX12_marksHere 29 = .ok (.ireturn, 1) := by decide +kernel
theorem dX12_marksHere_30 : decode cX12_marksHere 30 = .ok (.iconst 0, 1) := by decide +kernel
theorem dX12_marksHere_31 : decode cX12_marksHere 31 = .ok (.istore_n 1, 1) := by decide +kernel
theorem dX12_marksHere_32 : decode cX12_marksHere 32 = .ok (.aload_n 0, 1) := by decide +kernel
theorem dX12_marksHere_33 : decode cX12_marksHere 33 = .ok (.getfield 162, 3) := by decide +kernel
theorem dX12_marksHere_36 : decode cX12_marksHere 36 = .ok (.istore_n 2, 1) := by decide +kernel
theorem dX12_marksHere_37 : decode cX12_marksHere 37 = .ok (.iload_n 2, 1) := by decide +kernel
theorem dX12_marksHere_38 : decode cX12_marksHere 38 = .ok (.aload_n 0, 1) := by decide +kernel
theorem dX12_marksHere_39 : decode cX12_marksHere 39 = .ok (.getfield 159, 3) := by decide +kernel
theorem dX12_marksHere_42 : decode cX12_marksHere 42 = .ok (.if_icmp .ge 38, 3) := by decide +kernel
theorem dX12_marksHere_45 : decode cX12_marksHere 45 = .ok (.aload_n 0, 1) := by decide +kernel
theorem dX12_marksHere_46 : decode cX12_marksHere 46 = .ok (.iload_n 2, 1) := by decide +kernel
theorem dX12_marksHere_47 : decode cX12_marksHere 47 = .ok (.bipush 49, 2) := by decide +kernel
theorem dX12_marksHere_49 : decode cX12_marksHere 49 = .ok (.bipush 50, 2) := by decide +kernel
theorem dX12_marksHere_51 : decode cX12_marksHere 51 = .ok (.invokevirtual 165, 3) := by decide +kernel
theorem dX12_marksHere_54 : decode cX12_marksHere 54 = .ok (.ifCond .ne 5, 3) := by decide +kernel
theorem dX12_marksHere_57 : decode cX12_marksHere 57 = .ok (.iconst (-1), 1) := by decide +kernel
theorem dX12_marksHere_58 : decode cX12_marksHere 58 = .ok (.ireturn, 1) := by decide +kernel
theorem dX12_marksHere_59 : decode cX12_marksHere 59 = .ok (.bipush 10, 2) := by decide +kernel
theorem dX12_marksHere_61 : decode cX12_marksHere 61 = .ok (.iload_n 1, 1) := by decide +kernel
theorem dX12_marksHere_62 : decode cX12_marksHere 62 = .ok (.imul, 1) := by decide +kernel
theorem dX12_marksHere_63 : decode cX12_marksHere 63 = .ok (.aload_n 0, 1) := by decide +kernel
theorem dX12_marksHere_64 : decode cX12_marksHere 64 = .ok (.getfield 9, 3) := by decide +kernel
theorem dX12_marksHere_67 : decode cX12_marksHere 67 = .ok (.iload_n 2, 1) := by decide +kernel
theorem dX12_marksHere_68 : decode cX12_marksHere 68 = .ok (.baload, 1) := by decide +kernel
theorem dX12_marksHere_69 : decode cX12_marksHere 69 = .ok (.iadd, 1) := by decide +kernel
theorem dX12_marksHere_70 : decode cX12_marksHere 70 = .ok (.bipush 48, 2) := by decide +kernel
theorem dX12_marksHere_72 : decode cX12_marksHere 72 = .ok (.isub, 1) := by decide +kernel
theorem dX12_marksHere_73 : decode cX12_marksHere 73 = .ok (.istore_n 1, 1) := by decide +kernel
theorem dX12_marksHere_74 : decode cX12_marksHere 74 = .ok (.iinc 2 1, 3) := by decide +kernel
theorem dX12_marksHere_77 : decode cX12_marksHere 77 = .ok (.goto (-40), 3) := by decide +kernel
theorem dX12_marksHere_80 : decode cX12_marksHere 80 = .ok (.iconst 0, 1) := by decide +kernel
theorem dX12_marksHere_81 : decode cX12_marksHere 81 = .ok (.istore_n 2, 1) := by decide +kernel
theorem dX12_marksHere_82 : decode cX12_marksHere 82 = .ok (.iload_n 2, 1) := by decide +kernel
theorem dX12_marksHere_83 : decode cX12_marksHere 83 = .ok (.bipush 26, 2) := by decide +kernel
theorem dX12_marksHere_85 : decode cX12_marksHere 85 = .ok (.if_icmp .ge 23, 3) := by decide +kernel
theorem dX12_marksHere_88 : decode cX12_marksHere 88 = .ok (.aload_n 0, 1) := by decide +kernel
theorem dX12_marksHere_89 : decode cX12_marksHere 89 = .ok (.getfield 15, 3) := by decide +kernel
theorem dX12_marksHere_92 : decode cX12_marksHere 92 = .ok (.iconst 1, 1) := by decide +kernel
theorem dX12_marksHere_93 : decode cX12_marksHere 93 = .ok (.aaload, 1) := by decide +kernel
theorem dX12_marksHere_94 : decode cX12_marksHere 94 = .ok (.iload_n 2, 1) := by decide +kernel
theorem dX12_marksHere_95 : decode cX12_marksHere 95 = .ok (.iaload, 1) := by decide +kernel
theorem dX12_marksHere_96 : decode cX12_marksHere 96 = .ok (.iload_n 1, 1) := by decide +kernel
theorem dX12_marksHere_97 : decode cX12_marksHere 97 = .ok (.if_icmp .ne 5, 3) := by decide +kernel
theorem dX12_marksHere_100 : decode cX12_marksHere 100 = .ok (.iconst (-1), 1) := by decide +kernel
theorem dX12_marksHere_101 : decode cX12_marksHere 101 = .ok (.ireturn, 1) := by decide +kernel
theorem dX12_marksHere_102 : decode cX12_marksHere 102 = .ok (.iinc 2 1, 3) := by decide +kernel
theorem dX12_marksHere_105 : decode cX12_marksHere 105 = .ok (.goto (-23), 3) := by decide +kernel
theorem dX12_marksHere_108 : decode cX12_marksHere 108 = .ok (.iload_n 1, 1) := by decide +kernel
theorem dX12_marksHere_109 : decode cX12_marksHere 109 = .ok (.ireturn, 1) := by decide +kernel
theorem dX12_letterRead_0 : decode cX12_letterRead 0 = .ok (.aload_n 0, 1) := by decide +kernel
theorem dX12_letterRead_1 : decode cX12_letterRead 1 = .ok (.aload_n 0, 1) := by decide +kernel
theorem dX12_letterRead_2 : decode cX12_letterRead 2 = .ok (.getfield 162, 3) := by decide +kernel
theorem dX12_letterRead_5 : decode cX12_letterRead 5 = .ok (.bipush 97, 2) := by decide +kernel
theorem dX12_letterRead_7 : decode cX12_letterRead 7 = .ok (.bipush 122, 2) := by decide +kernel
theorem dX12_letterRead_9 : decode cX12_letterRead 9 = .ok (.invokevirtual 165, 3) := by decide +kernel
theorem dX12_letterRead_12 : decode cX12_letterRead 12 = .ok (.ifCond .eq 20, 3) := by decide +kernel
theorem dX12_letterRead_15 : decode cX12_letterRead 15 = .ok (.aload_n 0, 1) := by decide +kernel
theorem dX12_letterRead_16 : decode cX12_letterRead 16 = .ok (.getfield 159, 3) := by decide +kernel
theorem dX12_letterRead_19 : decode cX12_letterRead 19 = .ok (.aload_n 0, 1) := by decide +kernel
theorem dX12_letterRead_20 : decode cX12_letterRead 20 = .ok (.getfield 162, 3) := by decide +kernel
theorem dX12_letterRead_23 : decode cX12_letterRead 23 = .ok (.isub, 1) := by decide +kernel
theorem dX12_letterRead_24 : decode cX12_letterRead 24 = .ok (.iconst 1, 1) := by decide +kernel
theorem dX12_letterRead_25 : decode cX12_letterRead 25 = .ok (.if_icmp .ne 7, 3) := by decide +kernel
theorem dX12_letterRead_28 : decode cX12_letterRead 28 = .ok (.iconst 1, 1) := by decide +kernel
theorem dX12_letterRead_29 : decode cX12_letterRead 29 = .ok (.goto 4, 3) := by decide +kernel
theorem dX12_letterRead_32 : decode cX12_letterRead 32 = .ok (.iconst 0, 1) := by decide +kernel
theorem dX12_letterRead_33 : decode cX12_letterRead 33 = .ok (.istore_n 1, 1) := by decide +kernel
theorem dX12_letterRead_34 : decode cX12_letterRead 34 = .ok (.iload_n 1, 1) := by decide +kernel
theorem dX12_letterRead_35 : decode cX12_letterRead 35 = .ok (.ifCond .eq 18, 3) := by decide +kernel
theorem dX12_letterRead_38 : decode cX12_letterRead 38 = .ok (.aload_n 0, 1) := by decide +kernel
theorem dX12_letterRead_39 : decode cX12_letterRead 39 = .ok (.getfield 9, 3) := by decide +kernel
theorem dX12_letterRead_42 : decode cX12_letterRead 42 = .ok (.aload_n 0, 1) := by decide +kernel
theorem dX12_letterRead_43 : decode cX12_letterRead 43 = .ok (.getfield 162, 3) := by decide +kernel
theorem dX12_letterRead_46 : decode cX12_letterRead 46 = .ok (.baload, 1) := by decide +kernel
theorem dX12_letterRead_47 : decode cX12_letterRead 47 = .ok (.bipush 97, 2) := by decide +kernel
theorem dX12_letterRead_49 : decode cX12_letterRead 49 = .ok (.isub, 1) := by decide +kernel
theorem dX12_letterRead_50 : decode cX12_letterRead 50 = .ok (.goto 4, 3) := by decide +kernel
theorem dX12_letterRead_53 : decode cX12_letterRead 53 = .ok (.iconst 0, 1) := by decide +kernel
theorem dX12_letterRead_54 : decode cX12_letterRead 54 = .ok (.istore_n 2, 1) := by decide +kernel
theorem dX12_letterRead_55 : decode cX12_letterRead 55 = .ok (.aload_n 0, 1) := by decide +kernel
theorem dX12_letterRead_56 : decode cX12_letterRead 56 = .ok (.iload_n 1, 1) := by decide +kernel
theorem dX12_letterRead_57 : decode cX12_letterRead 57 = .ok (.ifCond .eq 18, 3) := by decide +kernel
theorem dX12_letterRead_60 : decode cX12_letterRead 60 = .ok (.aload_n 0, 1) := by decide +kernel
theorem dX12_letterRead_61 : decode cX12_letterRead 61 = .ok (.getfield 15, 3) := by decide +kernel
theorem dX12_letterRead_64 : decode cX12_letterRead 64 = .ok (.iconst 1, 1) := by decide +kernel
theorem dX12_letterRead_65 : decode cX12_letterRead 65 = .ok (.aaload, 1) := by decide +kernel
theorem dX12_letterRead_66 : decode cX12_letterRead 66 = .ok (.iload_n 2, 1) := by decide +kernel
theorem dX12_letterRead_67 : decode cX12_letterRead 67 = .ok (.iaload, 1) := by decide +kernel
theorem dX12_letterRead_68 : decode cX12_letterRead 68 = .ok (.ifCond .ne 7, 3) := by decide +kernel
theorem dX12_letterRead_71 : decode cX12_letterRead 71 = .ok (.iconst 1, 1) := by decide +kernel
theorem dX12_letterRead_72 : decode cX12_letterRead 72 = .ok (.goto 4, 3) := by decide +kernel
theorem dX12_letterRead_75 : decode cX12_letterRead 75 = .ok (.iconst 0, 1) := by decide +kernel
theorem dX12_letterRead_76 : decode cX12_letterRead 76 = .ok (.invokevirtual 183, 3) := by decide +kernel
theorem dX12_letterRead_79 : decode cX12_letterRead 79 = .ok (.ifCond .ne 5, 3) := by decide +kernel
theorem dX12_letterRead_82 : decode cX12_letterRead 82 = .ok (.iconst 0, 1) := by decide +kernel
theorem dX12_letterRead_83 : decode cX12_letterRead 83 = .ok (.ireturn, 1) := by decide +kernel
theorem dX12_letterRead_84 : decode cX12_letterRead 84 = .ok (.aload_n 0, 1) := by decide +kernel
theorem dX12_letterRead_85 : decode cX12_letterRead 85 = .ok (.invokevirtual 187, 3) := by decide +kernel
theorem dX12_letterRead_88 : decode cX12_letterRead 88 = .ok (.istore_n 3, 1) := by decide +kernel
theorem dX12_letterRead_89 : decode cX12_letterRead 89 = .ok (.aload_n 0, 1) := by decide +kernel
theorem dX12_letterRead_90 : decode cX12_letterRead 90 = .ok (.iload_n 3, 1) := by decide +kernel
theorem dX12_letterRead_91 : decode cX12_letterRead 91 = .ok (.iconst (-1), 1) := by decide +kernel
theorem dX12_letterRead_92 : decode cX12_letterRead 92 = .ok (.if_icmp .eq 7, 3) := by decide +kernel
theorem dX12_letterRead_95 : decode cX12_letterRead 95 = .ok (.iconst 1, 1) := by decide +kernel
theorem dX12_letterRead_96 : decode cX12_letterRead 96 = .ok (.goto 4, 3) := by decide +kernel
theorem dX12_letterRead_99 : decode cX12_letterRead 99 = .ok (.iconst 0, 1) := by decide +kernel
theorem dX12_letterRead_100 : decode cX12_letterRead 100 = .ok (.invokevirtual 183, 3) := by decide +kernel
theorem dX12_letterRead_103 : decode cX12_letterRead 103 = .ok (.ifCond .ne 5, 3) := by decide +kernel
theorem dX12_letterRead_106 : decode cX12_letterRead 106 = .ok (.iconst 0, 1) := by decide +kernel
theorem dX12_letterRead_107 : decode cX12_letterRead 107 = .ok (.ireturn, 1) := by decide +kernel
theorem dX12_letterRead_108 : decode cX12_letterRead 108 = .ok (.aload_n 0, 1) := by decide +kernel
theorem dX12_letterRead_109 : decode cX12_letterRead 109 = .ok (.getfield 15, 3) := by decide +kernel
theorem dX12_letterRead_112 : decode cX12_letterRead 112 = .ok (.iconst 1, 1) := by decide +kernel
theorem dX12_letterRead_113 : decode cX12_letterRead 113 = .ok (.aaload, 1) := by decide +kernel
theorem dX12_letterRead_114 : decode cX12_letterRead 114 = .ok (.iload_n 2, 1) := by decide +kernel
theorem dX12_letterRead_115 : decode cX12_letterRead 115 = .ok (.iload_n 3, 1) := by decide +kernel
theorem dX12_letterRead_116 : decode cX12_letterRead 116 = .ok (.iastore, 1) := by decide +kernel
theorem dX12_letterRead_117 : decode cX12_letterRead 117 = .ok (.aload_n 0, 1) := by decide +kernel
theorem dX12_letterRead_118 : decode cX12_letterRead 118 = .ok (.getfield 26, 3) := by decide +kernel
theorem dX12_letterRead_121 : decode cX12_letterRead 121 = .ok (.iconst 1, 1) := by decide +kernel
theorem dX12_letterRead_122 : decode cX12_letterRead 122 = .ok (.dup2, 1) := by decide +kernel
theorem dX12_letterRead_123 : decode cX12_letterRead 123 = .ok (.iaload, 1) := by decide +kernel
theorem dX12_letterRead_124 : decode cX12_letterRead 124 = .ok (.iconst 1, 1) := by decide +kernel
theorem dX12_letterRead_125 : decode cX12_letterRead 125 = .ok (.iadd, 1) := by decide +kernel
theorem dX12_letterRead_126 : decode cX12_letterRead 126 = .ok (.iastore, 1) := by decide +kernel
theorem dX12_letterRead_127 : decode cX12_letterRead 127 = .ok (.aload_n 0, 1) := by decide +kernel
theorem dX12_letterRead_128 : decode cX12_letterRead 128 = .ok (.invokevirtual 190, 3) := by decide +kernel
theorem dX12_letterRead_131 : decode cX12_letterRead 131 = .ok (.ireturn, 1) := by decide +kernel
theorem dX12_nameHere_0 : decode cX12_nameHere 0 = .ok (.aload_n 0, 1) := by decide +kernel
theorem dX12_nameHere_1 : decode cX12_nameHere 1 = .ok (.aload_n 0, 1) := by decide +kernel
theorem dX12_nameHere_2 : decode cX12_nameHere 2 = .ok (.getfield 162, 3) := by decide +kernel
theorem dX12_nameHere_5 : decode cX12_nameHere 5 = .ok (.bipush 97, 2) := by decide +kernel
theorem dX12_nameHere_7 : decode cX12_nameHere 7 = .ok (.bipush 122, 2) := by decide +kernel
theorem dX12_nameHere_9 : decode cX12_nameHere 9 = .ok (.invokevirtual 165, 3) := by decide +kernel
theorem dX12_nameHere_12 : decode cX12_nameHere 12 = .ok (.ifCond .eq 17, 3) := by decide +kernel
theorem dX12_nameHere_15 : decode cX12_nameHere 15 = .ok (.aload_n 0, 1) := by decide +kernel
theorem dX12_nameHere_16 : decode cX12_nameHere 16 = .ok (.getfield 159, 3) := by decide +kernel
theorem dX12_nameHere_19 : decode cX12_nameHere 19 = .ok (.aload_n 0, 1) := by decide +kernel
theorem dX12_nameHere_20 : decode cX12_nameHere 20 = .ok (.getfield 162, 3) := by decide +kernel
theorem dX12_nameHere_23 : decode cX12_nameHere 23 = .ok (.isub, 1) := by decide +kernel
theorem dX12_nameHere_24 : decode cX12_nameHere 24 = .ok (.bipush 8, 2) := by decide +kernel
theorem dX12_nameHere_26 : decode cX12_nameHere 26 = .ok (.if_icmp .le 7, 3) := by decide +kernel
theorem dX12_nameHere_29 : decode cX12_nameHere 29 = .ok (.ldc2_w 194, 3) := by decide +kernel
theorem dX12_nameHere_32 : decode cX12_nameHere 32 = .ok (.lreturn, 1) := by decide +kernel
theorem dX12_nameHere_33 : decode cX12_nameHere 33 = .ok (.iconst 0, 1) := by decide +kernel
theorem dX12_nameHere_34 : decode cX12_nameHere 34 = .ok (.istore_n 1, 1) := by decide +kernel
theorem dX12_nameHere_35 : decode cX12_nameHere 35 = .ok (.iload_n 1, 1) := by decide +kernel
theorem dX12_nameHere_36 : decode cX12_nameHere 36 = .ok (.iconst 3, 1) := by decide +kernel
theorem dX12_nameHere_37 : decode cX12_nameHere 37 = .ok (.if_icmp .ge 21, 3) := by decide +kernel
theorem dX12_nameHere_40 : decode cX12_nameHere 40 = .ok (.aload_n 0, 1) := by decide +kernel
theorem dX12_nameHere_41 : decode cX12_nameHere 41 = .ok (.iload_n 1, 1) := by decide +kernel
theorem dX12_nameHere_42 : decode cX12_nameHere 42 = .ok (.invokevirtual 196, 3) := by decide +kernel
theorem dX12_nameHere_45 : decode cX12_nameHere 45 = .ok (.ifCond .eq 7, 3) := by decide +kernel
theorem dX12_nameHere_48 : decode cX12_nameHere 48 = .ok (.ldc2_w 194, 3) := by decide +kernel
theorem dX12_nameHere_51 : decode cX12_nameHere 51 = .ok (.lreturn, 1) := by decide +kernel
theorem dX12_nameHere_52 : decode cX12_nameHere 52 = .ok (.iinc 1 1, 3) := by decide +kernel
theorem dX12_nameHere_55 : decode cX12_nameHere 55 = .ok (.goto (-20), 3) := by decide +kernel
theorem dX12_nameHere_58 : decode cX12_nameHere 58 = .ok (.lconst 0, 1) := by decide +kernel
theorem dX12_nameHere_59 : decode cX12_nameHere 59 = .ok (.lstore_n 1, 1) := by decide +kernel
theorem dX12_nameHere_60 : decode cX12_nameHere 60 = .ok (.aload_n 0, 1) := by decide +kernel
theorem dX12_nameHere_61 : decode cX12_nameHere 61 = .ok (.getfield 162, 3) := by decide +kernel
theorem dX12_nameHere_64 : decode cX12_nameHere 64 = .ok (.istore_n 3, 1) := by decide +kernel
theorem dX12_nameHere_65 : decode cX12_nameHere 65 = .ok (.iload_n 3, 1) := by decide +kernel
theorem dX12_nameHere_66 : decode cX12_nameHere 66 = .ok (.aload_n 0, 1) := by decide +kernel
theorem dX12_nameHere_67 : decode cX12_nameHere 67 = .ok (.getfield 159, 3) := by decide +kernel
theorem dX12_nameHere_70 : decode cX12_nameHere 70 = .ok (.if_icmp .ge 29, 3) := by decide +kernel
theorem dX12_nameHere_73 : decode cX12_nameHere 73 = .ok (.ldc2_w 200, 3) := by decide +kernel
theorem dX12_nameHere_76 : decode cX12_nameHere 76 = .ok (.lload_n 1, 1) := by decide +kernel
theorem dX12_nameHere_77 : decode cX12_nameHere 77 = .ok (.lmul, 1) := by decide +kernel
theorem dX12_nameHere_78 : decode cX12_nameHere 78 = .ok (.aload_n 0, 1) := by decide +kernel
theorem dX12_nameHere_79 : decode cX12_nameHere 79 = .ok (.getfield 9, 3) := by decide +kernel
theorem dX12_nameHere_82 : decode cX12_nameHere 82 = .ok (.iload_n 3, 1) := by decide +kernel
theorem dX12_nameHere_83 : decode cX12_nameHere 83 = .ok (.baload, 1) := by decide +kernel
theorem dX12_nameHere_84 : decode cX12_nameHere 84 = .ok (.i2l, 1) := by decide +kernel
theorem dX12_nameHere_85 : decode cX12_nameHere 85 = .ok (.ladd, 1) := by decide +kernel
theorem dX12_nameHere_86 : decode cX12_nameHere 86 = .ok (.ldc2_w 202, 3) := by decide +kernel
theorem dX12_nameHere_89 : decode cX12_nameHere 89 = .ok (.lsub, 1) := by decide +kernel
theorem dX12_nameHere_90 : decode cX12_nameHere 90 = .ok (.lconst 1, 1) := by decide +kernel
theorem dX12_nameHere_91 : decode cX12_nameHere 91 = .ok (.ladd, 1) := by decide +kernel
theorem dX12_nameHere_92 : decode cX12_nameHere 92 = .ok (.lstore_n 1, 1) := by decide +kernel
theorem dX12_nameHere_93 : decode cX12_nameHere 93 = .ok (.iinc 3 1, 3) := by decide +kernel
theorem dX12_nameHere_96 : decode cX12_nameHere 96 = .ok (.goto (-31), 3) := by decide +kernel
theorem dX12_nameHere_99 : decode cX12_nameHere 99 = .ok (.iconst 0, 1) := by decide +kernel
theorem dX12_nameHere_100 : decode cX12_nameHere 100 = .ok (.istore_n 3, 1) := by decide +kernel
theorem dX12_nameHere_101 : decode cX12_nameHere 101 = .ok (.iload_n 3, 1) := by decide +kernel
theorem dX12_nameHere_102 : decode cX12_nameHere 102 = .ok (.aload_n 0, 1) := by decide +kernel
theorem dX12_nameHere_103 : decode cX12_nameHere 103 = .ok (.getfield 30, 3) := by decide +kernel
theorem dX12_nameHere_106 : decode cX12_nameHere 106 = .ok (.iconst 1, 1) := by decide +kernel
theorem dX12_nameHere_107 : decode cX12_nameHere 107 = .ok (.iaload, 1) := by decide +kernel
theorem dX12_nameHere_108 : decode cX12_nameHere 108 = .ok (.if_icmp .ge 26, 3) := by decide +kernel
theorem dX12_nameHere_111 : decode cX12_nameHere 111 = .ok (.aload_n 0, 1) := by decide +kernel
theorem dX12_nameHere_112 : decode cX12_nameHere 112 = .ok (.getfield 23, 3) := by decide +kernel
theorem dX12_nameHere_115 : decode cX12_nameHere 115 = .ok (.iconst 1, 1) := by decide +kernel
theorem dX12_nameHere_116 : decode cX12_nameHere 116 = .ok (.aaload, 1) := by decide +kernel
theorem dX12_nameHere_117 : decode cX12_nameHere 117 = .ok (.iload_n 3, 1) := by decide +kernel
theorem dX12_nameHere_118 : decode cX12_nameHere 118 = .ok (.laload, 1) := by decide +kernel
theorem dX12_nameHere_119 : decode cX12_nameHere 119 = .ok (.lload_n 1, 1) := by decide +kernel
theorem dX12_nameHere_120 : decode cX12_nameHere 120 = .ok (.lcmp, 1) := by decide +kernel
theorem dX12_nameHere_121 : decode cX12_nameHere 121 = .ok (.ifCond .ne 7, 3) := by decide +kernel
theorem dX12_nameHere_124 : decode cX12_nameHere 124 = .ok (.ldc2_w 194, 3) := by decide +kernel
theorem dX12_nameHere_127 : decode cX12_nameHere 127 = .ok (.lreturn, 1) := by decide +kernel
theorem dX12_nameHere_128 : decode cX12_nameHere 128 = .ok (.iinc 3 1, 3) := by decide +kernel
theorem dX12_nameHere_131 : decode cX12_nameHere 131 = .ok (.goto (-30), 3) := by decide +kernel
theorem dX12_nameHere_134 : decode cX12_nameHere 134 = .ok (.lload_n 1, 1) := by decide +kernel
theorem dX12_nameHere_135 : decode cX12_nameHere 135 = .ok (.lreturn, 1) := by decide +kernel
theorem dX12_groupHere_0 : decode cX12_groupHere 0 = .ok (.aload_n 0, 1) := by decide +kernel
theorem dX12_groupHere_1 : decode cX12_groupHere 1 = .ok (.aload_n 0, 1) := by decide +kernel
theorem dX12_groupHere_2 : decode cX12_groupHere 2 = .ok (.getfield 162, 3) := by decide +kernel
theorem dX12_groupHere_5 : decode cX12_groupHere 5 = .ok (.bipush 97, 2) := by decide +kernel
theorem dX12_groupHere_7 : decode cX12_groupHere 7 = .ok (.bipush 122, 2) := by decide +kernel
theorem dX12_groupHere_9 : decode cX12_groupHere 9 = .ok (.invokevirtual 165, 3) := by decide +kernel
theorem dX12_groupHere_12 : decode cX12_groupHere 12 = .ok (.ifCond .eq 16, 3) := by decide +kernel
theorem dX12_groupHere_15 : decode cX12_groupHere 15 = .ok (.aload_n 0, 1) := by decide +kernel
theorem dX12_groupHere_16 : decode cX12_groupHere 16 = .ok (.getfield 159, 3) := by decide +kernel
theorem dX12_groupHere_19 : decode cX12_groupHere 19 = .ok (.aload_n 0, 1) := by decide +kernel
theorem dX12_groupHere_20 : decode cX12_groupHere 20 = .ok (.getfield 162, 3) := by decide +kernel
theorem dX12_groupHere_23 : decode cX12_groupHere 23 = .ok (.isub, 1) := by decide +kernel
theorem dX12_groupHere_24 : decode cX12_groupHere 24 = .ok (.iconst 3, 1) := by decide +kernel
theorem dX12_groupHere_25 : decode cX12_groupHere 25 = .ok (.if_icmp .eq 5, 3) := by decide +kernel
theorem dX12_groupHere_28 : decode cX12_groupHere 28 = .ok (.iconst (-1), 1) := by decide +kernel
theorem dX12_groupHere_29 : decode cX12_groupHere 29 = .ok (.ireturn, 1) := by decide +kernel
theorem dX12_groupHere_30 : decode cX12_groupHere 30 = .ok (.iconst 0, 1) := by decide +kernel
theorem dX12_groupHere_31 : decode cX12_groupHere 31 = .ok (.istore_n 1, 1) := by decide +kernel
theorem dX12_groupHere_32 : decode cX12_groupHere 32 = .ok (.aload_n 0, 1) := by decide +kernel
theorem dX12_groupHere_33 : decode cX12_groupHere 33 = .ok (.getfield 162, 3) := by decide +kernel
theorem dX12_groupHere_36 : decode cX12_groupHere 36 = .ok (.istore_n 2, 1) := by decide +kernel
theorem dX12_groupHere_37 : decode cX12_groupHere 37 = .ok (.iload_n 2, 1) := by decide +kernel
theorem dX12_groupHere_38 : decode cX12_groupHere 38 = .ok (.aload_n 0, 1) := by decide +kernel
theorem dX12_groupHere_39 : decode cX12_groupHere 39 = .ok (.getfield 159, 3) := by decide +kernel
theorem dX12_groupHere_42 : decode cX12_groupHere 42 = .ok (.if_icmp .ge 45, 3) := by decide +kernel
theorem dX12_groupHere_45 : decode cX12_groupHere 45 = .ok (.aload_n 0, 1) := by decide +kernel
theorem dX12_groupHere_46 : decode cX12_groupHere 46 = .ok (.getfield 15, 3) := by decide +kernel
theorem dX12_groupHere_49 : decode cX12_groupHere 49 = .ok (.iconst 1, 1) := by decide +kernel
theorem dX12_groupHere_50 : decode cX12_groupHere 50 = .ok (.aaload, 1) := by decide +kernel
theorem dX12_groupHere_51 : decode cX12_groupHere 51 = .ok (.aload_n 0, 1) := by decide +kernel
theorem dX12_groupHere_52 : decode cX12_groupHere 52 = .ok (.getfield 9, 3) := by decide +kernel
theorem dX12_groupHere_55 : decode cX12_groupHere 55 = .ok (.iload_n 2, 1) := by decide +kernel
theorem dX12_groupHere_56 : decode cX12_groupHere 56 = .ok (.baload, 1) := by decide +kernel
theorem dX12_groupHere_57 : decode cX12_groupHere 57 = .ok (.bipush 97, 2) := by decide +kernel
theorem dX12_groupHere_59 : decode cX12_groupHere 59 = .ok (.isub, 1) := by decide +kernel
theorem dX12_groupHere_60 : decode cX12_groupHere 60 = .ok (.iaload, 1) := by decide +kernel
theorem dX12_groupHere_61 : decode cX12_groupHere 61 = .ok (.ifCond .ne 5, 3) := by decide +kernel
theorem dX12_groupHere_64 : decode cX12_groupHere 64 = .ok (.iconst (-1), 1) := by decide +kernel
theorem dX12_groupHere_65 : decode cX12_groupHere 65 = .ok (.ireturn, 1) := by decide +kernel
theorem dX12_groupHere_66 : decode cX12_groupHere 66 = .ok (.bipush 26, 2) := by decide +kernel
theorem dX12_groupHere_68 : decode cX12_groupHere 68 = .ok (.iload_n 1, 1) := by decide +kernel
theorem dX12_groupHere_69 : decode cX12_groupHere 69 = .ok (.imul, 1) := by decide +kernel
theorem dX12_groupHere_70 : decode cX12_groupHere 70 = .ok (.aload_n 0, 1) := by decide +kernel
theorem dX12_groupHere_71 : decode cX12_groupHere 71 = .ok (.getfield 9, 3) := by decide +kernel
theorem dX12_groupHere_74 : decode cX12_groupHere 74 = .ok (.iload_n 2, 1) := by decide +kernel
theorem dX12_groupHere_75 : decode cX12_groupHere 75 = .ok (.baload, 1) := by decide +kernel
theorem dX12_groupHere_76 : decode cX12_groupHere 76 = .ok (.iadd, 1) := by decide +kernel
theorem dX12_groupHere_77 : decode cX12_groupHere 77 = .ok (.bipush 97, 2) := by decide +kernel
theorem dX12_groupHere_79 : decode cX12_groupHere 79 = .ok (.isub, 1) := by decide +kernel
theorem dX12_groupHere_80 : decode cX12_groupHere 80 = .ok (.istore_n 1, 1) := by decide +kernel
theorem dX12_groupHere_81 : decode cX12_groupHere 81 = .ok (.iinc 2 1, 3) := by decide +kernel
theorem dX12_groupHere_84 : decode cX12_groupHere 84 = .ok (.goto (-47), 3) := by decide +kernel
theorem dX12_groupHere_87 : decode cX12_groupHere 87 = .ok (.iconst 0, 1) := by decide +kernel
theorem dX12_groupHere_88 : decode cX12_groupHere 88 = .ok (.istore_n 2, 1) := by decide +kernel
theorem dX12_groupHere_89 : decode cX12_groupHere 89 = .ok (.iload_n 2, 1) := by decide +kernel
theorem dX12_groupHere_90 : decode cX12_groupHere 90 = .ok (.aload_n 0, 1) := by decide +kernel
theorem dX12_groupHere_91 : decode cX12_groupHere 91 = .ok (.getfield 30, 3) := by decide +kernel
theorem dX12_groupHere_94 : decode cX12_groupHere 94 = .ok (.iconst 1, 1) := by decide +kernel
theorem dX12_groupHere_95 : decode cX12_groupHere 95 = .ok (.iaload, 1) := by decide +kernel
theorem dX12_groupHere_96 : decode cX12_groupHere 96 = .ok (.if_icmp .ge 23, 3) := by decide +kernel
theorem dX12_groupHere_99 : decode cX12_groupHere 99 = .ok (.aload_n 0, 1) := by decide +kernel
theorem dX12_groupHere_100 : decode cX12_groupHere 100 = .ok (.getfield 18, 3) := by decide +kernel
theorem dX12_groupHere_103 : decode cX12_groupHere 103 = .ok (.iconst 1, 1) := by decide +kernel
theorem dX12_groupHere_104 : decode cX12_groupHere 104 = .ok (.aaload, 1) := by decide +kernel
theorem dX12_groupHere_105 : decode cX12_groupHere 105 = .ok (.iload_n 2, 1) := by decide +kernel
theorem dX12_groupHere_106 : decode cX12_groupHere 106 = .ok (.iaload, 1) := by decide +kernel
theorem dX12_groupHere_107 : decode cX12_groupHere 107 = .ok (.iload_n 1, 1) := by decide +kernel
theorem dX12_groupHere_108 : decode cX12_groupHere 108 = .ok (.if_icmp .ne 5, 3) := by decide +kernel
theorem dX12_groupHere_111 : decode cX12_groupHere 111 = .ok (.iconst (-1), 1) := by decide +kernel
theorem dX12_groupHere_112 : decode cX12_groupHere 112 = .ok (.ireturn, 1) := by decide +kernel
theorem dX12_groupHere_113 : decode cX12_groupHere 113 = .ok (.iinc 2 1, 3) := by decide +kernel
theorem dX12_groupHere_116 : decode cX12_groupHere 116 = .ok (.goto (-27), 3) := by decide +kernel
theorem dX12_groupHere_119 : decode cX12_groupHere 119 = .ok (.iload_n 1, 1) := by decide +kernel
theorem dX12_groupHere_120 : decode cX12_groupHere 120 = .ok (.ireturn, 1) := by decide +kernel
theorem dX12_wordRead_0 : decode cX12_wordRead 0 = .ok (.aload_n 0, 1) := by decide +kernel
theorem dX12_wordRead_1 : decode cX12_wordRead 1 = .ok (.getfield 30, 3) := by decide +kernel
theorem dX12_wordRead_4 : decode cX12_wordRead 4 = .ok (.iconst 1, 1) := by decide +kernel
theorem dX12_wordRead_5 : decode cX12_wordRead 5 = .ok (.iaload, 1) := by decide +kernel
theorem dX12_wordRead_6 : decode cX12_wordRead 6 = .ok (.istore_n 1, 1) := by decide +kernel
theorem dX12_wordRead_7 : decode cX12_wordRead 7 = .ok (.aload_n 0, 1) := by decide +kernel
theorem dX12_wordRead_8 : decode cX12_wordRead 8 = .ok (.invokevirtual 204, 3) := by decide +kernel
theorem dX12_wordRead_11 : decode cX12_wordRead 11 = .ok (.lstore_n 2, 1) := by decide +kernel
theorem dX12_wordRead_12 : decode cX12_wordRead 12 = .ok (.aload_n 0, 1) := by decide +kernel
theorem dX12_wordRead_13 : decode cX12_wordRead 13 = .ok (.lload_n 2, 1) := by decide +kernel
theorem dX12_wordRead_14 : decode cX12_wordRead 14 = .ok (.ldc2_w 194, 3) := by decide +kernel
theorem dX12_wordRead_17 : decode cX12_wordRead 17 = .ok (.lcmp, 1) := by decide +kernel
theorem dX12_wordRead_18 : decode cX12_wordRead 18 = .ok (.ifCond .eq 7, 3) := by decide +kernel
theorem dX12_wordRead_21 : decode cX12_wordRead 21 = .ok (.iconst 1, 1) := by decide +kernel
theorem dX12_wordRead_22 : decode cX12_wordRead 22 = .ok (.goto 4, 3) := by decide +kernel
theorem dX12_wordRead_25 : decode cX12_wordRead 25 = .ok (.iconst 0, 1) := by decide +kernel
theorem dX12_wordRead_26 : decode cX12_wordRead 26 = .ok (.invokevirtual 183, 3) := by decide +kernel
theorem dX12_wordRead_29 : decode cX12_wordRead 29 = .ok (.ifCond .eq 15, 3) := by decide +kernel
theorem dX12_wordRead_32 : decode cX12_wordRead 32 = .ok (.aload_n 0, 1) := by decide +kernel
theorem dX12_wordRead_33 : decode cX12_wordRead 33 = .ok (.aload_n 0, 1) := by decide +kernel
theorem dX12_wordRead_34 : decode cX12_wordRead 34 = .ok (.iconst 2, 1) := by decide +kernel
theorem dX12_wordRead_35 : decode cX12_wordRead 35 = .ok (.invokevirtual 196, 3) := by decide +kernel
theorem dX12_wordRead_38 : decode cX12_wordRead 38 = .ok (.invokevirtual 183, 3) := by decide +kernel
theorem dX12_wordRead_41 : decode cX12_wordRead 41 = .ok (.ifCond .ne 5, 3) := by decide +kernel
theorem dX12_wordRead_44 : decode cX12_wordRead 44 = .ok (.iconst 0, 1) := by decide +kernel
theorem dX12_wordRead_45 : decode cX12_wordRead 45 = .ok (.ireturn, 1) := by decide +kernel
theorem dX12_wordRead_46 : decode cX12_wordRead 46 = .ok (.aload_n 0, 1) := by decide +kernel
theorem dX12_wordRead_47 : decode cX12_wordRead 47 = .ok (.invokevirtual 208, 3) := by decide +kernel
theorem dX12_wordRead_50 : decode cX12_wordRead 50 = .ok (.istore 4, 2) := by decide +kernel
theorem dX12_wordRead_52 : decode cX12_wordRead 52 = .ok (.aload_n 0, 1) := by decide +kernel
theorem dX12_wordRead_53 : decode cX12_wordRead 53 = .ok (.iload 4, 2) := by decide +kernel
theorem dX12_wordRead_55 : decode cX12_wordRead 55 = .ok (.iconst (-1), 1) := by decide +kernel
theorem dX12_wordRead_56 : decode cX12_wordRead 56 = .ok (.if_icmp .eq 7, 3) := by decide +kernel
theorem dX12_wordRead_59 : decode cX12_wordRead 59 = .ok (.iconst 1, 1) := by decide +kernel
theorem dX12_wordRead_60 : decode cX12_wordRead 60 = .ok (.goto 4, 3) := by decide +kernel
theorem dX12_wordRead_63 : decode cX12_wordRead 63 = .ok (.iconst 0, 1) := by decide +kernel
theorem dX12_wordRead_64 : decode cX12_wordRead 64 = .ok (.invokevirtual 183, 3) := by decide +kernel
theorem dX12_wordRead_67 : decode cX12_wordRead 67 = .ok (.ifCond .ne 5, 3) := by decide +kernel
theorem dX12_wordRead_70 : decode cX12_wordRead 70 = .ok (.iconst 0, 1) := by decide +kernel
theorem dX12_wordRead_71 : decode cX12_wordRead 71 = .ok (.ireturn, 1) := by decide +kernel
theorem dX12_wordRead_72 : decode cX12_wordRead 72 = .ok (.aload_n 0, 1) := by decide +kernel
theorem dX12_wordRead_73 : decode cX12_wordRead 73 = .ok (.getfield 23, 3) := by decide +kernel
theorem dX12_wordRead_76 : decode cX12_wordRead 76 = .ok (.iconst 1, 1) := by decide +kernel
theorem dX12_wordRead_77 : decode cX12_wordRead 77 = .ok (.aaload, 1) := by decide +kernel
theorem dX12_wordRead_78 : decode cX12_wordRead 78 = .ok (.iload_n 1, 1) := by decide +kernel
theorem dX12_wordRead_79 : decode cX12_wordRead 79 = .ok (.lload_n 2, 1) := by decide +kernel
theorem dX12_wordRead_80 : decode cX12_wordRead 80 = .ok (.lastore, 1) := by decide +kernel
theorem dX12_wordRead_81 : decode cX12_wordRead 81 = .ok (.aload_n 0, 1) := by decide +kernel
theorem dX12_wordRead_82 : decode cX12_wordRead 82 = .ok (.getfield 18, 3) := by decide +kernel
theorem dX12_wordRead_85 : decode cX12_wordRead 85 = .ok (.iconst 1, 1) := by decide +kernel
theorem dX12_wordRead_86 : decode cX12_wordRead 86 = .ok (.aaload, 1) := by decide +kernel
theorem dX12_wordRead_87 : decode cX12_wordRead 87 = .ok (.iload_n 1, 1) := by decide +kernel
theorem dX12_wordRead_88 : decode cX12_wordRead 88 = .ok (.iload 4, 2) := by decide +kernel
theorem dX12_wordRead_90 : decode cX12_wordRead 90 = .ok (.iastore, 1) := by decide +kernel
theorem dX12_wordRead_91 : decode cX12_wordRead 91 = .ok (.aload_n 0, 1) := by decide +kernel
theorem dX12_wordRead_92 : decode cX12_wordRead 92 = .ok (.getfield 30, 3) := by decide +kernel
theorem dX12_wordRead_95 : decode cX12_wordRead 95 = .ok (.iconst 1, 1) := by decide +kernel
theorem dX12_wordRead_96 : decode cX12_wordRead 96 = .ok (.dup2, 1) := by decide +kernel
theorem dX12_wordRead_97 : decode cX12_wordRead 97 = .ok (.iaload, 1) := by decide +kernel
theorem dX12_wordRead_98 : decode cX12_wordRead 98 = .ok (.iconst 1, 1) := by decide +kernel
theorem dX12_wordRead_99 : decode cX12_wordRead 99 = .ok (.iadd, 1) := by decide +kernel
theorem dX12_wordRead_100 : decode cX12_wordRead 100 = .ok (.iastore, 1) := by decide +kernel
theorem dX12_wordRead_101 : decode cX12_wordRead 101 = .ok (.aload_n 0, 1) := by decide +kernel
theorem dX12_wordRead_102 : decode cX12_wordRead 102 = .ok (.invokevirtual 190, 3) := by decide +kernel
theorem dX12_wordRead_105 : decode cX12_wordRead 105 = .ok (.ireturn, 1) := by decide +kernel
theorem dX12_reads_0 : decode cX12_reads 0 = .ok (.aload_n 0, 1) := by decide +kernel
theorem dX12_reads_1 : decode cX12_reads 1 = .ok (.iconst (-1), 1) := by decide +kernel
theorem dX12_reads_2 : decode cX12_reads 2 = .ok (.putfield 169, 3) := by decide +kernel
theorem dX12_reads_5 : decode cX12_reads 5 = .ok (.aload_n 0, 1) := by decide +kernel
theorem dX12_reads_6 : decode cX12_reads 6 = .ok (.getfield 26, 3) := by decide +kernel
theorem dX12_reads_9 : decode cX12_reads 9 = .ok (.iconst 1, 1) := by decide +kernel
theorem dX12_reads_10 : decode cX12_reads 10 = .ok (.iconst 0, 1) := by decide +kernel
theorem dX12_reads_11 : decode cX12_reads 11 = .ok (.iastore, 1) := by decide +kernel
theorem dX12_reads_12 : decode cX12_reads 12 = .ok (.aload_n 0, 1) := by decide +kernel
theorem dX12_reads_13 : decode cX12_reads 13 = .ok (.getfield 30, 3) := by decide +kernel
theorem dX12_reads_16 : decode cX12_reads 16 = .ok (.iconst 1, 1) := by decide +kernel
theorem dX12_reads_17 : decode cX12_reads 17 = .ok (.iconst 0, 1) := by decide +kernel
theorem dX12_reads_18 : decode cX12_reads 18 = .ok (.iastore, 1) := by decide +kernel
theorem dX12_reads_19 : decode cX12_reads 19 = .ok (.iconst 0, 1) := by decide +kernel
theorem dX12_reads_20 : decode cX12_reads 20 = .ok (.istore_n 1, 1) := by decide +kernel
theorem dX12_reads_21 : decode cX12_reads 21 = .ok (.iload_n 1, 1) := by decide +kernel
theorem dX12_reads_22 : decode cX12_reads 22 = .ok (.bipush 26, 2) := by decide +kernel
theorem dX12_reads_24 : decode cX12_reads 24 = .ok (.if_icmp .ge 18, 3) := by decide +kernel
theorem dX12_reads_27 : decode cX12_reads 27 = .ok (.aload_n 0, 1) := by decide +kernel
theorem dX12_reads_28 : decode cX12_reads 28 = .ok (.getfield 15, 3) := by decide +kernel
theorem dX12_reads_31 : decode cX12_reads 31 = .ok (.iconst 1, 1) := by decide +kernel
theorem dX12_reads_32 : decode cX12_reads 32 = .ok (.aaload, 1) := by decide +kernel
theorem dX12_reads_33 : decode cX12_reads 33 = .ok (.iload_n 1, 1) := by decide +kernel
theorem dX12_reads_34 : decode cX12_reads 34 = .ok (.iconst 0, 1) := by decide +kernel
theorem dX12_reads_35 : decode cX12_reads 35 = .ok (.iastore, 1) := by decide +kernel
theorem dX12_reads_36 : decode cX12_reads 36 = .ok (.iinc 1 1, 3) := by decide +kernel
theorem dX12_reads_39 : decode cX12_reads 39 = .ok (.goto (-18), 3) := by decide +kernel
theorem dX12_reads_42 : decode cX12_reads 42 = .ok (.aload_n 0, 1) := by decide +kernel
theorem dX12_reads_43 : decode cX12_reads 43 = .ok (.iconst 0, 1) := by decide +kernel
theorem dX12_reads_44 : decode cX12_reads 44 = .ok (.putfield 159, 3) := by decide +kernel
theorem dX12_reads_47 : decode cX12_reads 47 = .ok (.aload_n 0, 1) := by decide +kernel
theorem dX12_reads_48 : decode cX12_reads 48 = .ok (.invokevirtual 172, 3) := by decide +kernel
theorem dX12_reads_51 : decode cX12_reads 51 = .ok (.aload_n 0, 1) := by decide +kernel
theorem dX12_reads_52 : decode cX12_reads 52 = .ok (.getfield 162, 3) := by decide +kernel
theorem dX12_reads_55 : decode cX12_reads 55 = .ok (.aload_n 0, 1) := by decide +kernel
theorem dX12_reads_56 : decode cX12_reads 56 = .ok (.getfield 147, 3) := by decide +kernel
theorem dX12_reads_59 : decode cX12_reads 59 = .ok (.if_icmp .ne 12, 3) := by decide +kernel
theorem dX12_reads_62 : decode cX12_reads 62 = .ok (.aload_n 0, 1) := by decide +kernel
theorem dX12_reads_63 : decode cX12_reads 63 = .ok (.aload_n 0, 1) := by decide +kernel
theorem dX12_reads_64 : decode cX12_reads 64 = .ok (.getfield 147, 3) := by decide +kernel
theorem dX12_reads_67 : decode cX12_reads 67 = .ok (.putfield 169, 3) := by decide +kernel
theorem dX12_reads_70 : decode cX12_reads 70 = .ok (.return_, 1) := by decide +kernel
theorem dX12_reads_71 : decode cX12_reads 71 = .ok (.iconst 1, 1) := by decide +kernel
theorem dX12_reads_72 : decode cX12_reads 72 = .ok (.istore_n 1, 1) := by decide +kernel
theorem dX12_reads_73 : decode cX12_reads 73 = .ok (.iload_n 1, 1) := by decide +kernel
theorem dX12_reads_74 : decode cX12_reads 74 = .ok (.ifCond .eq 93, 3) := by decide +kernel
theorem dX12_reads_77 : decode cX12_reads 77 = .ok (.aload_n 0, 1) := by decide +kernel
theorem dX12_reads_78 : decode cX12_reads 78 = .ok (.getfield 162, 3) := by decide +kernel
theorem dX12_reads_81 : decode cX12_reads 81 = .ok (.aload_n 0, 1) := by decide +kernel
theorem dX12_reads_82 : decode cX12_reads 82 = .ok (.getfield 147, 3) := by decide +kernel
theorem dX12_reads_85 : decode cX12_reads 85 = .ok (.if_icmp .ge 82, 3) := by decide +kernel
theorem dX12_reads_88 : decode cX12_reads 88 = .ok (.aload_n 0, 1) := by decide +kernel
theorem dX12_reads_89 : decode cX12_reads 89 = .ok (.iconst 0, 1) := by decide +kernel
theorem dX12_reads_90 : decode cX12_reads 90 = .ok (.invokevirtual 196, 3) := by decide +kernel
theorem dX12_reads_93 : decode cX12_reads 93 = .ok (.ifCond .eq 27, 3) := by decide +kernel
theorem dX12_reads_96 : decode cX12_reads 96 = .ok (.aload_n 0, 1) := by decide +kernel
theorem dX12_reads_97 : decode cX12_reads 97 = .ok (.iconst 1, 1) := by decide +kernel
theorem dX12_reads_98 : decode cX12_reads 98 = .ok (.invokevirtual 183, 3) := by decide +kernel
theorem dX12_reads_101 : decode cX12_reads 101 = .ok (.ifCond .eq 14, 3) := by decide +kernel
theorem dX12_reads_104 : decode cX12_reads 104 = .ok (.aload_n 0, 1) := by decide +kernel
theorem dX12_reads_105 : decode cX12_reads 105 = .ok (.invokevirtual 211, 3) := by decide +kernel
theorem dX12_reads_108 : decode cX12_reads 108 = .ok (.ifCond .eq 7, 3) := by decide +kernel
theorem dX12_reads_111 : decode cX12_reads 111 = .ok (.iconst 1, 1) := by decide +kernel
theorem dX12_reads_112 : decode cX12_reads 112 = .ok (.goto 4, 3) := by decide +kernel
theorem dX12_reads_115 : decode cX12_reads 115 = .ok (.iconst 0, 1) := by decide +kernel
theorem dX12_reads_116 : decode cX12_reads 116 = .ok (.istore_n 1, 1) := by decide +kernel
theorem dX12_reads_117 : decode cX12_reads 117 = .ok (.goto (-44), 3) := by decide +kernel
theorem dX12_reads_120 : decode cX12_reads 120 = .ok (.aload_n 0, 1) := by decide +kernel
theorem dX12_reads_121 : decode cX12_reads 121 = .ok (.aload_n 0, 1) := by decide +kernel
theorem dX12_reads_122 : decode cX12_reads 122 = .ok (.iconst 1, 1) := by decide +kernel
theorem dX12_reads_123 : decode cX12_reads 123 = .ok (.invokevirtual 196, 3) := by decide +kernel
theorem dX12_reads_126 : decode cX12_reads 126 = .ok (.ifCond .eq 18, 3) := by decide +kernel
theorem dX12_reads_129 : decode cX12_reads 129 = .ok (.aload_n 0, 1) := by decide +kernel
theorem dX12_reads_130 : decode cX12_reads 130 = .ok (.getfield 30, 3) := by decide +kernel
theorem dX12_reads_133 : decode cX12_reads 133 = .ok (.iconst 1, 1) := by decide +kernel
theorem dX12_reads_134 : decode cX12_reads 134 = .ok (.iaload, 1) := by decide +kernel
theorem dX12_reads_135 : decode cX12_reads 135 = .ok (.bipush 20, 2) := by decide +kernel
theorem dX12_reads_137 : decode cX12_reads 137 = .ok (.if_icmp .ge 7, 3) := by decide +kernel
theorem dX12_reads_140 : decode cX12_reads 140 = .ok (.iconst 1, 1) := by decide +kernel
theorem dX12_reads_141 : decode cX12_reads 141 = .ok (.goto 4, 3) := by decide +kernel
theorem dX12_reads_144 : decode cX12_reads 144 = .ok (.iconst 0, 1) := by decide +kernel
theorem dX12_reads_145 : decode cX12_reads 145 = .ok (.invokevirtual 183, 3) := by decide +kernel
theorem dX12_reads_148 : decode cX12_reads 148 = .ok (.ifCond .eq 14, 3) := by decide +kernel
theorem dX12_reads_151 : decode cX12_reads 151 = .ok (.aload_n 0, 1) := by decide +kernel
theorem dX12_reads_152 : decode cX12_reads 152 = .ok (.invokevirtual 214, 3) := by decide +kernel
theorem dX12_reads_155 : decode cX12_reads 155 = .ok (.ifCond .eq 7, 3) := by decide +kernel
theorem dX12_reads_158 : decode cX12_reads 158 = .ok (.iconst 1, 1) := by decide +kernel
theorem dX12_reads_159 : decode cX12_reads 159 = .ok (.goto 4, 3) := by decide +kernel
theorem dX12_reads_162 : decode cX12_reads 162 = .ok (.iconst 0, 1) := by decide +kernel
theorem dX12_reads_163 : decode cX12_reads 163 = .ok (.istore_n 1, 1) := by decide +kernel
theorem dX12_reads_164 : decode cX12_reads 164 = .ok (.goto (-91), 3) := by decide +kernel
theorem dX12_reads_167 : decode cX12_reads 167 = .ok (.return_, 1) := by decide +kernel
theorem dX12_fault_0 : decode cX12_fault 0 = .ok (.aload_n 0, 1) := by decide +kernel
theorem dX12_fault_1 : decode cX12_fault 1 = .ok (.invokevirtual 217, 3) := by decide +kernel
theorem dX12_fault_4 : decode cX12_fault 4 = .ok (.aload_n 0, 1) := by decide +kernel
theorem dX12_fault_5 : decode cX12_fault 5 = .ok (.getfield 169, 3) := by decide +kernel
theorem dX12_fault_8 : decode cX12_fault 8 = .ok (.ireturn, 1) := by decide +kernel
theorem dX12_code_0 : decode cX12_code 0 = .ok (.aload_n 0, 1) := by decide +kernel
theorem dX12_code_1 : decode cX12_code 1 = .ok (.invokevirtual 217, 3) := by decide +kernel
theorem dX12_code_4 : decode cX12_code 4 = .ok (.aload_n 0, 1) := by decide +kernel
theorem dX12_code_5 : decode cX12_code 5 = .ok (.getfield 169, 3) := by decide +kernel
theorem dX12_code_8 : decode cX12_code 8 = .ok (.iconst (-1), 1) := by decide +kernel
theorem dX12_code_9 : decode cX12_code 9 = .ok (.if_icmp .eq 5, 3) := by decide +kernel
theorem dX12_code_12 : decode cX12_code 12 = .ok (.iconst (-1), 1) := by decide +kernel
theorem dX12_code_13 : decode cX12_code 13 = .ok (.ireturn, 1) := by decide +kernel
theorem dX12_code_14 : decode cX12_code 14 = .ok (.iconst 0, 1) := by decide +kernel
theorem dX12_code_15 : decode cX12_code 15 = .ok (.istore_n 1, 1) := by decide +kernel
theorem dX12_code_16 : decode cX12_code 16 = .ok (.iload_n 1, 1) := by decide +kernel
theorem dX12_code_17 : decode cX12_code 17 = .ok (.bipush 26, 2) := by decide +kernel
theorem dX12_code_19 : decode cX12_code 19 = .ok (.if_icmp .ge 25, 3) := by decide +kernel
theorem dX12_code_22 : decode cX12_code 22 = .ok (.aload_n 0, 1) := by decide +kernel
theorem dX12_code_23 : decode cX12_code 23 = .ok (.getfield 15, 3) := by decide +kernel
theorem dX12_code_26 : decode cX12_code 26 = .ok (.iconst 0, 1) := by decide +kernel
theorem dX12_code_27 : decode cX12_code 27 = .ok (.aaload, 1) := by decide +kernel
theorem dX12_code_28 : decode cX12_code 28 = .ok (.iload_n 1, 1) := by decide +kernel
theorem dX12_code_29 : decode cX12_code 29 = .ok (.aload_n 0, 1) := by decide +kernel
theorem dX12_code_30 : decode cX12_code 30 = .ok (.getfield 15, 3) := by decide +kernel
theorem dX12_code_33 : decode cX12_code 33 = .ok (.iconst 1, 1) := by decide +kernel
theorem dX12_code_34 : decode cX12_code 34 = .ok (.aaload, 1) := by decide +kernel
theorem dX12_code_35 : decode cX12_code 35 = .ok (.iload_n 1, 1) := by decide +kernel
theorem dX12_code_36 : decode cX12_code 36 = .ok (.iaload, 1) := by decide +kernel
theorem dX12_code_37 : decode cX12_code 37 = .ok (.iastore, 1) := by decide +kernel
theorem dX12_code_38 : decode cX12_code 38 = .ok (.iinc 1 1, 3) := by decide +kernel
theorem dX12_code_41 : decode cX12_code 41 = .ok (.goto (-25), 3) := by decide +kernel
theorem dX12_code_44 : decode cX12_code 44 = .ok (.iconst 0, 1) := by decide +kernel
theorem dX12_code_45 : decode cX12_code 45 = .ok (.istore_n 1, 1) := by decide +kernel
theorem dX12_code_46 : decode cX12_code 46 = .ok (.iload_n 1, 1) := by decide +kernel
theorem dX12_code_47 : decode cX12_code 47 = .ok (.bipush 20, 2) := by decide +kernel
theorem dX12_code_49 : decode cX12_code 49 = .ok (.if_icmp .ge 25, 3) := by decide +kernel
theorem dX12_code_52 : decode cX12_code 52 = .ok (.aload_n 0, 1) := by decide +kernel
theorem dX12_code_53 : decode cX12_code 53 = .ok (.getfield 18, 3) := by decide +kernel
theorem dX12_code_56 : decode cX12_code 56 = .ok (.iconst 0, 1) := by decide +kernel
theorem dX12_code_57 : decode cX12_code 57 = .ok (.aaload, 1) := by decide +kernel
theorem dX12_code_58 : decode cX12_code 58 = .ok (.iload_n 1, 1) := by decide +kernel
theorem dX12_code_59 : decode cX12_code 59 = .ok (.aload_n 0, 1) := by decide +kernel
theorem dX12_code_60 : decode cX12_code 60 = .ok (.getfield 18, 3) := by decide +kernel
theorem dX12_code_63 : decode cX12_code 63 = .ok (.iconst 1, 1) := by decide +kernel
theorem dX12_code_64 : decode cX12_code 64 = .ok (.aaload, 1) := by decide +kernel
theorem dX12_code_65 : decode cX12_code 65 = .ok (.iload_n 1, 1) := by decide +kernel
theorem dX12_code_66 : decode cX12_code 66 = .ok (.iaload, 1) := by decide +kernel
theorem dX12_code_67 : decode cX12_code 67 = .ok (.iastore, 1) := by decide +kernel
theorem dX12_code_68 : decode cX12_code 68 = .ok (.iinc 1 1, 3) := by decide +kernel
theorem dX12_code_71 : decode cX12_code 71 = .ok (.goto (-25), 3) := by decide +kernel
theorem dX12_code_74 : decode cX12_code 74 = .ok (.aload_n 0, 1) := by decide +kernel
theorem dX12_code_75 : decode cX12_code 75 = .ok (.getfield 26, 3) := by decide +kernel
theorem dX12_code_78 : decode cX12_code 78 = .ok (.iconst 0, 1) := by decide +kernel
theorem dX12_code_79 : decode cX12_code 79 = .ok (.aload_n 0, 1) := by decide +kernel
theorem dX12_code_80 : decode cX12_code 80 = .ok (.getfield 26, 3) := by decide +kernel
theorem dX12_code_83 : decode cX12_code 83 = .ok (.iconst 1, 1) := by decide +kernel
theorem dX12_code_84 : decode cX12_code 84 = .ok (.iaload, 1) := by decide +kernel
theorem dX12_code_85 : decode cX12_code 85 = .ok (.iastore, 1) := by decide +kernel
theorem dX12_code_86 : decode cX12_code 86 = .ok (.aload_n 0, 1) := by decide +kernel
theorem dX12_code_87 : decode cX12_code 87 = .ok (.getfield 30, 3) := by decide +kernel
theorem dX12_code_90 : decode cX12_code 90 = .ok (.iconst 0, 1) := by decide +kernel
theorem dX12_code_91 : decode cX12_code 91 = .ok (.aload_n 0, 1) := by decide +kernel
theorem dX12_code_92 : decode cX12_code 92 = .ok (.getfield 30, 3) := by decide +kernel
theorem dX12_code_95 : decode cX12_code 95 = .ok (.iconst 1, 1) := by decide +kernel
theorem dX12_code_96 : decode cX12_code 96 = .ok (.iaload, 1) := by decide +kernel
theorem dX12_code_97 : decode cX12_code 97 = .ok (.iastore, 1) := by decide +kernel
theorem dX12_code_98 : decode cX12_code 98 = .ok (.aload_n 0, 1) := by decide +kernel
theorem dX12_code_99 : decode cX12_code 99 = .ok (.iconst 0, 1) := by decide +kernel
theorem dX12_code_100 : decode cX12_code 100 = .ok (.putfield 147, 3) := by decide +kernel
theorem dX12_code_103 : decode cX12_code 103 = .ok (.aload_n 0, 1) := by decide +kernel
theorem dX12_code_104 : decode cX12_code 104 = .ok (.getfield 30, 3) := by decide +kernel
theorem dX12_code_107 : decode cX12_code 107 = .ok (.iconst 0, 1) := by decide +kernel
theorem dX12_code_108 : decode cX12_code 108 = .ok (.iaload, 1) := by decide +kernel
theorem dX12_code_109 : decode cX12_code 109 = .ok (.ireturn, 1) := by decide +kernel
theorem dX12_marks_0 : decode cX12_marks 0 = .ok (.iload_n 1, 1) := by decide +kernel
theorem dX12_marks_1 : decode cX12_marks 1 = .ok (.i2l, 1) := by decide +kernel
theorem dX12_marks_2 : decode cX12_marks 2 = .ok (.lconst 0, 1) := by decide +kernel
theorem dX12_marks_3 : decode cX12_marks 3 = .ok (.ldc2_w 220, 3) := by decide +kernel
theorem dX12_marks_6 : decode cX12_marks 6 = .ok (.invokestatic 155, 3) := by decide +kernel
theorem dX12_marks_9 : decode cX12_marks 9 = .ok (.ifCond .eq 25, 3) := by decide +kernel
theorem dX12_marks_12 : decode cX12_marks 12 = .ok (.aload_n 0, 1) := by decide +kernel
theorem dX12_marks_13 : decode cX12_marks 13 = .ok (.getfield 15, 3) := by decide +kernel
theorem dX12_marks_16 : decode cX12_marks 16 = .ok (.iconst 0, 1) := by decide +kernel
theorem dX12_marks_17 : decode cX12_marks 17 = .ok (.aaload, 1) := by decide +kernel
theorem dX12_marks_18 : decode cX12_marks 18 = .ok (.iload_n 1, 1) := by decide +kernel
theorem dX12_marks_19 : decode cX12_marks 19 = .ok (.iaload, 1) := by decide +kernel
theorem dX12_marks_20 : decode cX12_marks 20 = .ok (.ifCond .le 14, 3) := by decide +kernel
theorem dX12_marks_23 : decode cX12_marks 23 = .ok (.aload_n 0, 1) := by decide +kernel
theorem dX12_marks_24 : decode cX12_marks 24 = .ok (.getfield 15, 3) := by decide +kernel
theorem dX12_marks_27 : decode cX12_marks 27 = .ok (.iconst 0, 1) := by decide +kernel
theorem dX12_marks_28 : decode cX12_marks 28 = .ok (.aaload, 1) := by decide +kernel
theorem dX12_marks_29 : decode cX12_marks 29 = .ok (.iload_n 1, 1) := by decide +kernel
theorem dX12_marks_30 : decode cX12_marks 30 = .ok (.iaload, 1) := by decide +kernel
theorem dX12_marks_31 : decode cX12_marks 31 = .ok (.goto 4, 3) := by decide +kernel
theorem dX12_marks_34 : decode cX12_marks 34 = .ok (.iconst (-1), 1) := by decide +kernel
theorem dX12_marks_35 : decode cX12_marks 35 = .ok (.ireturn, 1) := by decide +kernel
theorem dX12_group_0 : decode cX12_group 0 = .ok (.iload_n 1, 1) := by decide +kernel
theorem dX12_group_1 : decode cX12_group 1 = .ok (.i2l, 1) := by decide +kernel
theorem dX12_group_2 : decode cX12_group 2 = .ok (.lconst 0, 1) := by decide +kernel
theorem dX12_group_3 : decode cX12_group 3 = .ok (.aload_n 0, 1) := by decide +kernel
theorem dX12_group_4 : decode cX12_group 4 = .ok (.getfield 30, 3) := by decide +kernel
theorem dX12_group_7 : decode cX12_group 7 = .ok (.iconst 0, 1) := by decide +kernel
theorem dX12_group_8 : decode cX12_group 8 = .ok (.iaload, 1) := by decide +kernel
theorem dX12_group_9 : decode cX12_group 9 = .ok (.iconst 1, 1) := by decide +kernel
theorem dX12_group_10 : decode cX12_group 10 = .ok (.isub, 1) := by decide +kernel
theorem dX12_group_11 : decode cX12_group 11 = .ok (.i2l, 1) := by decide +kernel
theorem dX12_group_12 : decode cX12_group 12 = .ok (.invokestatic 155, 3) := by decide +kernel
theorem dX12_group_15 : decode cX12_group 15 = .ok (.ifCond .eq 14, 3) := by decide +kernel
theorem dX12_group_18 : decode cX12_group 18 = .ok (.aload_n 0, 1) := by decide +kernel
theorem dX12_group_19 : decode cX12_group 19 = .ok (.getfield 18, 3) := by decide +kernel
theorem dX12_group_22 : decode cX12_group 22 = .ok (.iconst 0, 1) := by decide +kernel
theorem dX12_group_23 : decode cX12_group 23 = .ok (.aaload, 1) := by decide +kernel
theorem dX12_group_24 : decode cX12_group 24 = .ok (.iload_n 1, 1) := by decide +kernel
theorem dX12_group_25 : decode cX12_group 25 = .ok (.iaload, 1) := by decide +kernel
theorem dX12_group_26 : decode cX12_group 26 = .ok (.goto 4, 3) := by decide +kernel
theorem dX12_group_29 : decode cX12_group 29 = .ok (.iconst (-1), 1) := by decide +kernel
theorem dX12_group_30 : decode cX12_group 30 = .ok (.ireturn, 1) := by decide +kernel
theorem dX12_isSpan_0 : decode cX12_isSpan 0 = .ok (.iload_n 0, 1) := by decide +kernel
theorem dX12_isSpan_1 : decode cX12_isSpan 1 = .ok (.i2l, 1) := by decide +kernel
theorem dX12_isSpan_2 : decode cX12_isSpan 2 = .ok (.lconst 0, 1) := by decide +kernel
theorem dX12_isSpan_3 : decode cX12_isSpan 3 = .ok (.ldc2_w 222, 3) := by decide +kernel
theorem dX12_isSpan_6 : decode cX12_isSpan 6 = .ok (.invokestatic 155, 3) := by decide +kernel
theorem dX12_isSpan_9 : decode cX12_isSpan 9 = .ok (.ifCond .eq 40, 3) := by decide +kernel
theorem dX12_isSpan_12 : decode cX12_isSpan 12 = .ok (.iload_n 0, 1) := by decide +kernel
theorem dX12_isSpan_13 : decode cX12_isSpan 13 = .ok (.sipush 1000, 3) := by decide +kernel
theorem dX12_isSpan_16 : decode cX12_isSpan 16 = .ok (.idiv, 1) := by decide +kernel
theorem dX12_isSpan_17 : decode cX12_isSpan 17 = .ok (.iconst 1, 1) := by decide +kernel
theorem dX12_isSpan_18 : decode cX12_isSpan 18 = .ok (.if_icmp .lt 31, 3) := by decide +kernel
theorem dX12_isSpan_21 : decode cX12_isSpan 21 = .ok (.iload_n 0, 1) := by decide +kernel
theorem dX12_isSpan_22 : decode cX12_isSpan 22 = .ok (.sipush 1000, 3) := by decide +kernel
theorem dX12_isSpan_25 : decode cX12_isSpan 25 = .ok (.irem, 1) := by decide +kernel
theorem dX12_isSpan_26 : decode cX12_isSpan 26 = .ok (.sipush 255, 3) := by decide +kernel
theorem dX12_isSpan_29 : decode cX12_isSpan 29 = .ok (.if_icmp .gt 20, 3) := by decide +kernel
theorem dX12_isSpan_32 : decode cX12_isSpan 32 = .ok (.iload_n 0, 1) := by decide +kernel
theorem dX12_isSpan_33 : decode cX12_isSpan 33 = .ok (.sipush 1000, 3) := by decide +kernel
theorem dX12_isSpan_36 : decode cX12_isSpan 36 = .ok (.irem, 1) := by decide +kernel
theorem dX12_isSpan_37 : decode cX12_isSpan 37 = .ok (.iload_n 0, 1) := by decide +kernel
theorem dX12_isSpan_38 : decode cX12_isSpan 38 = .ok (.sipush 1000, 3) := by decide +kernel
theorem dX12_isSpan_41 : decode cX12_isSpan 41 = .ok (.idiv, 1) := by decide +kernel
theorem dX12_isSpan_42 : decode cX12_isSpan 42 = .ok (.if_icmp .lt 7, 3) := by decide +kernel
theorem dX12_isSpan_45 : decode cX12_isSpan 45 = .ok (.iconst 1, 1) := by decide +kernel
theorem dX12_isSpan_46 : decode cX12_isSpan 46 = .ok (.goto 4, 3) := by decide +kernel
theorem dX12_isSpan_49 : decode cX12_isSpan 49 = .ok (.iconst 0, 1) := by decide +kernel
theorem dX12_isSpan_50 : decode cX12_isSpan 50 = .ok (.ireturn, 1) := by decide +kernel
theorem dX12_span_0 : decode cX12_span 0 = .ok (.aload_n 0, 1) := by decide +kernel
theorem dX12_span_1 : decode cX12_span 1 = .ok (.getfield 45, 3) := by decide +kernel
theorem dX12_span_4 : decode cX12_span 4 = .ok (.iconst 5, 1) := by decide +kernel
theorem dX12_span_5 : decode cX12_span 5 = .ok (.aload_n 0, 1) := by decide +kernel
theorem dX12_span_6 : decode cX12_span 6 = .ok (.getfield 224, 3) := by decide +kernel
theorem dX12_span_9 : decode cX12_span 9 = .ok (.imul, 1) := by decide +kernel
theorem dX12_span_10 : decode cX12_span 10 = .ok (.iload_n 1, 1) := by decide +kernel
theorem dX12_span_11 : decode cX12_span 11 = .ok (.iadd, 1) := by decide +kernel
theorem dX12_span_12 : decode cX12_span 12 = .ok (.iload_n 2, 1) := by decide +kernel
theorem dX12_span_13 : decode cX12_span 13 = .ok (.sipush 1000, 3) := by decide +kernel
theorem dX12_span_16 : decode cX12_span 16 = .ok (.idiv, 1) := by decide +kernel
theorem dX12_span_17 : decode cX12_span 17 = .ok (.iastore, 1) := by decide +kernel
theorem dX12_span_18 : decode cX12_span 18 = .ok (.aload_n 0, 1) := by decide +kernel
theorem dX12_span_19 : decode cX12_span 19 = .ok (.getfield 48, 3) := by decide +kernel
theorem dX12_span_22 : decode cX12_span 22 = .ok (.iconst 5, 1) := by decide +kernel
theorem dX12_span_23 : decode cX12_span 23 = .ok (.aload_n 0, 1) := by decide +kernel
theorem dX12_span_24 : decode cX12_span 24 = .ok (.getfield 224, 3) := by decide +kernel
theorem dX12_span_27 : decode cX12_span 27 = .ok (.imul, 1) := by decide +kernel
theorem dX12_span_28 : decode cX12_span 28 = .ok (.iload_n 1, 1) := by decide +kernel
theorem dX12_span_29 : decode cX12_span 29 = .ok (.iadd, 1) := by decide +kernel
theorem dX12_span_30 : decode cX12_span 30 = .ok (.iload_n 2, 1) := by decide +kernel
theorem dX12_span_31 : decode cX12_span 31 = .ok (.sipush 1000, 3) := by decide +kernel
theorem dX12_span_34 : decode cX12_span 34 = .ok (.irem, 1) := by decide +kernel
theorem dX12_span_35 : decode cX12_span 35 = .ok (.iastore, 1) := by decide +kernel
theorem dX12_span_36 : decode cX12_span 36 = .ok (.return_, 1) := by decide +kernel
theorem dX12_hand_0 : decode cX12_hand 0 = .ok (.iload_n 1, 1) := by decide +kernel
theorem dX12_hand_1 : decode cX12_hand 1 = .ok (.invokestatic 227, 3) := by decide +kernel
theorem dX12_hand_4 : decode cX12_hand 4 = .ok (.ifCond .eq 42, 3) := by decide +kernel
theorem dX12_hand_7 : decode cX12_hand 7 = .ok (.iload_n 2, 1) := by decide +kernel
theorem dX12_hand_8 : decode cX12_hand 8 = .ok (.invokestatic 227, 3) := by decide +kernel
theorem dX12_hand_11 : decode cX12_hand 11 = .ok (.ifCond .eq 35, 3) := by decide +kernel
theorem dX12_hand_14 : decode cX12_hand 14 = .ok (.iload_n 3, 1) := by decide +kernel
theorem dX12_hand_15 : decode cX12_hand 15 = .ok (.invokestatic 227, 3) := by decide +kernel
theorem dX12_hand_18 : decode cX12_hand 18 = .ok (.ifCond .eq 28, 3) := by decide +kernel
theorem dX12_hand_21 : decode cX12_hand 21 = .ok (.iload 4, 2) := by decide +kernel
theorem dX12_hand_23 : decode cX12_hand 23 = .ok (.invokestatic 227, 3) := by decide +kernel
theorem dX12_hand_26 : decode cX12_hand 26 = .ok (.ifCond .eq 20, 3) := by decide +kernel
theorem dX12_hand_29 : decode cX12_hand 29 = .ok (.iload 5, 2) := by decide +kernel
theorem dX12_hand_31 : decode cX12_hand 31 = .ok (.invokestatic 227, 3) := by decide +kernel
theorem dX12_hand_34 : decode cX12_hand 34 = .ok (.ifCond .eq 12, 3) := by decide +kernel
theorem dX12_hand_37 : decode cX12_hand 37 = .ok (.aload_n 0, 1) := by decide +kernel
theorem dX12_hand_38 : decode cX12_hand 38 = .ok (.getfield 224, 3) := by decide +kernel
theorem dX12_hand_41 : decode cX12_hand 41 = .ok (.bipush 8, 2) := by decide +kernel
theorem dX12_hand_43 : decode cX12_hand 43 = .ok (.if_icmp .ne 5, 3) := by decide +kernel
theorem dX12_hand_46 : decode cX12_hand 46 = .ok (.iconst (-1), 1) := by decide +kernel
theorem dX12_hand_47 : decode cX12_hand 47 = .ok (.ireturn, 1) := by decide +kernel
theorem dX12_hand_48 : decode cX12_hand 48 = .ok (.aload_n 0, 1) := by decide +kernel
theorem dX12_hand_49 : decode cX12_hand 49 = .ok (.iconst 0, 1) := by decide +kernel
theorem dX12_hand_50 : decode cX12_hand 50 = .ok (.iload_n 1, 1) := by decide +kernel
theorem dX12_hand_51 : decode cX12_hand 51 = .ok (.invokevirtual 230, 3) := by decide +kernel
theorem dX12_hand_54 : decode cX12_hand 54 = .ok (.aload_n 0, 1) := by decide +kernel
theorem dX12_hand_55 : decode cX12_hand 55 = .ok (.iconst 1, 1) := by decide +kernel
theorem dX12_hand_56 : decode cX12_hand 56 = .ok (.iload_n 2, 1) := by decide +kernel
theorem dX12_hand_57 : decode cX12_hand 57 = .ok (.invokevirtual 230, 3) := by decide +kernel
theorem dX12_hand_60 : decode cX12_hand 60 = .ok (.aload_n 0, 1) := by decide +kernel
theorem dX12_hand_61 : decode cX12_hand 61 = .ok (.iconst 2, 1) := by decide +kernel
theorem dX12_hand_62 : decode cX12_hand 62 = .ok (.iload_n 3, 1) := by decide +kernel
theorem dX12_hand_63 : decode cX12_hand 63 = .ok (.invokevirtual 230, 3) := by decide +kernel
theorem dX12_hand_66 : decode cX12_hand 66 = .ok (.aload_n 0, 1) := by decide +kernel
theorem dX12_hand_67 : decode cX12_hand 67 = .ok (.iconst 3, 1) := by decide +kernel
theorem dX12_hand_68 : decode cX12_hand 68 = .ok (.iload 4, 2) := by decide +kernel
theorem dX12_hand_70 : decode cX12_hand 70 = .ok (.invokevirtual 230, 3) := by decide +kernel
theorem dX12_hand_73 : decode cX12_hand 73 = .ok (.aload_n 0, 1) := by decide +kernel
theorem dX12_hand_74 : decode cX12_hand 74 = .ok (.iconst 4, 1) := by decide +kernel
theorem dX12_hand_75 : decode cX12_hand 75 = .ok (.iload 5, 2) := by decide +kernel
theorem dX12_hand_77 : decode cX12_hand 77 = .ok (.invokevirtual 230, 3) := by decide +kernel
theorem dX12_hand_80 : decode cX12_hand 80 = .ok (.aload_n 0, 1) := by decide +kernel
theorem dX12_hand_81 : decode cX12_hand 81 = .ok (.dup, 1) := by decide +kernel
theorem dX12_hand_82 : decode cX12_hand 82 = .ok (.getfield 224, 3) := by decide +kernel
theorem dX12_hand_85 : decode cX12_hand 85 = .ok (.iconst 1, 1) := by decide +kernel
theorem dX12_hand_86 : decode cX12_hand 86 = .ok (.iadd, 1) := by decide +kernel
theorem dX12_hand_87 : decode cX12_hand 87 = .ok (.putfield 224, 3) := by decide +kernel
theorem dX12_hand_90 : decode cX12_hand 90 = .ok (.aload_n 0, 1) := by decide +kernel
theorem dX12_hand_91 : decode cX12_hand 91 = .ok (.getfield 224, 3) := by decide +kernel
theorem dX12_hand_94 : decode cX12_hand 94 = .ok (.iconst 1, 1) := by decide +kernel
theorem dX12_hand_95 : decode cX12_hand 95 = .ok (.isub, 1) := by decide +kernel
theorem dX12_hand_96 : decode cX12_hand 96 = .ok (.ireturn, 1) := by decide +kernel
theorem dX12_isStation_0 : decode cX12_isStation 0 = .ok (.iload_n 0, 1) := by decide +kernel
theorem dX12_isStation_1 : decode cX12_isStation 1 = .ok (.i2l, 1) := by decide +kernel
theorem dX12_isStation_2 : decode cX12_isStation 2 = .ok (.lconst 0, 1) := by decide +kernel
theorem dX12_isStation_3 : decode cX12_isStation 3 = .ok (.ldc2_w 234, 3) := by decide +kernel
theorem dX12_isStation_6 : decode cX12_isStation 6 = .ok (.invokestatic 155, 3) := by decide +kernel
theorem dX12_isStation_9 : decode cX12_isStation 9 = .ok (.ireturn, 1) := by decide +kernel
theorem dX12_line_0 : decode cX12_line 0 = .ok (.iload_n 1, 1) := by decide +kernel
theorem dX12_line_1 : decode cX12_line 1 = .ok (.invokestatic 236, 3) := by decide +kernel
theorem dX12_line_4 : decode cX12_line 4 = .ok (.ifCond .eq 49, 3) := by decide +kernel
theorem dX12_line_7 : decode cX12_line 7 = .ok (.iload_n 2, 1) := by decide +kernel
theorem dX12_line_8 : decode cX12_line 8 = .ok (.invokestatic 236, 3) := by decide +kernel
theorem dX12_line_11 : decode cX12_line 11 = .ok (.ifCond .eq 42, 3) := by decide +kernel
theorem dX12_line_14 : decode cX12_line 14 = .ok (.iload_n 1, 1) := by decide +kernel
theorem dX12_line_15 : decode cX12_line 15 = .ok (.iload_n 2, 1) := by decide +kernel
theorem dX12_line_16 : decode cX12_line 16 = .ok (.if_icmp .eq 37, 3) := by decide +kernel
theorem dX12_line_19 : decode cX12_line 19 = .ok (.iload_n 3, 1) := by decide +kernel
theorem dX12_line_20 : decode cX12_line 20 = .ok (.i2l, 1) := by decide +kernel
theorem dX12_line_21 : decode cX12_line 21 = .ok (.lconst 0, 1) := by decide +kernel
theorem dX12_line_22 : decode cX12_line 22 = .ok (.ldc2_w 239, 3) := by decide +kernel
theorem dX12_line_25 : decode cX12_line 25 = .ok (.invokestatic 155, 3) := by decide +kernel
theorem dX12_line_28 : decode cX12_line 28 = .ok (.ifCond .eq 25, 3) := by decide +kernel
theorem dX12_line_31 : decode cX12_line 31 = .ok (.iload 4, 2) := by decide +kernel
theorem dX12_line_33 : decode cX12_line 33 = .ok (.i2l, 1) := by decide +kernel
theorem dX12_line_34 : decode cX12_line 34 = .ok (.lconst 0, 1) := by decide +kernel
theorem dX12_line_35 : decode cX12_line 35 = .ok (.ldc2_w 241, 3) := by decide +kernel
theorem dX12_line_38 : decode cX12_line 38 = .ok (.invokestatic 155, 3) := by decide +kernel
theorem dX12_line_41 : decode cX12_line 41 = .ok (.ifCond .eq 12, 3) := by decide +kernel
theorem dX12_line_44 : decode cX12_line 44 = .ok (.aload_n 0, 1) := by decide +kernel
theorem dX12_line_45 : decode cX12_line 45 = .ok (.getfield 243, 3) := by decide +kernel
theorem dX12_line_48 : decode cX12_line 48 = .ok (.bipush 8, 2) := by decide +kernel
theorem dX12_line_50 : decode cX12_line 50 = .ok (.if_icmp .ne 5, 3) := by decide +kernel
theorem dX12_line_53 : decode cX12_line 53 = .ok (.iconst (-1), 1) := by decide +kernel
theorem dX12_line_54 : decode cX12_line 54 = .ok (.ireturn, 1) := by decide +kernel
theorem dX12_line_55 : decode cX12_line 55 = .ok (.aload_n 0, 1) := by decide +kernel
theorem dX12_line_56 : decode cX12_line 56 = .ok (.getfield 51, 3) := by decide +kernel
theorem dX12_line_59 : decode cX12_line 59 = .ok (.aload_n 0, 1) := by decide +kernel
theorem dX12_line_60 : decode cX12_line 60 = .ok (.getfield 243, 3) := by decide +kernel
theorem dX12_line_63 : decode cX12_line 63 = .ok (.iload_n 1, 1) := by decide +kernel
theorem dX12_line_64 : decode cX12_line 64 = .ok (.iastore, 1) := by decide +kernel
theorem dX12_line_65 : decode cX12_line 65 = .ok (.aload_n 0, 1) := by decide +kernel
theorem dX12_line_66 : decode cX12_line 66 = .ok (.getfield 54, 3) := by decide +kernel
theorem dX12_line_69 : decode cX12_line 69 = .ok (.aload_n 0, 1) := by decide +kernel
theorem dX12_line_70 : decode cX12_line 70 = .ok (.getfield 243, 3) := by decide +kernel
theorem dX12_line_73 : decode cX12_line 73 = .ok (.iload_n 2, 1) := by decide +kernel
theorem dX12_line_74 : decode cX12_line 74 = .ok (.iastore, 1) := by decide +kernel
theorem dX12_line_75 : decode cX12_line 75 = .ok (.aload_n 0, 1) := by decide +kernel
theorem dX12_line_76 : decode cX12_line 76 = .ok (.getfield 57, 3) := by decide +kernel
theorem dX12_line_79 : decode cX12_line 79 = .ok (.aload_n 0, 1) := by decide +kernel
theorem dX12_line_80 : decode cX12_line 80 = .ok (.getfield 243, 3) := by decide +kernel
theorem dX12_line_83 : decode cX12_line 83 = .ok (.iload_n 3, 1) := by decide +kernel
theorem dX12_line_84 : decode cX12_line 84 = .ok (.iastore, 1) := by decide +kernel
theorem dX12_line_85 : decode cX12_line 85 = .ok (.aload_n 0, 1) := by decide +kernel
theorem dX12_line_86 : decode cX12_line 86 = .ok (.getfield 60, 3) := by decide +kernel
theorem dX12_line_89 : decode cX12_line 89 = .ok (.aload_n 0, 1) := by decide +kernel
theorem dX12_line_90 : decode cX12_line 90 = .ok (.getfield 243, 3) := by decide +kernel
theorem dX12_line_93 : decode cX12_line 93 = .ok (.iload 4, 2) := by decide +kernel
theorem dX12_line_95 : decode cX12_line 95 = .ok (.iastore, 1) := by decide +kernel
theorem dX12_line_96 : decode cX12_line 96 = .ok (.aload_n 0, 1) := by decide +kernel
theorem dX12_line_97 : decode cX12_line 97 = .ok (.dup, 1) := by decide +kernel
theorem dX12_line_98 : decode cX12_line 98 = .ok (.getfield 243, 3) := by decide +kernel
theorem dX12_line_101 : decode cX12_line 101 = .ok (.iconst 1, 1) := by decide +kernel
theorem dX12_line_102 : decode cX12_line 102 = .ok (.iadd, 1) := by decide +kernel
theorem dX12_line_103 : decode cX12_line 103 = .ok (.putfield 243, 3) := by decide +kernel
theorem dX12_line_106 : decode cX12_line 106 = .ok (.aload_n 0, 1) := by decide +kernel
theorem dX12_line_107 : decode cX12_line 107 = .ok (.getfield 243, 3) := by decide +kernel
theorem dX12_line_110 : decode cX12_line 110 = .ok (.iconst 1, 1) := by decide +kernel
theorem dX12_line_111 : decode cX12_line 111 = .ok (.isub, 1) := by decide +kernel
theorem dX12_line_112 : decode cX12_line 112 = .ok (.ireturn, 1) := by decide +kernel
theorem dX12_rain_0 : decode cX12_rain 0 = .ok (.iload_n 1, 1) := by decide +kernel
theorem dX12_rain_1 : decode cX12_rain 1 = .ok (.i2l, 1) := by decide +kernel
theorem dX12_rain_2 : decode cX12_rain 2 = .ok (.lconst 0, 1) := by decide +kernel
theorem dX12_rain_3 : decode cX12_rain 3 = .ok (.ldc2_w 246, 3) := by decide +kernel
theorem dX12_rain_6 : decode cX12_rain 6 = .ok (.invokestatic 155, 3) := by decide +kernel
theorem dX12_rain_9 : decode cX12_rain 9 = .ok (.ifCond .ne 5, 3) := by decide +kernel
theorem dX12_rain_12 : decode cX12_rain 12 = .ok (.iconst 0, 1) := by decide +kernel
theorem dX12_rain_13 : decode cX12_rain 13 = .ok (.ireturn, 1) := by decide +kernel
theorem dX12_rain_14 : decode cX12_rain 14 = .ok (.aload_n 0, 1) := by decide +kernel
theorem dX12_rain_15 : decode cX12_rain 15 = .ok (.iload_n 1, 1) := by decide +kernel
theorem dX12_rain_16 : decode cX12_rain 16 = .ok (.putfield 248, 3) := by decide +kernel
theorem dX12_rain_19 : decode cX12_rain 19 = .ok (.iconst 1, 1) := by decide +kernel
theorem dX12_rain_20 : decode cX12_rain 20 = .ok (.ireturn, 1) := by decide +kernel
theorem dX12_isLine_0 : decode cX12_isLine 0 = .ok (.iload_n 1, 1) := by decide +kernel
theorem dX12_isLine_1 : decode cX12_isLine 1 = .ok (.i2l, 1) := by decide +kernel
theorem dX12_isLine_2 : decode cX12_isLine 2 = .ok (.lconst 0, 1) := by decide +kernel
theorem dX12_isLine_3 : decode cX12_isLine 3 = .ok (.aload_n 0, 1) := by decide +kernel
theorem dX12_isLine_4 : decode cX12_isLine 4 = .ok (.getfield 243, 3) := by decide +kernel
theorem dX12_isLine_7 : decode cX12_isLine 7 = .ok (.iconst 1, 1) := by decide +kernel
theorem dX12_isLine_8 : decode cX12_isLine 8 = .ok (.isub, 1) := by decide +kernel
theorem dX12_isLine_9 : decode cX12_isLine 9 = .ok (.i2l, 1) := by decide +kernel
theorem dX12_isLine_10 : decode cX12_isLine 10 = .ok (.invokestatic 155, 3) := by decide +kernel
theorem dX12_isLine_13 : decode cX12_isLine 13 = .ok (.ireturn, 1) := by decide +kernel
theorem dX12_isHand_0 : decode cX12_isHand 0 = .ok (.iload_n 1, 1) := by decide +kernel
theorem dX12_isHand_1 : decode cX12_isHand 1 = .ok (.i2l, 1) := by decide +kernel
theorem dX12_isHand_2 : decode cX12_isHand 2 = .ok (.lconst 0, 1) := by decide +kernel
theorem dX12_isHand_3 : decode cX12_isHand 3 = .ok (.aload_n 0, 1) := by decide +kernel
theorem dX12_isHand_4 : decode cX12_isHand 4 = .ok (.getfield 224, 3) := by decide +kernel
theorem dX12_isHand_7 : decode cX12_isHand 7 = .ok (.iconst 1, 1) := by decide +kernel
theorem dX12_isHand_8 : decode cX12_isHand 8 = .ok (.isub, 1) := by decide +kernel
theorem dX12_isHand_9 : decode cX12_isHand 9 = .ok (.i2l, 1) := by decide +kernel
theorem dX12_isHand_10 : decode cX12_isHand 10 = .ok (.invokestatic 155, 3) := by decide +kernel
theorem dX12_isHand_13 : decode cX12_isHand 13 = .ok (.ireturn, 1) := by decide +kernel
theorem dX12_biteOf_0 : decode cX12_biteOf 0 = .ok (.aload_n 0, 1) := by decide +kernel
theorem dX12_biteOf_1 : decode cX12_biteOf 1 = .ok (.getfield 57, 3) := by decide +kernel
theorem dX12_biteOf_4 : decode cX12_biteOf 4 = .ok (.iload_n 1, 1) := by decide +kernel
theorem dX12_biteOf_5 : decode cX12_biteOf 5 = .ok (.iaload, 1) := by decide +kernel
theorem dX12_biteOf_6 : decode cX12_biteOf 6 = .ok (.aload_n 0, 1) := by decide +kernel
theorem dX12_biteOf_7 : decode cX12_biteOf 7 = .ok (.getfield 60, 3) := by decide +kernel
theorem dX12_biteOf_10 : decode cX12_biteOf 10 = .ok (.iload_n 1, 1) := by decide +kernel
theorem dX12_biteOf_11 : decode cX12_biteOf 11 = .ok (.iaload, 1) := by decide +kernel
theorem dX12_biteOf_12 : decode cX12_biteOf 12 = .ok (.aload_n 0, 1) := by decide +kernel
theorem dX12_biteOf_13 : decode cX12_biteOf 13 = .ok (.getfield 248, 3) := by decide +kernel
theorem dX12_biteOf_16 : decode cX12_biteOf 16 = .ok (.imul, 1) := by decide +kernel
theorem dX12_biteOf_17 : decode cX12_biteOf 17 = .ok (.iadd, 1) := by decide +kernel
theorem dX12_biteOf_18 : decode cX12_biteOf 18 = .ok (.ireturn, 1) := by decide +kernel
theorem dX12_bite_0 : decode cX12_bite 0 = .ok (.aload_n 0, 1) := by decide +kernel
theorem dX12_bite_1 : decode cX12_bite 1 = .ok (.iload_n 1, 1) := by decide +kernel
theorem dX12_bite_2 : decode cX12_bite 2 = .ok (.invokevirtual 251, 3) := by decide +kernel
theorem dX12_bite_5 : decode cX12_bite 5 = .ok (.ifCond .eq 11, 3) := by decide +kernel
theorem dX12_bite_8 : decode cX12_bite 8 = .ok (.aload_n 0, 1) := by decide +kernel
theorem dX12_bite_9 : decode cX12_bite 9 = .ok (.iload_n 1, 1) := by decide +kernel
theorem dX12_bite_10 : decode cX12_bite 10 = .ok (.invokevirtual 254, 3) := by decide +kernel
theorem dX12_bite_13 : decode cX12_bite 13 = .ok (.goto 4, 3) := by decide +kernel
theorem dX12_bite_16 : decode cX12_bite 16 = .ok (.iconst (-1), 1) := by decide +kernel
theorem dX12_bite_17 : decode cX12_bite 17 = .ok (.ireturn, 1) := by decide +kernel
theorem dX12_length_0 : decode cX12_length 0 = .ok (.iload_n 1, 1) := by decide +kernel
theorem dX12_length_1 : decode cX12_length 1 = .ok (.i2l, 1) := by decide +kernel
theorem dX12_length_2 : decode cX12_length 2 = .ok (.lconst 1, 1) := by decide +kernel
theorem dX12_length_3 : decode cX12_length 3 = .ok (.ldc2_w 258, 3) := by decide +kernel
theorem dX12_length_6 : decode cX12_length 6 = .ok (.invokestatic 155, 3) := by decide +kernel
theorem dX12_length_9 : decode cX12_length 9 = .ok (.ifCond .eq 12, 3) := by decide +kernel
theorem dX12_length_12 : decode cX12_length 12 = .ok (.aload_n 0, 1) := by decide +kernel
theorem dX12_length_13 : decode cX12_length 13 = .ok (.getfield 260, 3) := by decide +kernel
theorem dX12_length_16 : decode cX12_length 16 = .ok (.bipush 120, 2) := by decide +kernel
theorem dX12_length_18 : decode cX12_length 18 = .ok (.if_icmp .ne 5, 3) := by decide +kernel
theorem dX12_length_21 : decode cX12_length 21 = .ok (.iconst (-1), 1) := by decide +kernel
theorem dX12_length_22 : decode cX12_length 22 = .ok (.ireturn, 1) := by decide +kernel
theorem dX12_length_23 : decode cX12_length 23 = .ok (.aload_n 0, 1) := by decide +kernel
theorem dX12_length_24 : decode cX12_length 24 = .ok (.getfield 63, 3) := by decide +kernel
theorem dX12_length_27 : decode cX12_length 27 = .ok (.aload_n 0, 1) := by decide +kernel
theorem dX12_length_28 : decode cX12_length 28 = .ok (.getfield 260, 3) := by decide +kernel
theorem dX12_length_31 : decode cX12_length 31 = .ok (.iload_n 1, 1) := by decide +kernel
theorem dX12_length_32 : decode cX12_length 32 = .ok (.iastore, 1) := by decide +kernel
theorem dX12_length_33 : decode cX12_length 33 = .ok (.aload_n 0, 1) := by decide +kernel
theorem dX12_length_34 : decode cX12_length 34 = .ok (.dup, 1) := by decide +kernel
theorem dX12_length_35 : decode cX12_length 35 = .ok (.getfield 260, 3) := by decide +kernel
theorem dX12_length_38 : decode cX12_length 38 = .ok (.iconst 1, 1) := by decide +kernel
theorem dX12_length_39 : decode cX12_length 39 = .ok (.iadd, 1) := by decide +kernel
theorem dX12_length_40 : decode cX12_length 40 = .ok (.putfield 260, 3) := by decide +kernel
theorem dX12_length_43 : decode cX12_length 43 = .ok (.aload_n 0, 1) := by decide +kernel
theorem dX12_length_44 : decode cX12_length 44 = .ok (.getfield 260, 3) := by decide +kernel
theorem dX12_length_47 : decode cX12_length 47 = .ok (.ireturn, 1) := by decide +kernel
theorem dX12_cut_0 : decode cX12_cut 0 = .ok (.iload_n 1, 1) := by decide +kernel
theorem dX12_cut_1 : decode cX12_cut 1 = .ok (.i2l, 1) := by decide +kernel
theorem dX12_cut_2 : decode cX12_cut 2 = .ok (.lconst 0, 1) := by decide +kernel
theorem dX12_cut_3 : decode cX12_cut 3 = .ok (.aload_n 0, 1) := by decide +kernel
theorem dX12_cut_4 : decode cX12_cut 4 = .ok (.getfield 260, 3) := by decide +kernel
theorem dX12_cut_7 : decode cX12_cut 7 = .ok (.i2l, 1) := by decide +kernel
theorem dX12_cut_8 : decode cX12_cut 8 = .ok (.invokestatic 155, 3) := by decide +kernel
theorem dX12_cut_11 : decode cX12_cut 11 = .ok (.ifCond .ne 5, 3) := by decide +kernel
theorem dX12_cut_14 : decode cX12_cut 14 = .ok (.iconst 0, 1) := by decide +kernel
theorem dX12_cut_15 : decode cX12_cut 15 = .ok (.ireturn, 1) := by decide +kernel
theorem dX12_cut_16 : decode cX12_cut 16 = .ok (.aload_n 0, 1) := by decide +kernel
theorem dX12_cut_17 : decode cX12_cut 17 = .ok (.iload_n 1, 1) := by decide +kernel
theorem dX12_cut_18 : decode cX12_cut 18 = .ok (.putfield 260, 3) := by decide +kernel
theorem dX12_cut_21 : decode cX12_cut 21 = .ok (.iconst 1, 1) := by decide +kernel
theorem dX12_cut_22 : decode cX12_cut 22 = .ok (.ireturn, 1) := by decide +kernel
theorem dX12_tape_0 : decode cX12_tape 0 = .ok (.iload_n 1, 1) := by decide +kernel
theorem dX12_tape_1 : decode cX12_tape 1 = .ok (.i2l, 1) := by decide +kernel
theorem dX12_tape_2 : decode cX12_tape 2 = .ok (.lconst 0, 1) := by decide +kernel
theorem dX12_tape_3 : decode cX12_tape 3 = .ok (.aload_n 0, 1) := by decide +kernel
theorem dX12_tape_4 : decode cX12_tape 4 = .ok (.getfield 260, 3) := by decide +kernel
theorem dX12_tape_7 : decode cX12_tape 7 = .ok (.iconst 1, 1) := by decide +kernel
theorem dX12_tape_8 : decode cX12_tape 8 = .ok (.isub, 1) := by decide +kernel
theorem dX12_tape_9 : decode cX12_tape 9 = .ok (.i2l, 1) := by decide +kernel
theorem dX12_tape_10 : decode cX12_tape 10 = .ok (.invokestatic 155, 3) := by decide +kernel
theorem dX12_tape_13 : decode cX12_tape 13 = .ok (.ifCond .eq 12, 3) := by decide +kernel
theorem dX12_tape_16 : decode cX12_tape 16 = .ok (.aload_n 0, 1) := by decide +kernel
theorem dX12_tape_17 : decode cX12_tape 17 = .ok (.getfield 63, 3) := by decide +kernel
theorem dX12_tape_20 : decode cX12_tape 20 = .ok (.iload_n 1, 1) := by decide +kernel
theorem dX12_tape_21 : decode cX12_tape 21 = .ok (.iaload, 1) := by decide +kernel
theorem dX12_tape_22 : decode cX12_tape 22 = .ok (.goto 4, 3) := by decide +kernel
theorem dX12_tape_25 : decode cX12_tape 25 = .ok (.iconst (-1), 1) := by decide +kernel
theorem dX12_tape_26 : decode cX12_tape 26 = .ok (.ireturn, 1) := by decide +kernel
theorem dX12_sentAt_0 : decode cX12_sentAt 0 = .ok (.iload_n 1, 1) := by decide +kernel
theorem dX12_sentAt_1 : decode cX12_sentAt 1 = .ok (.iconst 2, 1) := by decide +kernel
theorem dX12_sentAt_2 : decode cX12_sentAt 2 = .ok (.irem, 1) := by decide +kernel
theorem dX12_sentAt_3 : decode cX12_sentAt 3 = .ok (.ifCond .ne 17, 3) := by decide +kernel
theorem dX12_sentAt_6 : decode cX12_sentAt 6 = .ok (.aload_n 0, 1) := by decide +kernel
theorem dX12_sentAt_7 : decode cX12_sentAt 7 = .ok (.getfield 63, 3) := by decide +kernel
theorem dX12_sentAt_10 : decode cX12_sentAt 10 = .ok (.iload_n 1, 1) := by decide +kernel
theorem dX12_sentAt_11 : decode cX12_sentAt 11 = .ok (.iaload, 1) := by decide +kernel
theorem dX12_sentAt_12 : decode cX12_sentAt 12 = .ok (.aload_n 0, 1) := by decide +kernel
theorem dX12_sentAt_13 : decode cX12_sentAt 13 = .ok (.getfield 263, 3) := by decide +kernel
theorem dX12_sentAt_16 : decode cX12_sentAt 16 = .ok (.iadd, 1) := by decide +kernel
theorem dX12_sentAt_17 : decode cX12_sentAt 17 = .ok (.goto 14, 3) := by decide +kernel
theorem dX12_sentAt_20 : decode cX12_sentAt 20 = .ok (.aload_n 0, 1) := by decide +kernel
theorem dX12_sentAt_21 : decode cX12_sentAt 21 = .ok (.getfield 63, 3) := by decide +kernel
theorem dX12_sentAt_24 : decode cX12_sentAt 24 = .ok (.iload_n 1, 1) := by decide +kernel
theorem dX12_sentAt_25 : decode cX12_sentAt 25 = .ok (.iaload, 1) := by decide +kernel
theorem dX12_sentAt_26 : decode cX12_sentAt 26 = .ok (.aload_n 0, 1) := by decide +kernel
theorem dX12_sentAt_27 : decode cX12_sentAt 27 = .ok (.getfield 263, 3) := by decide +kernel
theorem dX12_sentAt_30 : decode cX12_sentAt 30 = .ok (.isub, 1) := by decide +kernel
theorem dX12_sentAt_31 : decode cX12_sentAt 31 = .ok (.ireturn, 1) := by decide +kernel
theorem dX12_isOf_0 : decode cX12_isOf 0 = .ok (.aload_n 0, 1) := by decide +kernel
theorem dX12_isOf_1 : decode cX12_isOf 1 = .ok (.iload_n 1, 1) := by decide +kernel
theorem dX12_isOf_2 : decode cX12_isOf 2 = .ok (.invokevirtual 266, 3) := by decide +kernel
theorem dX12_isOf_5 : decode cX12_isOf 5 = .ok (.i2l, 1) := by decide +kernel
theorem dX12_isOf_6 : decode cX12_isOf 6 = .ok (.aload_n 0, 1) := by decide +kernel
theorem dX12_isOf_7 : decode cX12_isOf 7 = .ok (.getfield 45, 3) := by decide +kernel
theorem dX12_isOf_10 : decode cX12_isOf 10 = .ok (.iconst 5, 1) := by decide +kernel
theorem dX12_isOf_11 : decode cX12_isOf 11 = .ok (.aload_n 0, 1) := by decide +kernel
theorem dX12_isOf_12 : decode cX12_isOf 12 = .ok (.getfield 269, 3) := by decide +kernel
theorem dX12_isOf_15 : decode cX12_isOf 15 = .ok (.imul, 1) := by decide +kernel
theorem dX12_isOf_16 : decode cX12_isOf 16 = .ok (.iload_n 2, 1) := by decide +kernel
theorem dX12_isOf_17 : decode cX12_isOf 17 = .ok (.iadd, 1) := by decide +kernel
theorem dX12_isOf_18 : decode cX12_isOf 18 = .ok (.iaload, 1) := by decide +kernel
theorem dX12_isOf_19 : decode cX12_isOf 19 = .ok (.i2l, 1) := by decide +kernel
theorem dX12_isOf_20 : decode cX12_isOf 20 = .ok (.aload_n 0, 1) := by decide +kernel
theorem dX12_isOf_21 : decode cX12_isOf 21 = .ok (.getfield 48, 3) := by decide +kernel
theorem dX12_isOf_24 : decode cX12_isOf 24 = .ok (.iconst 5, 1) := by decide +kernel
theorem dX12_isOf_25 : decode cX12_isOf 25 = .ok (.aload_n 0, 1) := by decide +kernel
theorem dX12_isOf_26 : decode cX12_isOf 26 = .ok (.getfield 269, 3) := by decide +kernel
theorem dX12_isOf_29 : decode cX12_isOf 29 = .ok (.imul, 1) := by decide +kernel
theorem dX12_isOf_30 : decode cX12_isOf 30 = .ok (.iload_n 2, 1) := by decide +kernel
theorem dX12_isOf_31 : decode cX12_isOf 31 = .ok (.iadd, 1) := by decide +kernel
theorem dX12_isOf_32 : decode cX12_isOf 32 = .ok (.iaload, 1) := by decide +kernel
theorem dX12_isOf_33 : decode cX12_isOf 33 = .ok (.i2l, 1) := by decide +kernel
theorem dX12_isOf_34 : decode cX12_isOf 34 = .ok (.invokestatic 155, 3) := by decide +kernel
theorem dX12_isOf_37 : decode cX12_isOf 37 = .ok (.ireturn, 1) := by decide +kernel
theorem dX12_costOf_0 : decode cX12_costOf 0 = .ok (.iconst 2, 1) := by decide +kernel
theorem dX12_costOf_1 : decode cX12_costOf 1 = .ok (.aload_n 0, 1) := by decide +kernel
theorem dX12_costOf_2 : decode cX12_costOf 2 = .ok (.iload_n 1, 1) := by decide +kernel
theorem dX12_costOf_3 : decode cX12_costOf 3 = .ok (.invokevirtual 266, 3) := by decide +kernel
theorem dX12_costOf_6 : decode cX12_costOf 6 = .ok (.imul, 1) := by decide +kernel
theorem dX12_costOf_7 : decode cX12_costOf 7 = .ok (.aload_n 0, 1) := by decide +kernel
theorem dX12_costOf_8 : decode cX12_costOf 8 = .ok (.getfield 45, 3) := by decide +kernel
theorem dX12_costOf_11 : decode cX12_costOf 11 = .ok (.iconst 5, 1) := by decide +kernel
theorem dX12_costOf_12 : decode cX12_costOf 12 = .ok (.aload_n 0, 1) := by decide +kernel
theorem dX12_costOf_13 : decode cX12_costOf 13 = .ok (.getfield 269, 3) := by decide +kernel
theorem dX12_costOf_16 : decode cX12_costOf 16 = .ok (.imul, 1) := by decide +kernel
theorem dX12_costOf_17 : decode cX12_costOf 17 = .ok (.iload_n 2, 1) := by decide +kernel
theorem dX12_costOf_18 : decode cX12_costOf 18 = .ok (.iadd, 1) := by decide +kernel
theorem dX12_costOf_19 : decode cX12_costOf 19 = .ok (.iaload, 1) := by decide +kernel
theorem dX12_costOf_20 : decode cX12_costOf 20 = .ok (.isub, 1) := by decide +kernel
theorem dX12_costOf_21 : decode cX12_costOf 21 = .ok (.aload_n 0, 1) := by decide +kernel
theorem dX12_costOf_22 : decode cX12_costOf 22 = .ok (.getfield 48, 3) := by decide +kernel
theorem dX12_costOf_25 : decode cX12_costOf 25 = .ok (.iconst 5, 1) := by decide +kernel
theorem dX12_costOf_26 : decode cX12_costOf 26 = .ok (.aload_n 0, 1) := by decide +kernel
theorem dX12_costOf_27 : decode cX12_costOf 27 = .ok (.getfield 269, 3) := by decide +kernel
theorem dX12_costOf_30 : decode cX12_costOf 30 = .ok (.imul, 1) := by decide +kernel
theorem dX12_costOf_31 : decode cX12_costOf 31 = .ok (.iload_n 2, 1) := by decide +kernel
theorem dX12_costOf_32 : decode cX12_costOf 32 = .ok (.iadd, 1) := by decide +kernel
theorem dX12_costOf_33 : decode cX12_costOf 33 = .ok (.iaload, 1) := by decide +kernel
theorem dX12_costOf_34 : decode cX12_costOf 34 = .ok (.isub, 1) := by decide +kernel
theorem dX12_costOf_35 : decode cX12_costOf 35 = .ok (.invokestatic 272, 3) := by decide +kernel
theorem dX12_costOf_38 : decode cX12_costOf 38 = .ok (.ireturn, 1) := by decide +kernel
theorem dX12_marksMany_0 : decode cX12_marksMany 0 = .ok (.iconst 0, 1) := by decide +kernel
theorem dX12_marksMany_1 : decode cX12_marksMany 1 = .ok (.istore_n 1, 1) := by decide +kernel
theorem dX12_marksMany_2 : decode cX12_marksMany 2 = .ok (.iload_n 0, 1) := by decide +kernel
theorem dX12_marksMany_3 : decode cX12_marksMany 3 = .ok (.istore_n 2, 1) := by decide +kernel
theorem dX12_marksMany_4 : decode cX12_marksMany 4 = .ok (.iload_n 2, 1) := by decide +kernel
theorem dX12_marksMany_5 : decode cX12_marksMany 5 = .ok (.ifCond .le 14, 3) := by decide +kernel
theorem dX12_marksMany_8 : decode cX12_marksMany 8 = .ok (.iinc 1 1, 3) := by decide +kernel
theorem dX12_marksMany_11 : decode cX12_marksMany 11 = .ok (.iload_n 2, 1) := by decide +kernel
theorem dX12_marksMany_12 : decode cX12_marksMany 12 = .ok (.bipush 10, 2) := by decide +kernel
theorem dX12_marksMany_14 : decode cX12_marksMany 14 = .ok (.idiv, 1) := by decide +kernel
theorem dX12_marksMany_15 : decode cX12_marksMany 15 = .ok (.istore_n 2, 1) := by decide +kernel
theorem dX12_marksMany_16 : decode cX12_marksMany 16 = .ok (.goto (-12), 3) := by decide +kernel
theorem dX12_marksMany_19 : decode cX12_marksMany 19 = .ok (.iload_n 1, 1) := by decide +kernel
theorem dX12_marksMany_20 : decode cX12_marksMany 20 = .ok (.ireturn, 1) := by decide +kernel
theorem dX12_kindOf_0 : decode cX12_kindOf 0 = .ok (.iload_n 0, 1) := by decide +kernel
theorem dX12_kindOf_1 : decode cX12_kindOf 1 = .ok (.istore_n 2, 1) := by decide +kernel
theorem dX12_kindOf_2 : decode cX12_kindOf 2 = .ok (.iload_n 0, 1) := by decide +kernel
theorem dX12_kindOf_3 : decode cX12_kindOf 3 = .ok (.invokestatic 277, 3) := by decide +kernel
theorem dX12_kindOf_6 : decode cX12_kindOf 6 = .ok (.iconst 1, 1) := by decide +kernel
theorem dX12_kindOf_7 : decode cX12_kindOf 7 = .ok (.isub, 1) := by decide +kernel
theorem dX12_kindOf_8 : decode cX12_kindOf 8 = .ok (.istore_n 3, 1) := by decide +kernel
theorem dX12_kindOf_9 : decode cX12_kindOf 9 = .ok (.iload_n 3, 1) := by decide +kernel
theorem dX12_kindOf_10 : decode cX12_kindOf 10 = .ok (.iload_n 1, 1) := by decide +kernel
theorem dX12_kindOf_11 : decode cX12_kindOf 11 = .ok (.if_icmp .le 14, 3) := by decide +kernel
theorem dX12_kindOf_14 : decode cX12_kindOf 14 = .ok (.iload_n 2, 1) := by decide +kernel
theorem dX12_kindOf_15 : decode cX12_kindOf 15 = .ok (.bipush 10, 2) := by decide +kernel
theorem dX12_kindOf_17 : decode cX12_kindOf 17 = .ok (.idiv, 1) := by decide +kernel
theorem dX12_kindOf_18 : decode cX12_kindOf 18 = .ok (.istore_n 2, 1) := by decide +kernel
theorem dX12_kindOf_19 : decode cX12_kindOf 19 = .ok (.iinc 3 (-1), 3) := by decide +kernel
theorem dX12_kindOf_22 : decode cX12_kindOf 22 = .ok (.goto (-13), 3) := by decide +kernel
theorem dX12_kindOf_25 : decode cX12_kindOf 25 = .ok (.iload_n 2, 1) := by decide +kernel
theorem dX12_kindOf_26 : decode cX12_kindOf 26 = .ok (.bipush 10, 2) := by decide +kernel
theorem dX12_kindOf_28 : decode cX12_kindOf 28 = .ok (.irem, 1) := by decide +kernel
theorem dX12_kindOf_29 : decode cX12_kindOf 29 = .ok (.iconst 1, 1) := by decide +kernel
theorem dX12_kindOf_30 : decode cX12_kindOf 30 = .ok (.if_icmp .ne 7, 3) := by decide +kernel
theorem dX12_kindOf_33 : decode cX12_kindOf 33 = .ok (.iconst 0, 1) := by decide +kernel
theorem dX12_kindOf_34 : decode cX12_kindOf 34 = .ok (.goto 4, 3) := by decide +kernel
theorem dX12_kindOf_37 : decode cX12_kindOf 37 = .ok (.iconst 1, 1) := by decide +kernel
theorem dX12_kindOf_38 : decode cX12_kindOf 38 = .ok (.ireturn, 1) := by decide +kernel
theorem dX12_stands_0 : decode cX12_stands 0 = .ok (.iload_n 2, 1) := by decide +kernel
theorem dX12_stands_1 : decode cX12_stands 1 = .ok (.invokestatic 277, 3) := by decide +kernel
theorem dX12_stands_4 : decode cX12_stands 4 = .ok (.istore_n 3, 1) := by decide +kernel
theorem dX12_stands_5 : decode cX12_stands 5 = .ok (.iload_n 1, 1) := by decide +kernel
theorem dX12_stands_6 : decode cX12_stands 6 = .ok (.iconst 2, 1) := by decide +kernel
theorem dX12_stands_7 : decode cX12_stands 7 = .ok (.iload_n 3, 1) := by decide +kernel
theorem dX12_stands_8 : decode cX12_stands 8 = .ok (.imul, 1) := by decide +kernel
theorem dX12_stands_9 : decode cX12_stands 9 = .ok (.iadd, 1) := by decide +kernel
theorem dX12_stands_10 : decode cX12_stands 10 = .ok (.iconst 1, 1) := by decide +kernel
theorem dX12_stands_11 : decode cX12_stands 11 = .ok (.isub, 1) := by decide +kernel
theorem dX12_stands_12 : decode cX12_stands 12 = .ok (.aload_n 0, 1) := by decide +kernel
theorem dX12_stands_13 : decode cX12_stands 13 = .ok (.getfield 260, 3) := by decide +kernel
theorem dX12_stands_16 : decode cX12_stands 16 = .ok (.if_icmp .le 5, 3) := by decide +kernel
theorem dX12_stands_19 : decode cX12_stands 19 = .ok (.iconst 0, 1) := by decide +kernel
theorem dX12_stands_20 : decode cX12_stands 20 = .ok (.ireturn, 1) := by decide +kernel
theorem dX12_stands_21 : decode cX12_stands 21 = .ok (.iconst 0, 1) := by decide +kernel
theorem dX12_stands_22 : decode cX12_stands 22 = .ok (.istore 4, 2) := by decide +kernel
theorem dX12_stands_24 : decode cX12_stands 24 = .ok (.iload 4, 2) := by decide +kernel
theorem dX12_stands_26 : decode cX12_stands 26 = .ok (.iload_n 3, 1) := by decide +kernel
theorem dX12_stands_27 : decode cX12_stands 27 = .ok (.if_icmp .ge 51, 3) := by decide +kernel
theorem dX12_stands_30 : decode cX12_stands 30 = .ok (.aload_n 0, 1) := by decide +kernel
theorem dX12_stands_31 : decode cX12_stands 31 = .ok (.iload_n 1, 1) := by decide +kernel
theorem dX12_stands_32 : decode cX12_stands 32 = .ok (.iconst 2, 1) := by decide +kernel
theorem dX12_stands_33 : decode cX12_stands 33 = .ok (.iload 4, 2) := by decide +kernel
theorem dX12_stands_35 : decode cX12_stands 35 = .ok (.imul, 1) := by decide +kernel
theorem dX12_stands_36 : decode cX12_stands 36 = .ok (.iadd, 1) := by decide +kernel
theorem dX12_stands_37 : decode cX12_stands 37 = .ok (.iload_n 2, 1) := by decide +kernel
theorem dX12_stands_38 : decode cX12_stands 38 = .ok (.iload 4, 2) := by decide +kernel
theorem dX12_stands_40 : decode cX12_stands 40 = .ok (.invokestatic 280, 3) := by decide +kernel
theorem dX12_stands_43 : decode cX12_stands 43 = .ok (.invokevirtual 284, 3) := by decide +kernel
theorem dX12_stands_46 : decode cX12_stands 46 = .ok (.ifCond .eq 24, 3) := by decide +kernel
theorem dX12_stands_49 : decode cX12_stands 49 = .ok (.iload 4, 2) := by decide +kernel
theorem dX12_stands_51 : decode cX12_stands 51 = .ok (.ifCond .le 21, 3) := by decide +kernel
theorem dX12_stands_54 : decode cX12_stands 54 = .ok (.aload_n 0, 1) := by decide +kernel
theorem dX12_stands_55 : decode cX12_stands 55 = .ok (.iload_n 1, 1) := by decide +kernel
theorem dX12_stands_56 : decode cX12_stands 56 = .ok (.iconst 2, 1) := by decide +kernel
theorem dX12_stands_57 : decode cX12_stands 57 = .ok (.iload 4, 2) := by decide +kernel
theorem dX12_stands_59 : decode cX12_stands 59 = .ok (.imul, 1) := by decide +kernel
theorem dX12_stands_60 : decode cX12_stands 60 = .ok (.iadd, 1) := by decide +kernel
theorem dX12_stands_61 : decode cX12_stands 61 = .ok (.iconst 1, 1) := by decide +kernel
theorem dX12_stands_62 : decode cX12_stands 62 = .ok (.isub, 1) := by decide +kernel
theorem dX12_stands_63 : decode cX12_stands 63 = .ok (.iconst 2, 1) := by decide +kernel
theorem dX12_stands_64 : decode cX12_stands 64 = .ok (.invokevirtual 284, 3) := by decide +kernel
theorem dX12_stands_67 : decode cX12_stands 67 = .ok (.ifCond .ne 5, 3) := by decide +kernel
theorem dX12_stands_70 : decode cX12_stands 70 = .ok (.iconst 0, 1) := by decide +kernel
theorem dX12_stands_71 : decode cX12_stands 71 = .ok (.ireturn, 1) := by decide +kernel
theorem dX12_stands_72 : decode cX12_stands 72 = .ok (.iinc 4 1, 3) := by decide +kernel
theorem dX12_stands_75 : decode cX12_stands 75 = .ok (.goto (-51), 3) := by decide +kernel
theorem dX12_stands_78 : decode cX12_stands 78 = .ok (.iconst 1, 1) := by decide +kernel
theorem dX12_stands_79 : decode cX12_stands 79 = .ok (.ireturn, 1) := by decide +kernel
theorem dX12_costFrom_0 : decode cX12_costFrom 0 = .ok (.iconst 0, 1) := by decide +kernel
theorem dX12_costFrom_1 : decode cX12_costFrom 1 = .ok (.istore_n 3, 1) := by decide +kernel
theorem dX12_costFrom_2 : decode cX12_costFrom 2 = .ok (.iconst 0, 1) := by decide +kernel
theorem dX12_costFrom_3 : decode cX12_costFrom 3 = .ok (.istore 4, 2) := by decide +kernel
theorem dX12_costFrom_5 : decode cX12_costFrom 5 = .ok (.iload 4, 2) := by decide +kernel
theorem dX12_costFrom_7 : decode cX12_costFrom 7 = .ok (.iload_n 2, 1) := by decide +kernel
theorem dX12_costFrom_8 : decode cX12_costFrom 8 = .ok (.invokestatic 277, 3) := by decide +kernel
theorem dX12_costFrom_11 : decode cX12_costFrom 11 = .ok (.if_icmp .ge 51, 3) := by decide +kernel
theorem dX12_costFrom_14 : decode cX12_costFrom 14 = .ok (.iload_n 3, 1) := by decide +kernel
theorem dX12_costFrom_15 : decode cX12_costFrom 15 = .ok (.aload_n 0, 1) := by decide +kernel
theorem dX12_costFrom_16 : decode cX12_costFrom 16 = .ok (.iload_n 1, 1) := by decide +kernel
theorem dX12_costFrom_17 : decode cX12_costFrom 17 = .ok (.iconst 2, 1) := by decide +kernel
theorem dX12_costFrom_18 : decode cX12_costFrom 18 = .ok (.iload 4, 2) := by decide +kernel
theorem dX12_costFrom_20 : decode cX12_costFrom 20 = .ok (.imul, 1) := by decide +kernel
theorem dX12_costFrom_21 : decode cX12_costFrom 21 = .ok (.iadd, 1) := by decide +kernel
theorem dX12_costFrom_22 : decode cX12_costFrom 22 = .ok (.iload_n 2, 1) := by decide +kernel
theorem dX12_costFrom_23 : decode cX12_costFrom 23 = .ok (.iload 4, 2) := by decide +kernel
theorem dX12_costFrom_25 : decode cX12_costFrom 25 = .ok (.invokestatic 280, 3) := by decide +kernel
theorem dX12_costFrom_28 : decode cX12_costFrom 28 = .ok (.invokevirtual 288, 3) := by decide +kernel
theorem dX12_costFrom_31 : decode cX12_costFrom 31 = .ok (.iload 4, 2) := by decide +kernel
theorem dX12_costFrom_33 : decode cX12_costFrom 33 = .ok (.ifCond .le 19, 3) := by decide +kernel
theorem dX12_costFrom_36 : decode cX12_costFrom 36 = .ok (.aload_n 0, 1) := by decide +kernel
theorem dX12_costFrom_37 : decode cX12_costFrom 37 = .ok (.iload_n 1, 1) := by decide +kernel
theorem dX12_costFrom_38 : decode cX12_costFrom 38 = .ok (.iconst 2, 1) := by decide +kernel
theorem dX12_costFrom_39 : decode cX12_costFrom 39 = .ok (.iload 4, 2) := by decide +kernel
theorem dX12_costFrom_41 : decode cX12_costFrom 41 = .ok (.imul, 1) := by decide +kernel
theorem dX12_costFrom_42 : decode cX12_costFrom 42 = .ok (.iadd, 1) := by decide +kernel
theorem dX12_costFrom_43 : decode cX12_costFrom 43 = .ok (.iconst 1, 1) := by decide +kernel
theorem dX12_costFrom_44 : decode cX12_costFrom 44 = .ok (.isub, 1) := by decide +kernel
theorem dX12_costFrom_45 : decode cX12_costFrom 45 = .ok (.iconst 2, 1) := by decide +kernel
theorem dX12_costFrom_46 : decode cX12_costFrom 46 = .ok (.invokevirtual 288, 3) := by decide +kernel
theorem dX12_costFrom_49 : decode cX12_costFrom 49 = .ok (.goto 4, 3) := by decide +kernel
theorem dX12_costFrom_52 : decode cX12_costFrom 52 = .ok (.iconst 0, 1) := by decide +kernel
theorem dX12_costFrom_53 : decode cX12_costFrom 53 = .ok (.iadd, 1) := by decide +kernel
theorem dX12_costFrom_54 : decode cX12_costFrom 54 = .ok (.iadd, 1) := by decide +kernel
theorem dX12_costFrom_55 : decode cX12_costFrom 55 = .ok (.istore_n 3, 1) := by decide +kernel
theorem dX12_costFrom_56 : decode cX12_costFrom 56 = .ok (.iinc 4 1, 3) := by decide +kernel
theorem dX12_costFrom_59 : decode cX12_costFrom 59 = .ok (.goto (-54), 3) := by decide +kernel
theorem dX12_costFrom_62 : decode cX12_costFrom 62 = .ok (.iload_n 3, 1) := by decide +kernel
theorem dX12_costFrom_63 : decode cX12_costFrom 63 = .ok (.ireturn, 1) := by decide +kernel
theorem dX12_takes_0 : decode cX12_takes 0 = .ok (.aload_n 0, 1) := by decide +kernel
theorem dX12_takes_1 : decode cX12_takes 1 = .ok (.iload_n 1, 1) := by decide +kernel
theorem dX12_takes_2 : decode cX12_takes 2 = .ok (.invokevirtual 291, 3) := by decide +kernel
theorem dX12_takes_5 : decode cX12_takes 5 = .ok (.ifCond .eq 20, 3) := by decide +kernel
theorem dX12_takes_8 : decode cX12_takes 8 = .ok (.aload_n 0, 1) := by decide +kernel
theorem dX12_takes_9 : decode cX12_takes 9 = .ok (.iload_n 2, 1) := by decide +kernel
theorem dX12_takes_10 : decode cX12_takes 10 = .ok (.invokevirtual 251, 3) := by decide +kernel
theorem dX12_takes_13 : decode cX12_takes 13 = .ok (.ifCond .eq 12, 3) := by decide +kernel
theorem dX12_takes_16 : decode cX12_takes 16 = .ok (.aload_n 0, 1) := by decide +kernel
theorem dX12_takes_17 : decode cX12_takes 17 = .ok (.getfield 260, 3) := by decide +kernel
theorem dX12_takes_20 : decode cX12_takes 20 = .ok (.iconst 2, 1) := by decide +kernel
theorem dX12_takes_21 : decode cX12_takes 21 = .ok (.irem, 1) := by decide +kernel
theorem dX12_takes_22 : decode cX12_takes 22 = .ok (.ifCond .ne 5, 3) := by decide +kernel
theorem dX12_takes_25 : decode cX12_takes 25 = .ok (.iconst 0, 1) := by decide +kernel
theorem dX12_takes_26 : decode cX12_takes 26 = .ok (.ireturn, 1) := by decide +kernel
theorem dX12_takes_27 : decode cX12_takes 27 = .ok (.aload_n 0, 1) := by decide +kernel
theorem dX12_takes_28 : decode cX12_takes 28 = .ok (.iload_n 1, 1) := by decide +kernel
theorem dX12_takes_29 : decode cX12_takes 29 = .ok (.putfield 269, 3) := by decide +kernel
theorem dX12_takes_32 : decode cX12_takes 32 = .ok (.aload_n 0, 1) := by decide +kernel
theorem dX12_takes_33 : decode cX12_takes 33 = .ok (.aload_n 0, 1) := by decide +kernel
theorem dX12_takes_34 : decode cX12_takes 34 = .ok (.iload_n 2, 1) := by decide +kernel
theorem dX12_takes_35 : decode cX12_takes 35 = .ok (.invokevirtual 254, 3) := by decide +kernel
theorem dX12_takes_38 : decode cX12_takes 38 = .ok (.putfield 263, 3) := by decide +kernel
theorem dX12_takes_41 : decode cX12_takes 41 = .ok (.iconst 1, 1) := by decide +kernel
theorem dX12_takes_42 : decode cX12_takes 42 = .ok (.ireturn, 1) := by decide +kernel
theorem dX12_readings_0 : decode cX12_readings 0 = .ok (.aload_n 0, 1) := by decide +kernel
theorem dX12_readings_1 : decode cX12_readings 1 = .ok (.iload_n 1, 1) := by decide +kernel
theorem dX12_readings_2 : decode cX12_readings 2 = .ok (.iload_n 2, 1) := by decide +kernel
theorem dX12_readings_3 : decode cX12_readings 3 = .ok (.invokevirtual 294, 3) := by decide +kernel
theorem dX12_readings_6 : decode cX12_readings 6 = .ok (.ifCond .ne 5, 3) := by decide +kernel
theorem dX12_readings_9 : decode cX12_readings 9 = .ok (.iconst (-1), 1) := by decide +kernel
theorem dX12_readings_10 : decode cX12_readings 10 = .ok (.ireturn, 1) := by decide +kernel
theorem dX12_readings_11 : decode cX12_readings 11 = .ok (.aload_n 0, 1) := by decide +kernel
theorem dX12_readings_12 : decode cX12_readings 12 = .ok (.getfield 260, 3) := by decide +kernel
theorem dX12_readings_15 : decode cX12_readings 15 = .ok (.iconst 1, 1) := by decide +kernel
theorem dX12_readings_16 : decode cX12_readings 16 = .ok (.isub, 1) := by decide +kernel
theorem dX12_readings_17 : decode cX12_readings 17 = .ok (.istore_n 3, 1) := by decide +kernel
theorem dX12_readings_18 : decode cX12_readings 18 = .ok (.iload_n 3, 1) := by decide +kernel
theorem dX12_readings_19 : decode cX12_readings 19 = .ok (.ifCond .lt 168, 3) := by decide +kernel
theorem dX12_readings_22 : decode cX12_readings 22 = .ok (.aload_n 0, 1) := by decide +kernel
theorem dX12_readings_23 : decode cX12_readings 23 = .ok (.getfield 66, 3) := by decide +kernel
theorem dX12_readings_26 : decode cX12_readings 26 = .ok (.iload_n 3, 1) := by decide +kernel
theorem dX12_readings_27 : decode cX12_readings 27 = .ok (.iconst 0, 1) := by decide +kernel
theorem dX12_readings_28 : decode cX12_readings 28 = .ok (.iastore, 1) := by decide +kernel
theorem dX12_readings_29 : decode cX12_readings 29 = .ok (.iconst 0, 1) := by decide +kernel
theorem dX12_readings_30 : decode cX12_readings 30 = .ok (.istore 4, 2) := by decide +kernel
theorem dX12_readings_32 : decode cX12_readings 32 = .ok (.iload 4, 2) := by decide +kernel
theorem dX12_readings_34 : decode cX12_readings 34 = .ok (.bipush 26, 2) := by decide +kernel
theorem dX12_readings_36 : decode cX12_readings 36 = .ok (.if_icmp .ge 127, 3) := by decide +kernel
theorem dX12_readings_39 : decode cX12_readings 39 = .ok (.aload_n 0, 1) := by decide +kernel
theorem dX12_readings_40 : decode cX12_readings 40 = .ok (.getfield 15, 3) := by decide +kernel
theorem dX12_readings_43 : decode cX12_readings 43 = .ok (.iconst 0, 1) := by decide +kernel
theorem dX12_readings_44 : decode cX12_readings 44 = .ok (.aaload, 1) := by decide +kernel
theorem dX12_readings_45 : decode cX12_readings 45 = .ok (.iload 4, 2) := by decide +kernel
theorem dX12_readings_47 : decode cX12_readings 47 = .ok (.iaload, 1) := by decide +kernel
theorem dX12_readings_48 : decode cX12_readings 48 = .ok (.istore 5, 2) := by decide +kernel
theorem dX12_readings_50 : decode cX12_readings 50 = .ok (.iload 5, 2) := by decide +kernel
theorem dX12_readings_52 : decode cX12_readings 52 = .ok (.ifCond .eq 105, 3) := by decide +kernel
theorem dX12_readings_55 : decode cX12_readings 55 = .ok (.aload_n 0, 1) := by decide +kernel
theorem dX12_readings_56 : decode cX12_readings 56 = .ok (.iload_n 3, 1) := by decide +kernel
theorem dX12_readings_57 : decode cX12_readings 57 = .ok (.iload 5, 2) := by decide +kernel
theorem dX12_readings_59 : decode cX12_readings 59 = .ok (.invokevirtual 297, 3) := by decide +kernel
theorem dX12_readings_62 : decode cX12_readings 62 = .ok (.ifCond .ne 6, 3) := by decide +kernel
theorem dX12_readings_65 : decode cX12_readings 65 = .ok (.goto 92, 3) := by decide +kernel
theorem dX12_readings_68 : decode cX12_readings 68 = .ok (.iload_n 3, 1) := by decide +kernel
theorem dX12_readings_69 : decode cX12_readings 69 = .ok (.iconst 2, 1) := by decide +kernel
theorem dX12_readings_70 : decode cX12_readings 70 = .ok (.iload 5, 2) := by decide +kernel
theorem dX12_readings_72 : decode cX12_readings 72 = .ok (.invokestatic 277, 3) := by decide +kernel
theorem dX12_readings_75 : decode cX12_readings 75 = .ok (.imul, 1) := by decide +kernel
theorem dX12_readings_76 : decode cX12_readings 76 = .ok (.iadd, 1) := by decide +kernel
theorem dX12_readings_77 : decode cX12_readings 77 = .ok (.iconst 1, 1) := by decide +kernel
theorem dX12_readings_78 : decode cX12_readings 78 = .ok (.isub, 1) := by decide +kernel
theorem dX12_readings_79 : decode cX12_readings 79 = .ok (.istore 6, 2) := by decide +kernel
theorem dX12_readings_81 : decode cX12_readings 81 = .ok (.iload 6, 2) := by decide +kernel
theorem dX12_readings_83 : decode cX12_readings 83 = .ok (.aload_n 0, 1) := by decide +kernel
theorem dX12_readings_84 : decode cX12_readings 84 = .ok (.getfield 260, 3) := by decide +kernel
theorem dX12_readings_87 : decode cX12_readings 87 = .ok (.if_icmp .ne 16, 3) := by decide +kernel
theorem dX12_readings_90 : decode cX12_readings 90 = .ok (.aload_n 0, 1) := by decide +kernel
theorem dX12_readings_91 : decode cX12_readings 91 = .ok (.getfield 66, 3) := by decide +kernel
theorem dX12_readings_94 : decode cX12_readings 94 = .ok (.iload_n 3, 1) := by decide +kernel
theorem dX12_readings_95 : decode cX12_readings 95 = .ok (.dup2, 1) := by decide +kernel
theorem dX12_readings_96 : decode cX12_readings 96 = .ok (.iaload, 1) := by decide +kernel
theorem dX12_readings_97 : decode cX12_readings 97 = .ok (.iconst 1, 1) := by decide +kernel
theorem dX12_readings_98 : decode cX12_readings 98 = .ok (.iadd, 1) := by decide +kernel
theorem dX12_readings_99 : decode cX12_readings 99 = .ok (.iastore, 1) := by decide +kernel
theorem dX12_readings_100 : decode cX12_readings 100 = .ok (.goto 57, 3) := by decide +kernel
theorem dX12_readings_103 : decode cX12_readings 103 = .ok (.iconst 3, 1) := by decide +kernel
theorem dX12_readings_104 : decode cX12_readings 104 = .ok (.istore 7, 2) := by decide +kernel
theorem dX12_readings_106 : decode cX12_readings 106 = .ok (.iload 7, 2) := by decide +kernel
theorem dX12_readings_108 : decode cX12_readings 108 = .ok (.iconst 4, 1) := by decide +kernel
theorem dX12_readings_109 : decode cX12_readings 109 = .ok (.if_icmp .gt 48, 3) := by decide +kernel
theorem dX12_readings_112 : decode cX12_readings 112 = .ok (.aload_n 0, 1) := by decide +kernel
theorem dX12_readings_113 : decode cX12_readings 113 = .ok (.iload 6, 2) := by decide +kernel
theorem dX12_readings_115 : decode cX12_readings 115 = .ok (.iload 7, 2) := by decide +kernel
theorem dX12_readings_117 : decode cX12_readings 117 = .ok (.invokevirtual 284, 3) := by decide +kernel
theorem dX12_readings_120 : decode cX12_readings 120 = .ok (.ifCond .eq 31, 3) := by decide +kernel
theorem dX12_readings_123 : decode cX12_readings 123 = .ok (.aload_n 0, 1) := by decide +kernel
theorem dX12_readings_124 : decode cX12_readings 124 = .ok (.getfield 66, 3) := by decide +kernel
theorem dX12_readings_127 : decode cX12_readings 127 = .ok (.iload_n 3, 1) := by decide +kernel
theorem dX12_readings_128 : decode cX12_readings 128 = .ok (.ldc_w 300, 3) := by decide +kernel
theorem dX12_readings_131 : decode cX12_readings 131 = .ok (.aload_n 0, 1) := by decide +kernel
theorem dX12_readings_132 : decode cX12_readings 132 = .ok (.getfield 66, 3) := by decide +kernel
theorem dX12_readings_135 : decode cX12_readings 135 = .ok (.iload_n 3, 1) := by decide +kernel
theorem dX12_readings_136 : decode cX12_readings 136 = .ok (.iaload, 1) := by decide +kernel
theorem dX12_readings_137 : decode cX12_readings 137 = .ok (.aload_n 0, 1) := by decide +kernel
theorem dX12_readings_138 : decode cX12_readings 138 = .ok (.getfield 66, 3) := by decide +kernel
theorem dX12_readings_141 : decode cX12_readings 141 = .ok (.iload 6, 2) := by decide +kernel
theorem dX12_readings_143 : decode cX12_readings 143 = .ok (.iconst 1, 1) := by decide +kernel
theorem dX12_readings_144 : decode cX12_readings 144 = .ok (.iadd, 1) := by decide +kernel
theorem dX12_readings_145 : decode cX12_readings 145 = .ok (.iaload, 1) := by decide +kernel
theorem dX12_readings_146 : decode cX12_readings 146 = .ok (.iadd, 1) := by decide +kernel
theorem dX12_readings_147 : decode cX12_readings 147 = .ok (.invokestatic 301, 3) := by decide +kernel
theorem dX12_readings_150 : decode cX12_readings 150 = .ok (.iastore, 1) := by decide +kernel
theorem dX12_readings_151 : decode cX12_readings 151 = .ok (.iinc 7 1, 3) := by decide +kernel
theorem dX12_readings_154 : decode cX12_readings 154 = .ok (.goto (-48), 3) := by decide +kernel
theorem dX12_readings_157 : decode cX12_readings 157 = .ok (.iinc 4 1, 3) := by decide +kernel
theorem dX12_readings_160 : decode cX12_readings 160 = .ok (.goto (-128), 3) := by decide +kernel
theorem dX12_readings_163 : decode cX12_readings 163 = .ok (.aload_n 0, 1) := by decide +kernel
theorem dX12_readings_164 : decode cX12_readings 164 = .ok (.getfield 66, 3) := by decide +kernel
theorem dX12_readings_167 : decode cX12_readings 167 = .ok (.iload_n 3, 1) := by decide +kernel
theorem dX12_readings_168 : decode cX12_readings 168 = .ok (.ldc_w 300, 3) := by decide +kernel
theorem dX12_readings_171 : decode cX12_readings 171 = .ok (.aload_n 0, 1) := by decide +kernel
theorem dX12_readings_172 : decode cX12_readings 172 = .ok (.getfield 66, 3) := by decide +kernel
theorem dX12_readings_175 : decode cX12_readings 175 = .ok (.iload_n 3, 1) := by decide +kernel
theorem dX12_readings_176 : decode cX12_readings 176 = .ok (.iaload, 1) := by decide +kernel
theorem dX12_readings_177 : decode cX12_readings 177 = .ok (.invokestatic 301, 3) := by decide +kernel
theorem dX12_readings_180 : decode cX12_readings 180 = .ok (.iastore, 1) := by decide +kernel
theorem dX12_readings_181 : decode cX12_readings 181 = .ok (.iinc 3 (-2), 3) := by decide +kernel
theorem dX12_readings_184 : decode cX12_readings 184 = .ok (.goto (-166), 3) := by decide +kernel
theorem dX12_readings_187 : decode cX12_readings 187 = .ok (.aload_n 0, 1) := by decide +kernel
theorem dX12_readings_188 : decode cX12_readings 188 = .ok (.getfield 66, 3) := by decide +kernel
theorem dX12_readings_191 : decode cX12_readings 191 = .ok (.iconst 0, 1) := by decide +kernel
theorem dX12_readings_192 : decode cX12_readings 192 = .ok (.iaload, 1) := by decide +kernel
theorem dX12_readings_193 : decode cX12_readings 193 = .ok (.ireturn, 1) := by decide +kernel
theorem dX12_whole_0 : decode cX12_whole 0 = .ok (.aload_n 0, 1) := by decide +kernel
theorem dX12_whole_1 : decode cX12_whole 1 = .ok (.getfield 15, 3) := by decide +kernel
theorem dX12_whole_4 : decode cX12_whole 4 = .ok (.iconst 0, 1) := by decide +kernel
theorem dX12_whole_5 : decode cX12_whole 5 = .ok (.aaload, 1) := by decide +kernel
theorem dX12_whole_6 : decode cX12_whole 6 = .ok (.iload_n 2, 1) := by decide +kernel
theorem dX12_whole_7 : decode cX12_whole 7 = .ok (.iaload, 1) := by decide +kernel
theorem dX12_whole_8 : decode cX12_whole 8 = .ok (.istore 4, 2) := by decide +kernel
theorem dX12_whole_10 : decode cX12_whole 10 = .ok (.iload 4, 2) := by decide +kernel
theorem dX12_whole_12 : decode cX12_whole 12 = .ok (.ifCond .eq 13, 3) := by decide +kernel
theorem dX12_whole_15 : decode cX12_whole 15 = .ok (.aload_n 0, 1) := by decide +kernel
theorem dX12_whole_16 : decode cX12_whole 16 = .ok (.iload_n 1, 1) := by decide +kernel
theorem dX12_whole_17 : decode cX12_whole 17 = .ok (.iload 4, 2) := by decide +kernel
theorem dX12_whole_19 : decode cX12_whole 19 = .ok (.invokevirtual 297, 3) := by decide +kernel
theorem dX12_whole_22 : decode cX12_whole 22 = .ok (.ifCond .ne 5, 3) := by decide +kernel
theorem dX12_whole_25 : decode cX12_whole 25 = .ok (.iconst (-1), 1) := by decide +kernel
theorem dX12_whole_26 : decode cX12_whole 26 = .ok (.ireturn, 1) := by decide +kernel
theorem dX12_whole_27 : decode cX12_whole 27 = .ok (.iload_n 1, 1) := by decide +kernel
theorem dX12_whole_28 : decode cX12_whole 28 = .ok (.iconst 2, 1) := by decide +kernel
theorem dX12_whole_29 : decode cX12_whole 29 = .ok (.iload 4, 2) := by decide +kernel
theorem dX12_whole_31 : decode cX12_whole 31 = .ok (.invokestatic 277, 3) := by decide +kernel
theorem dX12_whole_34 : decode cX12_whole 34 = .ok (.imul, 1) := by decide +kernel
theorem dX12_whole_35 : decode cX12_whole 35 = .ok (.iadd, 1) := by decide +kernel
theorem dX12_whole_36 : decode cX12_whole 36 = .ok (.iconst 1, 1) := by decide +kernel
theorem dX12_whole_37 : decode cX12_whole 37 = .ok (.isub, 1) := by decide +kernel
theorem dX12_whole_38 : decode cX12_whole 38 = .ok (.istore 5, 2) := by decide +kernel
theorem dX12_whole_40 : decode cX12_whole 40 = .ok (.iload 5, 2) := by decide +kernel
theorem dX12_whole_42 : decode cX12_whole 42 = .ok (.aload_n 0, 1) := by decide +kernel
theorem dX12_whole_43 : decode cX12_whole 43 = .ok (.getfield 260, 3) := by decide +kernel
theorem dX12_whole_46 : decode cX12_whole 46 = .ok (.if_icmp .ne 20, 3) := by decide +kernel
theorem dX12_whole_49 : decode cX12_whole 49 = .ok (.iload_n 3, 1) := by decide +kernel
theorem dX12_whole_50 : decode cX12_whole 50 = .ok (.iconst 3, 1) := by decide +kernel
theorem dX12_whole_51 : decode cX12_whole 51 = .ok (.if_icmp .ne 13, 3) := by decide +kernel
theorem dX12_whole_54 : decode cX12_whole 54 = .ok (.aload_n 0, 1) := by decide +kernel
theorem dX12_whole_55 : decode cX12_whole 55 = .ok (.iload_n 1, 1) := by decide +kernel
theorem dX12_whole_56 : decode cX12_whole 56 = .ok (.iload 4, 2) := by decide +kernel
theorem dX12_whole_58 : decode cX12_whole 58 = .ok (.invokevirtual 304, 3) := by decide +kernel
theorem dX12_whole_61 : decode cX12_whole 61 = .ok (.goto 4, 3) := by decide +kernel
theorem dX12_whole_64 : decode cX12_whole 64 = .ok (.iconst (-1), 1) := by decide +kernel
theorem dX12_whole_65 : decode cX12_whole 65 = .ok (.ireturn, 1) := by decide +kernel
theorem dX12_whole_66 : decode cX12_whole 66 = .ok (.aload_n 0, 1) := by decide +kernel
theorem dX12_whole_67 : decode cX12_whole 67 = .ok (.iload 5, 2) := by decide +kernel
theorem dX12_whole_69 : decode cX12_whole 69 = .ok (.iload_n 3, 1) := by decide +kernel
theorem dX12_whole_70 : decode cX12_whole 70 = .ok (.invokevirtual 284, 3) := by decide +kernel
theorem dX12_whole_73 : decode cX12_whole 73 = .ok (.ifCond .eq 16, 3) := by decide +kernel
theorem dX12_whole_76 : decode cX12_whole 76 = .ok (.aload_n 0, 1) := by decide +kernel
theorem dX12_whole_77 : decode cX12_whole 77 = .ok (.getfield 69, 3) := by decide +kernel
theorem dX12_whole_80 : decode cX12_whole 80 = .ok (.iload 5, 2) := by decide +kernel
theorem dX12_whole_82 : decode cX12_whole 82 = .ok (.iconst 1, 1) := by decide +kernel
theorem dX12_whole_83 : decode cX12_whole 83 = .ok (.iadd, 1) := by decide +kernel
theorem dX12_whole_84 : decode cX12_whole 84 = .ok (.iaload, 1) := by decide +kernel
theorem dX12_whole_85 : decode cX12_whole 85 = .ok (.iconst (-1), 1) := by decide +kernel
theorem dX12_whole_86 : decode cX12_whole 86 = .ok (.if_icmp .ne 5, 3) := by decide +kernel
theorem dX12_whole_89 : decode cX12_whole 89 = .ok (.iconst (-1), 1) := by decide +kernel
theorem dX12_whole_90 : decode cX12_whole 90 = .ok (.ireturn, 1) := by decide +kernel
theorem dX12_whole_91 : decode cX12_whole 91 = .ok (.aload_n 0, 1) := by decide +kernel
theorem dX12_whole_92 : decode cX12_whole 92 = .ok (.iload_n 1, 1) := by decide +kernel
theorem dX12_whole_93 : decode cX12_whole 93 = .ok (.iload 4, 2) := by decide +kernel
theorem dX12_whole_95 : decode cX12_whole 95 = .ok (.invokevirtual 304, 3) := by decide +kernel
theorem dX12_whole_98 : decode cX12_whole 98 = .ok (.aload_n 0, 1) := by decide +kernel
theorem dX12_whole_99 : decode cX12_whole 99 = .ok (.iload 5, 2) := by decide +kernel
theorem dX12_whole_101 : decode cX12_whole 101 = .ok (.iload_n 3, 1) := by decide +kernel
theorem dX12_whole_102 : decode cX12_whole 102 = .ok (.invokevirtual 288, 3) := by decide +kernel
theorem dX12_whole_105 : decode cX12_whole 105 = .ok (.iadd, 1) := by decide +kernel
theorem dX12_whole_106 : decode cX12_whole 106 = .ok (.aload_n 0, 1) := by decide +kernel
theorem dX12_whole_107 : decode cX12_whole 107 = .ok (.getfield 69, 3) := by decide +kernel
theorem dX12_whole_110 : decode cX12_whole 110 = .ok (.iload 5, 2) := by decide +kernel
theorem dX12_whole_112 : decode cX12_whole 112 = .ok (.iconst 1, 1) := by decide +kernel
theorem dX12_whole_113 : decode cX12_whole 113 = .ok (.iadd, 1) := by decide +kernel
theorem dX12_whole_114 : decode cX12_whole 114 = .ok (.iaload, 1) := by decide +kernel
theorem dX12_whole_115 : decode cX12_whole 115 = .ok (.iadd, 1) := by decide +kernel
theorem dX12_whole_116 : decode cX12_whole 116 = .ok (.ireturn, 1) := by decide +kernel
theorem dX12_nearest_0 : decode cX12_nearest 0 = .ok (.aload_n 0, 1) := by decide +kernel
theorem dX12_nearest_1 : decode cX12_nearest 1 = .ok (.iload_n 1, 1) := by decide +kernel
theorem dX12_nearest_2 : decode cX12_nearest 2 = .ok (.iload_n 2, 1) := by decide +kernel
theorem dX12_nearest_3 : decode cX12_nearest 3 = .ok (.invokevirtual 294, 3) := by decide +kernel
theorem dX12_nearest_6 : decode cX12_nearest 6 = .ok (.ifCond .ne 5, 3) := by decide +kernel
theorem dX12_nearest_9 : decode cX12_nearest 9 = .ok (.iconst (-1), 1) := by decide +kernel
theorem dX12_nearest_10 : decode cX12_nearest 10 = .ok (.ireturn, 1) := by decide +kernel
theorem dX12_nearest_11 : decode cX12_nearest 11 = .ok (.aload_n 0, 1) := by decide +kernel
theorem dX12_nearest_12 : decode cX12_nearest 12 = .ok (.getfield 260, 3) := by decide +kernel
theorem dX12_nearest_15 : decode cX12_nearest 15 = .ok (.iconst 1, 1) := by decide +kernel
theorem dX12_nearest_16 : decode cX12_nearest 16 = .ok (.isub, 1) := by decide +kernel
theorem dX12_nearest_17 : decode cX12_nearest 17 = .ok (.istore 4, 2) := by decide +kernel
theorem dX12_nearest_19 : decode cX12_nearest 19 = .ok (.iload 4, 2) := by decide +kernel
theorem dX12_nearest_21 : decode cX12_nearest 21 = .ok (.ifCond .lt 98, 3) := by decide +kernel
theorem dX12_nearest_24 : decode cX12_nearest 24 = .ok (.aload_n 0, 1) := by decide +kernel
theorem dX12_nearest_25 : decode cX12_nearest 25 = .ok (.getfield 69, 3) := by decide +kernel
theorem dX12_nearest_28 : decode cX12_nearest 28 = .ok (.iload 4, 2) := by decide +kernel
theorem dX12_nearest_30 : decode cX12_nearest 30 = .ok (.iconst (-1), 1) := by decide +kernel
theorem dX12_nearest_31 : decode cX12_nearest 31 = .ok (.iastore, 1) := by decide +kernel
theorem dX12_nearest_32 : decode cX12_nearest 32 = .ok (.iconst 0, 1) := by decide +kernel
theorem dX12_nearest_33 : decode cX12_nearest 33 = .ok (.istore 5, 2) := by decide +kernel
theorem dX12_nearest_35 : decode cX12_nearest 35 = .ok (.iload 5, 2) := by decide +kernel
theorem dX12_nearest_37 : decode cX12_nearest 37 = .ok (.bipush 26, 2) := by decide +kernel
theorem dX12_nearest_39 : decode cX12_nearest 39 = .ok (.if_icmp .ge 74, 3) := by decide +kernel
theorem dX12_nearest_42 : decode cX12_nearest 42 = .ok (.iconst 3, 1) := by decide +kernel
theorem dX12_nearest_43 : decode cX12_nearest 43 = .ok (.istore 6, 2) := by decide +kernel
theorem dX12_nearest_45 : decode cX12_nearest 45 = .ok (.iload 6, 2) := by decide +kernel
theorem dX12_nearest_47 : decode cX12_nearest 47 = .ok (.iconst 4, 1) := by decide +kernel
theorem dX12_nearest_48 : decode cX12_nearest 48 = .ok (.if_icmp .gt 59, 3) := by decide +kernel
theorem dX12_nearest_51 : decode cX12_nearest 51 = .ok (.aload_n 0, 1) := by decide +kernel
theorem dX12_nearest_52 : decode cX12_nearest 52 = .ok (.iload 4, 2) := by decide +kernel
theorem dX12_nearest_54 : decode cX12_nearest 54 = .ok (.iload 5, 2) := by decide +kernel
theorem dX12_nearest_56 : decode cX12_nearest 56 = .ok (.iload 6, 2) := by decide +kernel
theorem dX12_nearest_58 : decode cX12_nearest 58 = .ok (.invokevirtual 307, 3) := by decide +kernel
theorem dX12_nearest_61 : decode cX12_nearest 61 = .ok (.istore 7, 2) := by decide +kernel
theorem dX12_nearest_63 : decode cX12_nearest 63 = .ok (.iload 7, 2) := by decide +kernel
theorem dX12_nearest_65 : decode cX12_nearest 65 = .ok (.iconst (-1), 1) := by decide +kernel
theorem dX12_nearest_66 : decode cX12_nearest 66 = .ok (.if_icmp .eq 35, 3) := by decide +kernel
theorem dX12_nearest_69 : decode cX12_nearest 69 = .ok (.aload_n 0, 1) := by decide +kernel
theorem dX12_nearest_70 : decode cX12_nearest 70 = .ok (.getfield 69, 3) := by decide +kernel
theorem dX12_nearest_73 : decode cX12_nearest 73 = .ok (.iload 4, 2) := by decide +kernel
theorem dX12_nearest_75 : decode cX12_nearest 75 = .ok (.iaload, 1) := by decide +kernel
theorem dX12_nearest_76 : decode cX12_nearest 76 = .ok (.iconst (-1), 1) := by decide +kernel
theorem dX12_nearest_77 : decode cX12_nearest 77 = .ok (.if_icmp .eq 15, 3) := by decide +kernel
theorem dX12_nearest_80 : decode cX12_nearest 80 = .ok (.iload 7, 2) := by decide +kernel
theorem dX12_nearest_82 : decode cX12_nearest 82 = .ok (.aload_n 0, 1) := by decide +kernel
theorem dX12_nearest_83 : decode cX12_nearest 83 = .ok (.getfield 69, 3) := by decide +kernel
theorem dX12_nearest_86 : decode cX12_nearest 86 = .ok (.iload 4, 2) := by decide +kernel
theorem dX12_nearest_88 : decode cX12_nearest 88 = .ok (.iaload, 1) := by decide +kernel
theorem dX12_nearest_89 : decode cX12_nearest 89 = .ok (.if_icmp .ge 12, 3) := by decide +kernel
theorem dX12_nearest_92 : decode cX12_nearest 92 = .ok (.aload_n 0, 1) := by decide +kernel
theorem dX12_nearest_93 : decode cX12_nearest 93 = .ok (.getfield 69, 3) := by decide +kernel
theorem dX12_nearest_96 : decode cX12_nearest 96 = .ok (.iload 4, 2) := by decide +kernel
theorem dX12_nearest_98 : decode cX12_nearest 98 = .ok (.iload 7, 2) := by decide +kernel
theorem dX12_nearest_100 : decode cX12_nearest 100 = .ok (.iastore, 1) := by decide +kernel
theorem dX12_nearest_101 : decode cX12_nearest 101 = .ok (.iinc 6 1, 3) := by decide +kernel
theorem dX12_nearest_104 : decode cX12_nearest 104 = .ok (.goto (-59), 3) := by decide +kernel
theorem dX12_nearest_107 : decode cX12_nearest 107 = .ok (.iinc 5 1, 3) := by decide +kernel
theorem dX12_nearest_110 : decode cX12_nearest 110 = .ok (.goto (-75), 3) := by decide +kernel
theorem dX12_nearest_113 : decode cX12_nearest 113 = .ok (.iinc 4 (-2), 3) := by decide +kernel
theorem dX12_nearest_116 : decode cX12_nearest 116 = .ok (.goto (-97), 3) := by decide +kernel
theorem dX12_nearest_119 : decode cX12_nearest 119 = .ok (.aload_n 0, 1) := by decide +kernel
theorem dX12_nearest_120 : decode cX12_nearest 120 = .ok (.getfield 69, 3) := by decide +kernel
theorem dX12_nearest_123 : decode cX12_nearest 123 = .ok (.iconst 0, 1) := by decide +kernel
theorem dX12_nearest_124 : decode cX12_nearest 124 = .ok (.iaload, 1) := by decide +kernel
theorem dX12_nearest_125 : decode cX12_nearest 125 = .ok (.iconst (-1), 1) := by decide +kernel
theorem dX12_nearest_126 : decode cX12_nearest 126 = .ok (.if_icmp .ne 5, 3) := by decide +kernel
theorem dX12_nearest_129 : decode cX12_nearest 129 = .ok (.iconst (-1), 1) := by decide +kernel
theorem dX12_nearest_130 : decode cX12_nearest 130 = .ok (.ireturn, 1) := by decide +kernel
theorem dX12_nearest_131 : decode cX12_nearest 131 = .ok (.iload_n 3, 1) := by decide +kernel
theorem dX12_nearest_132 : decode cX12_nearest 132 = .ok (.bipush (-2), 2) := by decide +kernel
theorem dX12_nearest_134 : decode cX12_nearest 134 = .ok (.if_icmp .ne 10, 3) := by decide +kernel
theorem dX12_nearest_137 : decode cX12_nearest 137 = .ok (.aload_n 0, 1) := by decide +kernel
theorem dX12_nearest_138 : decode cX12_nearest 138 = .ok (.getfield 69, 3) := by decide +kernel
theorem dX12_nearest_141 : decode cX12_nearest 141 = .ok (.iconst 0, 1) := by decide +kernel
theorem dX12_nearest_142 : decode cX12_nearest 142 = .ok (.iaload, 1) := by decide +kernel
theorem dX12_nearest_143 : decode cX12_nearest 143 = .ok (.ireturn, 1) := by decide +kernel
theorem dX12_nearest_144 : decode cX12_nearest 144 = .ok (.iconst 0, 1) := by decide +kernel
theorem dX12_nearest_145 : decode cX12_nearest 145 = .ok (.istore 4, 2) := by decide +kernel
theorem dX12_nearest_147 : decode cX12_nearest 147 = .ok (.iconst 0, 1) := by decide +kernel
theorem dX12_nearest_148 : decode cX12_nearest 148 = .ok (.istore 5, 2) := by decide +kernel
theorem dX12_nearest_150 : decode cX12_nearest 150 = .ok (.iload 5, 2) := by decide +kernel
theorem dX12_nearest_152 : decode cX12_nearest 152 = .ok (.aload_n 0, 1) := by decide +kernel
theorem dX12_nearest_153 : decode cX12_nearest 153 = .ok (.getfield 260, 3) := by decide +kernel
theorem dX12_nearest_156 : decode cX12_nearest 156 = .ok (.if_icmp .ge 118, 3) := by decide +kernel
theorem dX12_nearest_159 : decode cX12_nearest 159 = .ok (.iconst 0, 1) := by decide +kernel
theorem dX12_nearest_160 : decode cX12_nearest 160 = .ok (.istore 6, 2) := by decide +kernel
theorem dX12_nearest_162 : decode cX12_nearest 162 = .ok (.iconst 3, 1) := by decide +kernel
theorem dX12_nearest_163 : decode cX12_nearest 163 = .ok (.istore 7, 2) := by decide +kernel
theorem dX12_nearest_165 : decode cX12_nearest 165 = .ok (.aload_n 0, 1) := by decide +kernel
theorem dX12_nearest_166 : decode cX12_nearest 166 = .ok (.iload 5, 2) := by decide +kernel
theorem dX12_nearest_168 : decode cX12_nearest 168 = .ok (.iload 6, 2) := by decide +kernel
theorem dX12_nearest_170 : decode cX12_nearest 170 = .ok (.iload 7, 2) := by decide +kernel
theorem dX12_nearest_172 : decode cX12_nearest 172 = .ok (.invokevirtual 307, 3) := by decide +kernel
theorem dX12_nearest_175 : decode cX12_nearest 175 = .ok (.aload_n 0, 1) := by decide +kernel
theorem dX12_nearest_176 : decode cX12_nearest 176 = .ok (.getfield 69, 3) := by decide +kernel
theorem dX12_nearest_179 : decode cX12_nearest 179 = .ok (.iload 5, 2) := by decide +kernel
theorem dX12_nearest_181 : decode cX12_nearest 181 = .ok (.iaload, 1) := by decide +kernel
theorem dX12_nearest_182 : decode cX12_nearest 182 = .ok (.if_icmp .eq 36, 3) := by decide +kernel
theorem dX12_nearest_185 : decode cX12_nearest 185 = .ok (.iload 7, 2) := by decide +kernel
theorem dX12_nearest_187 : decode cX12_nearest 187 = .ok (.iconst 4, 1) := by decide +kernel
theorem dX12_nearest_188 : decode cX12_nearest 188 = .ok (.if_icmp .ne 10, 3) := by decide +kernel
theorem dX12_nearest_191 : decode cX12_nearest 191 = .ok (.iload 6, 2) := by decide +kernel
theorem dX12_nearest_193 : decode cX12_nearest 193 = .ok (.iconst 1, 1) := by decide +kernel
theorem dX12_nearest_194 : decode cX12_nearest 194 = .ok (.iadd, 1) := by decide +kernel
theorem dX12_nearest_195 : decode cX12_nearest 195 = .ok (.goto 5, 3) := by decide +kernel
theorem dX12_nearest_198 : decode cX12_nearest 198 = .ok (.iload 6, 2) := by decide +kernel
theorem dX12_nearest_200 : decode cX12_nearest 200 = .ok (.istore 6, 2) := by decide +kernel
theorem dX12_nearest_202 : decode cX12_nearest 202 = .ok (.iload 7, 2) := by decide +kernel
theorem dX12_nearest_204 : decode cX12_nearest 204 = .ok (.iconst 4, 1) := by decide +kernel
theorem dX12_nearest_205 : decode cX12_nearest 205 = .ok (.if_icmp .ne 7, 3) := by decide +kernel
theorem dX12_nearest_208 : decode cX12_nearest 208 = .ok (.iconst 3, 1) := by decide +kernel
theorem dX12_nearest_209 : decode cX12_nearest 209 = .ok (.goto 4, 3) := by decide +kernel
theorem dX12_nearest_212 : decode cX12_nearest 212 = .ok (.iconst 4, 1) := by decide +kernel
theorem dX12_nearest_213 : decode cX12_nearest 213 = .ok (.istore 7, 2) := by decide +kernel
theorem dX12_nearest_215 : decode cX12_nearest 215 = .ok (.goto (-50), 3) := by decide +kernel
theorem dX12_nearest_218 : decode cX12_nearest 218 = .ok (.aload_n 0, 1) := by decide +kernel
theorem dX12_nearest_219 : decode cX12_nearest 219 = .ok (.getfield 72, 3) := by decide +kernel
theorem dX12_nearest_222 : decode cX12_nearest 222 = .ok (.iload 4, 2) := by decide +kernel
theorem dX12_nearest_224 : decode cX12_nearest 224 = .ok (.bipush 97, 2) := by decide +kernel
theorem dX12_nearest_226 : decode cX12_nearest 226 = .ok (.iload 6, 2) := by decide +kernel
theorem dX12_nearest_228 : decode cX12_nearest 228 = .ok (.iadd, 1) := by decide +kernel
theorem dX12_nearest_229 : decode cX12_nearest 229 = .ok (.i2b, 1) := by decide +kernel
theorem dX12_nearest_230 : decode cX12_nearest 230 = .ok (.bastore, 1) := by decide +kernel
theorem dX12_nearest_231 : decode cX12_nearest 231 = .ok (.iinc 4 1, 3) := by decide +kernel
theorem dX12_nearest_234 : decode cX12_nearest 234 = .ok (.iload 5, 2) := by decide +kernel
theorem dX12_nearest_236 : decode cX12_nearest 236 = .ok (.iconst 2, 1) := by decide +kernel
theorem dX12_nearest_237 : decode cX12_nearest 237 = .ok (.aload_n 0, 1) := by decide +kernel
theorem dX12_nearest_238 : decode cX12_nearest 238 = .ok (.getfield 15, 3) := by decide +kernel
theorem dX12_nearest_241 : decode cX12_nearest 241 = .ok (.iconst 0, 1) := by decide +kernel
theorem dX12_nearest_242 : decode cX12_nearest 242 = .ok (.aaload, 1) := by decide +kernel
theorem dX12_nearest_243 : decode cX12_nearest 243 = .ok (.iload 6, 2) := by decide +kernel
theorem dX12_nearest_245 : decode cX12_nearest 245 = .ok (.iaload, 1) := by decide +kernel
theorem dX12_nearest_246 : decode cX12_nearest 246 = .ok (.invokestatic 277, 3) := by decide +kernel
theorem dX12_nearest_249 : decode cX12_nearest 249 = .ok (.imul, 1) := by decide +kernel
theorem dX12_nearest_250 : decode cX12_nearest 250 = .ok (.iadd, 1) := by decide +kernel
theorem dX12_nearest_251 : decode cX12_nearest 251 = .ok (.istore 5, 2) := by decide +kernel
theorem dX12_nearest_253 : decode cX12_nearest 253 = .ok (.iload 7, 2) := by decide +kernel
theorem dX12_nearest_255 : decode cX12_nearest 255 = .ok (.iconst 4, 1) := by decide +kernel
theorem dX12_nearest_256 : decode cX12_nearest 256 = .ok (.if_icmp .ne 15, 3) := by decide +kernel
theorem dX12_nearest_259 : decode cX12_nearest 259 = .ok (.aload_n 0, 1) := by decide +kernel
theorem dX12_nearest_260 : decode cX12_nearest 260 = .ok (.getfield 72, 3) := by decide +kernel
theorem dX12_nearest_263 : decode cX12_nearest 263 = .ok (.iload 4, 2) := by decide +kernel
theorem dX12_nearest_265 : decode cX12_nearest 265 = .ok (.bipush 32, 2) := by decide +kernel
theorem dX12_nearest_267 : decode cX12_nearest 267 = .ok (.bastore, 1) := by decide +kernel
theorem dX12_nearest_268 : decode cX12_nearest 268 = .ok (.iinc 4 1, 3) := by decide +kernel
theorem dX12_nearest_271 : decode cX12_nearest 271 = .ok (.goto (-121), 3) := by decide +kernel
theorem dX12_nearest_274 : decode cX12_nearest 274 = .ok (.iload_n 3, 1) := by decide +kernel
theorem dX12_nearest_275 : decode cX12_nearest 275 = .ok (.iconst (-1), 1) := by decide +kernel
theorem dX12_nearest_276 : decode cX12_nearest 276 = .ok (.if_icmp .ne 8, 3) := by decide +kernel
theorem dX12_nearest_279 : decode cX12_nearest 279 = .ok (.iload 4, 2) := by decide +kernel
theorem dX12_nearest_281 : decode cX12_nearest 281 = .ok (.goto 27, 3) := by decide +kernel
theorem dX12_nearest_284 : decode cX12_nearest 284 = .ok (.iload_n 3, 1) := by decide +kernel
theorem dX12_nearest_285 : decode cX12_nearest 285 = .ok (.i2l, 1) := by decide +kernel
theorem dX12_nearest_286 : decode cX12_nearest 286 = .ok (.lconst 0, 1) := by decide +kernel
theorem dX12_nearest_287 : decode cX12_nearest 287 = .ok (.iload 4, 2) := by decide +kernel
theorem dX12_nearest_289 : decode cX12_nearest 289 = .ok (.iconst 1, 1) := by decide +kernel
theorem dX12_nearest_290 : decode cX12_nearest 290 = .ok (.isub, 1) := by decide +kernel
theorem dX12_nearest_291 : decode cX12_nearest 291 = .ok (.i2l, 1) := by decide +kernel
theorem dX12_nearest_292 : decode cX12_nearest 292 = .ok (.invokestatic 155, 3) := by decide +kernel
theorem dX12_nearest_295 : decode cX12_nearest 295 = .ok (.ifCond .eq 12, 3) := by decide +kernel
theorem dX12_nearest_298 : decode cX12_nearest 298 = .ok (.aload_n 0, 1) := by decide +kernel
theorem dX12_nearest_299 : decode cX12_nearest 299 = .ok (.getfield 72, 3) := by decide +kernel
theorem dX12_nearest_302 : decode cX12_nearest 302 = .ok (.iload_n 3, 1) := by decide +kernel
theorem dX12_nearest_303 : decode cX12_nearest 303 = .ok (.baload, 1) := by decide +kernel
theorem dX12_nearest_304 : decode cX12_nearest 304 = .ok (.goto 4, 3) := by decide +kernel
theorem dX12_nearest_307 : decode cX12_nearest 307 = .ok (.iconst (-1), 1) := by decide +kernel
theorem dX12_nearest_308 : decode cX12_nearest 308 = .ok (.ireturn, 1) := by decide +kernel
theorem dX12_isSaying_0 : decode cX12_isSaying 0 = .ok (.iconst 0, 1) := by decide +kernel
theorem dX12_isSaying_1 : decode cX12_isSaying 1 = .ok (.istore_n 1, 1) := by decide +kernel
theorem dX12_isSaying_2 : decode cX12_isSaying 2 = .ok (.iload_n 1, 1) := by decide +kernel
theorem dX12_isSaying_3 : decode cX12_isSaying 3 = .ok (.aload_n 0, 1) := by decide +kernel
theorem dX12_isSaying_4 : decode cX12_isSaying 4 = .ok (.getfield 147, 3) := by decide +kernel
theorem dX12_isSaying_7 : decode cX12_isSaying 7 = .ok (.if_icmp .ge 77, 3) := by decide +kernel
theorem dX12_isSaying_10 : decode cX12_isSaying 10 = .ok (.aload_n 0, 1) := by decide +kernel
theorem dX12_isSaying_11 : decode cX12_isSaying 11 = .ok (.getfield 9, 3) := by decide +kernel
theorem dX12_isSaying_14 : decode cX12_isSaying 14 = .ok (.iload_n 1, 1) := by decide +kernel
theorem dX12_isSaying_15 : decode cX12_isSaying 15 = .ok (.baload, 1) := by decide +kernel
theorem dX12_isSaying_16 : decode cX12_isSaying 16 = .ok (.bipush 32, 2) := by decide +kernel
theorem dX12_isSaying_18 : decode cX12_isSaying 18 = .ok (.if_icmp .ne 7, 3) := by decide +kernel
theorem dX12_isSaying_21 : decode cX12_isSaying 21 = .ok (.iconst 1, 1) := by decide +kernel
theorem dX12_isSaying_22 : decode cX12_isSaying 22 = .ok (.goto 4, 3) := by decide +kernel
theorem dX12_isSaying_25 : decode cX12_isSaying 25 = .ok (.iconst 0, 1) := by decide +kernel
theorem dX12_isSaying_26 : decode cX12_isSaying 26 = .ok (.istore_n 2, 1) := by decide +kernel
theorem dX12_isSaying_27 : decode cX12_isSaying 27 = .ok (.iload_n 2, 1) := by decide +kernel
theorem dX12_isSaying_28 : decode cX12_isSaying 28 = .ok (.ifCond .ne 17, 3) := by decide +kernel
theorem dX12_isSaying_31 : decode cX12_isSaying 31 = .ok (.aload_n 0, 1) := by decide +kernel
theorem dX12_isSaying_32 : decode cX12_isSaying 32 = .ok (.iload_n 1, 1) := by decide +kernel
theorem dX12_isSaying_33 : decode cX12_isSaying 33 = .ok (.bipush 97, 2) := by decide +kernel
theorem dX12_isSaying_35 : decode cX12_isSaying 35 = .ok (.bipush 122, 2) := by decide +kernel
theorem dX12_isSaying_37 : decode cX12_isSaying 37 = .ok (.invokevirtual 165, 3) := by decide +kernel
theorem dX12_isSaying_40 : decode cX12_isSaying 40 = .ok (.ifCond .ne 5, 3) := by decide +kernel
theorem dX12_isSaying_43 : decode cX12_isSaying 43 = .ok (.iconst 0, 1) := by decide +kernel
theorem dX12_isSaying_44 : decode cX12_isSaying 44 = .ok (.ireturn, 1) := by decide +kernel
theorem dX12_isSaying_45 : decode cX12_isSaying 45 = .ok (.iload_n 2, 1) := by decide +kernel
theorem dX12_isSaying_46 : decode cX12_isSaying 46 = .ok (.ifCond .eq 32, 3) := by decide +kernel
theorem dX12_isSaying_49 : decode cX12_isSaying 49 = .ok (.iload_n 1, 1) := by decide +kernel
theorem dX12_isSaying_50 : decode cX12_isSaying 50 = .ok (.ifCond .eq 26, 3) := by decide +kernel
theorem dX12_isSaying_53 : decode cX12_isSaying 53 = .ok (.iload_n 1, 1) := by decide +kernel
theorem dX12_isSaying_54 : decode cX12_isSaying 54 = .ok (.aload_n 0, 1) := by decide +kernel
theorem dX12_isSaying_55 : decode cX12_isSaying 55 = .ok (.getfield 147, 3) := by decide +kernel
theorem dX12_isSaying_58 : decode cX12_isSaying 58 = .ok (.iconst 1, 1) := by decide +kernel
theorem dX12_isSaying_59 : decode cX12_isSaying 59 = .ok (.isub, 1) := by decide +kernel
theorem dX12_isSaying_60 : decode cX12_isSaying 60 = .ok (.if_icmp .eq 16, 3) := by decide +kernel
theorem dX12_isSaying_63 : decode cX12_isSaying 63 = .ok (.aload_n 0, 1) := by decide +kernel
theorem dX12_isSaying_64 : decode cX12_isSaying 64 = .ok (.getfield 9, 3) := by decide +kernel
theorem dX12_isSaying_67 : decode cX12_isSaying 67 = .ok (.iload_n 1, 1) := by decide +kernel
theorem dX12_isSaying_68 : decode cX12_isSaying 68 = .ok (.iconst 1, 1) := by decide +kernel
theorem dX12_isSaying_69 : decode cX12_isSaying 69 = .ok (.isub, 1) := by decide +kernel
theorem dX12_isSaying_70 : decode cX12_isSaying 70 = .ok (.baload, 1) := by decide +kernel
theorem dX12_isSaying_71 : decode cX12_isSaying 71 = .ok (.bipush 32, 2) := by decide +kernel
theorem dX12_isSaying_73 : decode cX12_isSaying 73 = .ok (.if_icmp .ne 5, 3) := by decide +kernel
theorem dX12_isSaying_76 : decode cX12_isSaying 76 = .ok (.iconst 0, 1) := by decide +kernel
theorem dX12_isSaying_77 : decode cX12_isSaying 77 = .ok (.ireturn, 1) := by decide +kernel
theorem dX12_isSaying_78 : decode cX12_isSaying 78 = .ok (.iinc 1 1, 3) := by decide +kernel
theorem dX12_isSaying_81 : decode cX12_isSaying 81 = .ok (.goto (-79), 3) := by decide +kernel
theorem dX12_isSaying_84 : decode cX12_isSaying 84 = .ok (.aload_n 0, 1) := by decide +kernel
theorem dX12_isSaying_85 : decode cX12_isSaying 85 = .ok (.getfield 147, 3) := by decide +kernel
theorem dX12_isSaying_88 : decode cX12_isSaying 88 = .ok (.ifCond .le 7, 3) := by decide +kernel
theorem dX12_isSaying_91 : decode cX12_isSaying 91 = .ok (.iconst 1, 1) := by decide +kernel
theorem dX12_isSaying_92 : decode cX12_isSaying 92 = .ok (.goto 4, 3) := by decide +kernel
theorem dX12_isSaying_95 : decode cX12_isSaying 95 = .ok (.iconst 0, 1) := by decide +kernel
theorem dX12_isSaying_96 : decode cX12_isSaying 96 = .ok (.ireturn, 1) := by decide +kernel
theorem dX12_adds_0 : decode cX12_adds 0 = .ok (.aload_n 0, 1) := by decide +kernel
theorem dX12_adds_1 : decode cX12_adds 1 = .ok (.getfield 311, 3) := by decide +kernel
theorem dX12_adds_4 : decode cX12_adds 4 = .ok (.bipush 120, 2) := by decide +kernel
theorem dX12_adds_6 : decode cX12_adds 6 = .ok (.if_icmp .gt 13, 3) := by decide +kernel
theorem dX12_adds_9 : decode cX12_adds 9 = .ok (.aload_n 0, 1) := by decide +kernel
theorem dX12_adds_10 : decode cX12_adds 10 = .ok (.getfield 75, 3) := by decide +kernel
theorem dX12_adds_13 : decode cX12_adds 13 = .ok (.aload_n 0, 1) := by decide +kernel
theorem dX12_adds_14 : decode cX12_adds 14 = .ok (.getfield 311, 3) := by decide +kernel
theorem dX12_adds_17 : decode cX12_adds 17 = .ok (.iload_n 1, 1) := by decide +kernel
theorem dX12_adds_18 : decode cX12_adds 18 = .ok (.iastore, 1) := by decide +kernel
theorem dX12_adds_19 : decode cX12_adds 19 = .ok (.aload_n 0, 1) := by decide +kernel
theorem dX12_adds_20 : decode cX12_adds 20 = .ok (.dup, 1) := by decide +kernel
theorem dX12_adds_21 : decode cX12_adds 21 = .ok (.getfield 311, 3) := by decide +kernel
theorem dX12_adds_24 : decode cX12_adds 24 = .ok (.iconst 1, 1) := by decide +kernel
theorem dX12_adds_25 : decode cX12_adds 25 = .ok (.iadd, 1) := by decide +kernel
theorem dX12_adds_26 : decode cX12_adds 26 = .ok (.putfield 311, 3) := by decide +kernel
theorem dX12_adds_29 : decode cX12_adds 29 = .ok (.return_, 1) := by decide +kernel
theorem dX12_lays_0 : decode cX12_lays 0 = .ok (.aload_n 0, 1) := by decide +kernel
theorem dX12_lays_1 : decode cX12_lays 1 = .ok (.iconst 0, 1) := by decide +kernel
theorem dX12_lays_2 : decode cX12_lays 2 = .ok (.putfield 311, 3) := by decide +kernel
theorem dX12_lays_5 : decode cX12_lays 5 = .ok (.iconst 0, 1) := by decide +kernel
theorem dX12_lays_6 : decode cX12_lays 6 = .ok (.istore_n 1, 1) := by decide +kernel
theorem dX12_lays_7 : decode cX12_lays 7 = .ok (.iload_n 1, 1) := by decide +kernel
theorem dX12_lays_8 : decode cX12_lays 8 = .ok (.aload_n 0, 1) := by decide +kernel
theorem dX12_lays_9 : decode cX12_lays 9 = .ok (.getfield 147, 3) := by decide +kernel
theorem dX12_lays_12 : decode cX12_lays 12 = .ok (.if_icmp .ge 106, 3) := by decide +kernel
theorem dX12_lays_15 : decode cX12_lays 15 = .ok (.aload_n 0, 1) := by decide +kernel
theorem dX12_lays_16 : decode cX12_lays 16 = .ok (.getfield 9, 3) := by decide +kernel
theorem dX12_lays_19 : decode cX12_lays 19 = .ok (.iload_n 1, 1) := by decide +kernel
theorem dX12_lays_20 : decode cX12_lays 20 = .ok (.baload, 1) := by decide +kernel
theorem dX12_lays_21 : decode cX12_lays 21 = .ok (.bipush 32, 2) := by decide +kernel
theorem dX12_lays_23 : decode cX12_lays 23 = .ok (.if_icmp .ne 6, 3) := by decide +kernel
theorem dX12_lays_26 : decode cX12_lays 26 = .ok (.goto 86, 3) := by decide +kernel
theorem dX12_lays_29 : decode cX12_lays 29 = .ok (.aload_n 0, 1) := by decide +kernel
theorem dX12_lays_30 : decode cX12_lays 30 = .ok (.getfield 15, 3) := by decide +kernel
theorem dX12_lays_33 : decode cX12_lays 33 = .ok (.iconst 0, 1) := by decide +kernel
theorem dX12_lays_34 : decode cX12_lays 34 = .ok (.aaload, 1) := by decide +kernel
theorem dX12_lays_35 : decode cX12_lays 35 = .ok (.aload_n 0, 1) := by decide +kernel
theorem dX12_lays_36 : decode cX12_lays 36 = .ok (.getfield 9, 3) := by decide +kernel
theorem dX12_lays_39 : decode cX12_lays 39 = .ok (.iload_n 1, 1) := by decide +kernel
theorem dX12_lays_40 : decode cX12_lays 40 = .ok (.baload, 1) := by decide +kernel
theorem dX12_lays_41 : decode cX12_lays 41 = .ok (.bipush 97, 2) := by decide +kernel
theorem dX12_lays_43 : decode cX12_lays 43 = .ok (.isub, 1) := by decide +kernel
theorem dX12_lays_44 : decode cX12_lays 44 = .ok (.iaload, 1) := by decide +kernel
theorem dX12_lays_45 : decode cX12_lays 45 = .ok (.istore_n 2, 1) := by decide +kernel
theorem dX12_lays_46 : decode cX12_lays 46 = .ok (.iload_n 2, 1) := by decide +kernel
theorem dX12_lays_47 : decode cX12_lays 47 = .ok (.ifCond .ne 5, 3) := by decide +kernel
theorem dX12_lays_50 : decode cX12_lays 50 = .ok (.iconst 0, 1) := by decide +kernel
theorem dX12_lays_51 : decode cX12_lays 51 = .ok (.ireturn, 1) := by decide +kernel
theorem dX12_lays_52 : decode cX12_lays 52 = .ok (.iload_n 1, 1) := by decide +kernel
theorem dX12_lays_53 : decode cX12_lays 53 = .ok (.ifCond .le 25, 3) := by decide +kernel
theorem dX12_lays_56 : decode cX12_lays 56 = .ok (.aload_n 0, 1) := by decide +kernel
theorem dX12_lays_57 : decode cX12_lays 57 = .ok (.aload_n 0, 1) := by decide +kernel
theorem dX12_lays_58 : decode cX12_lays 58 = .ok (.getfield 9, 3) := by decide +kernel
theorem dX12_lays_61 : decode cX12_lays 61 = .ok (.iload_n 1, 1) := by decide +kernel
theorem dX12_lays_62 : decode cX12_lays 62 = .ok (.iconst 1, 1) := by decide +kernel
theorem dX12_lays_63 : decode cX12_lays 63 = .ok (.isub, 1) := by decide +kernel
theorem dX12_lays_64 : decode cX12_lays 64 = .ok (.baload, 1) := by decide +kernel
theorem dX12_lays_65 : decode cX12_lays 65 = .ok (.bipush 32, 2) := by decide +kernel
theorem dX12_lays_67 : decode cX12_lays 67 = .ok (.if_icmp .ne 7, 3) := by decide +kernel
theorem dX12_lays_70 : decode cX12_lays 70 = .ok (.iconst 4, 1) := by decide +kernel
theorem dX12_lays_71 : decode cX12_lays 71 = .ok (.goto 4, 3) := by decide +kernel
theorem dX12_lays_74 : decode cX12_lays 74 = .ok (.iconst 3, 1) := by decide +kernel
theorem dX12_lays_75 : decode cX12_lays 75 = .ok (.invokevirtual 314, 3) := by decide +kernel
theorem dX12_lays_78 : decode cX12_lays 78 = .ok (.iconst 0, 1) := by decide +kernel
theorem dX12_lays_79 : decode cX12_lays 79 = .ok (.istore_n 3, 1) := by decide +kernel
theorem dX12_lays_80 : decode cX12_lays 80 = .ok (.iload_n 3, 1) := by decide +kernel
theorem dX12_lays_81 : decode cX12_lays 81 = .ok (.iload_n 2, 1) := by decide +kernel
theorem dX12_lays_82 : decode cX12_lays 82 = .ok (.invokestatic 277, 3) := by decide +kernel
theorem dX12_lays_85 : decode cX12_lays 85 = .ok (.if_icmp .ge 27, 3) := by decide +kernel
theorem dX12_lays_88 : decode cX12_lays 88 = .ok (.iload_n 3, 1) := by decide +kernel
theorem dX12_lays_89 : decode cX12_lays 89 = .ok (.ifCond .le 8, 3) := by decide +kernel
theorem dX12_lays_92 : decode cX12_lays 92 = .ok (.aload_n 0, 1) := by decide +kernel
theorem dX12_lays_93 : decode cX12_lays 93 = .ok (.iconst 2, 1) := by decide +kernel
theorem dX12_lays_94 : decode cX12_lays 94 = .ok (.invokevirtual 314, 3) := by decide +kernel
theorem dX12_lays_97 : decode cX12_lays 97 = .ok (.aload_n 0, 1) := by decide +kernel
theorem dX12_lays_98 : decode cX12_lays 98 = .ok (.iload_n 2, 1) := by decide +kernel
theorem dX12_lays_99 : decode cX12_lays 99 = .ok (.iload_n 3, 1) := by decide +kernel
theorem dX12_lays_100 : decode cX12_lays 100 = .ok (.invokestatic 280, 3) := by decide +kernel
theorem dX12_lays_103 : decode cX12_lays 103 = .ok (.invokevirtual 314, 3) := by decide +kernel
theorem dX12_lays_106 : decode cX12_lays 106 = .ok (.iinc 3 1, 3) := by decide +kernel
theorem dX12_lays_109 : decode cX12_lays 109 = .ok (.goto (-29), 3) := by decide +kernel
theorem dX12_lays_112 : decode cX12_lays 112 = .ok (.iinc 1 1, 3) := by decide +kernel
theorem dX12_lays_115 : decode cX12_lays 115 = .ok (.goto (-108), 3) := by decide +kernel
theorem dX12_lays_118 : decode cX12_lays 118 = .ok (.iconst 1, 1) := by decide +kernel
theorem dX12_lays_119 : decode cX12_lays 119 = .ok (.ireturn, 1) := by decide +kernel
theorem dX12_saysBy_0 : decode cX12_saysBy 0 = .ok (.aload_n 0, 1) := by decide +kernel
theorem dX12_saysBy_1 : decode cX12_saysBy 1 = .ok (.iload_n 1, 1) := by decide +kernel
theorem dX12_saysBy_2 : decode cX12_saysBy 2 = .ok (.iload_n 2, 1) := by decide +kernel
theorem dX12_saysBy_3 : decode cX12_saysBy 3 = .ok (.invokevirtual 294, 3) := by decide +kernel
theorem dX12_saysBy_6 : decode cX12_saysBy 6 = .ok (.ifCond .eq 14, 3) := by decide +kernel
theorem dX12_saysBy_9 : decode cX12_saysBy 9 = .ok (.aload_n 0, 1) := by decide +kernel
theorem dX12_saysBy_10 : decode cX12_saysBy 10 = .ok (.getfield 311, 3) := by decide +kernel
theorem dX12_saysBy_13 : decode cX12_saysBy 13 = .ok (.aload_n 0, 1) := by decide +kernel
theorem dX12_saysBy_14 : decode cX12_saysBy 14 = .ok (.getfield 260, 3) := by decide +kernel
theorem dX12_saysBy_17 : decode cX12_saysBy 17 = .ok (.if_icmp .eq 5, 3) := by decide +kernel
theorem dX12_saysBy_20 : decode cX12_saysBy 20 = .ok (.iconst 0, 1) := by decide +kernel
theorem dX12_saysBy_21 : decode cX12_saysBy 21 = .ok (.ireturn, 1) := by decide +kernel
theorem dX12_saysBy_22 : decode cX12_saysBy 22 = .ok (.iconst 0, 1) := by decide +kernel
theorem dX12_saysBy_23 : decode cX12_saysBy 23 = .ok (.istore_n 3, 1) := by decide +kernel
theorem dX12_saysBy_24 : decode cX12_saysBy 24 = .ok (.iload_n 3, 1) := by decide +kernel
theorem dX12_saysBy_25 : decode cX12_saysBy 25 = .ok (.aload_n 0, 1) := by decide +kernel
theorem dX12_saysBy_26 : decode cX12_saysBy 26 = .ok (.getfield 260, 3) := by decide +kernel
theorem dX12_saysBy_29 : decode cX12_saysBy 29 = .ok (.if_icmp .ge 25, 3) := by decide +kernel
theorem dX12_saysBy_32 : decode cX12_saysBy 32 = .ok (.aload_n 0, 1) := by decide +kernel
theorem dX12_saysBy_33 : decode cX12_saysBy 33 = .ok (.iload_n 3, 1) := by decide +kernel
theorem dX12_saysBy_34 : decode cX12_saysBy 34 = .ok (.aload_n 0, 1) := by decide +kernel
theorem dX12_saysBy_35 : decode cX12_saysBy 35 = .ok (.getfield 75, 3) := by decide +kernel
theorem dX12_saysBy_38 : decode cX12_saysBy 38 = .ok (.iload_n 3, 1) := by decide +kernel
theorem dX12_saysBy_39 : decode cX12_saysBy 39 = .ok (.iaload, 1) := by decide +kernel
theorem dX12_saysBy_40 : decode cX12_saysBy 40 = .ok (.invokevirtual 284, 3) := by decide +kernel
theorem dX12_saysBy_43 : decode cX12_saysBy 43 = .ok (.ifCond .ne 5, 3) := by decide +kernel
theorem dX12_saysBy_46 : decode cX12_saysBy 46 = .ok (.iconst 0, 1) := by decide +kernel
theorem dX12_saysBy_47 : decode cX12_saysBy 47 = .ok (.ireturn, 1) := by decide +kernel
theorem dX12_saysBy_48 : decode cX12_saysBy 48 = .ok (.iinc 3 1, 3) := by decide +kernel
theorem dX12_saysBy_51 : decode cX12_saysBy 51 = .ok (.goto (-27), 3) := by decide +kernel
theorem dX12_saysBy_54 : decode cX12_saysBy 54 = .ok (.iconst 1, 1) := by decide +kernel
theorem dX12_saysBy_55 : decode cX12_saysBy 55 = .ok (.ireturn, 1) := by decide +kernel
theorem dX12_canSay_0 : decode cX12_canSay 0 = .ok (.aload_n 0, 1) := by decide +kernel
theorem dX12_canSay_1 : decode cX12_canSay 1 = .ok (.getfield 260, 3) := by decide +kernel
theorem dX12_canSay_4 : decode cX12_canSay 4 = .ok (.iconst 2, 1) := by decide +kernel
theorem dX12_canSay_5 : decode cX12_canSay 5 = .ok (.irem, 1) := by decide +kernel
theorem dX12_canSay_6 : decode cX12_canSay 6 = .ok (.iconst 1, 1) := by decide +kernel
theorem dX12_canSay_7 : decode cX12_canSay 7 = .ok (.if_icmp .ne 14, 3) := by decide +kernel
theorem dX12_canSay_10 : decode cX12_canSay 10 = .ok (.aload_n 0, 1) := by decide +kernel
theorem dX12_canSay_11 : decode cX12_canSay 11 = .ok (.invokevirtual 317, 3) := by decide +kernel
theorem dX12_canSay_14 : decode cX12_canSay 14 = .ok (.ifCond .eq 7, 3) := by decide +kernel
theorem dX12_canSay_17 : decode cX12_canSay 17 = .ok (.iconst 1, 1) := by decide +kernel
theorem dX12_canSay_18 : decode cX12_canSay 18 = .ok (.goto 4, 3) := by decide +kernel
theorem dX12_canSay_21 : decode cX12_canSay 21 = .ok (.iconst 0, 1) := by decide +kernel
theorem dX12_canSay_22 : decode cX12_canSay 22 = .ok (.ireturn, 1) := by decide +kernel
theorem dX12_suspects_0 : decode cX12_suspects 0 = .ok (.aload_n 0, 1) := by decide +kernel
theorem dX12_suspects_1 : decode cX12_suspects 1 = .ok (.invokevirtual 320, 3) := by decide +kernel
theorem dX12_suspects_4 : decode cX12_suspects 4 = .ok (.ifCond .ne 5, 3) := by decide +kernel
theorem dX12_suspects_7 : decode cX12_suspects 7 = .ok (.iconst (-1), 1) := by decide +kernel
theorem dX12_suspects_8 : decode cX12_suspects 8 = .ok (.ireturn, 1) := by decide +kernel
theorem dX12_suspects_9 : decode cX12_suspects 9 = .ok (.aload_n 0, 1) := by decide +kernel
theorem dX12_suspects_10 : decode cX12_suspects 10 = .ok (.invokevirtual 323, 3) := by decide +kernel
theorem dX12_suspects_13 : decode cX12_suspects 13 = .ok (.istore_n 2, 1) := by decide +kernel
theorem dX12_suspects_14 : decode cX12_suspects 14 = .ok (.iconst 0, 1) := by decide +kernel
theorem dX12_suspects_15 : decode cX12_suspects 15 = .ok (.istore_n 3, 1) := by decide +kernel
theorem dX12_suspects_16 : decode cX12_suspects 16 = .ok (.iconst 0, 1) := by decide +kernel
theorem dX12_suspects_17 : decode cX12_suspects 17 = .ok (.istore 4, 2) := by decide +kernel
theorem dX12_suspects_19 : decode cX12_suspects 19 = .ok (.iload 4, 2) := by decide +kernel
theorem dX12_suspects_21 : decode cX12_suspects 21 = .ok (.aload_n 0, 1) := by decide +kernel
theorem dX12_suspects_22 : decode cX12_suspects 22 = .ok (.getfield 224, 3) := by decide +kernel
theorem dX12_suspects_25 : decode cX12_suspects 25 = .ok (.if_icmp .ge 62, 3) := by decide +kernel
theorem dX12_suspects_28 : decode cX12_suspects 28 = .ok (.iconst 0, 1) := by decide +kernel
theorem dX12_suspects_29 : decode cX12_suspects 29 = .ok (.istore 5, 2) := by decide +kernel
theorem dX12_suspects_31 : decode cX12_suspects 31 = .ok (.iload 5, 2) := by decide +kernel
theorem dX12_suspects_33 : decode cX12_suspects 33 = .ok (.aload_n 0, 1) := by decide +kernel
theorem dX12_suspects_34 : decode cX12_suspects 34 = .ok (.getfield 243, 3) := by decide +kernel
theorem dX12_suspects_37 : decode cX12_suspects 37 = .ok (.if_icmp .ge 44, 3) := by decide +kernel
theorem dX12_suspects_40 : decode cX12_suspects 40 = .ok (.iload_n 2, 1) := by decide +kernel
theorem dX12_suspects_41 : decode cX12_suspects 41 = .ok (.ifCond .eq 34, 3) := by decide +kernel
theorem dX12_suspects_44 : decode cX12_suspects 44 = .ok (.aload_n 0, 1) := by decide +kernel
theorem dX12_suspects_45 : decode cX12_suspects 45 = .ok (.iload 4, 2) := by decide +kernel
theorem dX12_suspects_47 : decode cX12_suspects 47 = .ok (.iload 5, 2) := by decide +kernel
theorem dX12_suspects_49 : decode cX12_suspects 49 = .ok (.invokevirtual 326, 3) := by decide +kernel
theorem dX12_suspects_52 : decode cX12_suspects 52 = .ok (.ifCond .ne 6, 3) := by decide +kernel
theorem dX12_suspects_55 : decode cX12_suspects 55 = .ok (.goto 20, 3) := by decide +kernel
theorem dX12_suspects_58 : decode cX12_suspects 58 = .ok (.iload_n 3, 1) := by decide +kernel
theorem dX12_suspects_59 : decode cX12_suspects 59 = .ok (.iload_n 1, 1) := by decide +kernel
theorem dX12_suspects_60 : decode cX12_suspects 60 = .ok (.if_icmp .ne 12, 3) := by decide +kernel
theorem dX12_suspects_63 : decode cX12_suspects 63 = .ok (.bipush 10, 2) := by decide +kernel
theorem dX12_suspects_65 : decode cX12_suspects 65 = .ok (.iload 4, 2) := by decide +kernel
theorem dX12_suspects_67 : decode cX12_suspects 67 = .ok (.imul, 1) := by decide +kernel
theorem dX12_suspects_68 : decode cX12_suspects 68 = .ok (.iload 5, 2) := by decide +kernel
theorem dX12_suspects_70 : decode cX12_suspects 70 = .ok (.iadd, 1) := by decide +kernel
theorem dX12_suspects_71 : decode cX12_suspects 71 = .ok (.ireturn, 1) := by decide +kernel
theorem dX12_suspects_72 : decode cX12_suspects 72 = .ok (.iinc 3 1, 3) := by decide +kernel
theorem dX12_suspects_75 : decode cX12_suspects 75 = .ok (.iinc 5 1, 3) := by decide +kernel
theorem dX12_suspects_78 : decode cX12_suspects 78 = .ok (.goto (-47), 3) := by decide +kernel
theorem dX12_suspects_81 : decode cX12_suspects 81 = .ok (.iinc 4 1, 3) := by decide +kernel
theorem dX12_suspects_84 : decode cX12_suspects 84 = .ok (.goto (-65), 3) := by decide +kernel
theorem dX12_suspects_87 : decode cX12_suspects 87 = .ok (.iload_n 1, 1) := by decide +kernel
theorem dX12_suspects_88 : decode cX12_suspects 88 = .ok (.iconst (-1), 1) := by decide +kernel
theorem dX12_suspects_89 : decode cX12_suspects 89 = .ok (.if_icmp .ne 7, 3) := by decide +kernel
theorem dX12_suspects_92 : decode cX12_suspects 92 = .ok (.iload_n 3, 1) := by decide +kernel
theorem dX12_suspects_93 : decode cX12_suspects 93 = .ok (.goto 4, 3) := by decide +kernel
theorem dX12_suspects_96 : decode cX12_suspects 96 = .ok (.iconst (-1), 1) := by decide +kernel
theorem dX12_suspects_97 : decode cX12_suspects 97 = .ok (.ireturn, 1) := by decide +kernel
theorem dX12_grows_0 : decode cX12_grows 0 = .ok (.iconst 0, 1) := by decide +kernel
theorem dX12_grows_1 : decode cX12_grows 1 = .ok (.istore_n 3, 1) := by decide +kernel
theorem dX12_grows_2 : decode cX12_grows 2 = .ok (.iconst 0, 1) := by decide +kernel
theorem dX12_grows_3 : decode cX12_grows 3 = .ok (.istore 4, 2) := by decide +kernel
theorem dX12_grows_5 : decode cX12_grows 5 = .ok (.iload 4, 2) := by decide +kernel
theorem dX12_grows_7 : decode cX12_grows 7 = .ok (.bipush 80, 2) := by decide +kernel
theorem dX12_grows_9 : decode cX12_grows 9 = .ok (.if_icmp .ge 46, 3) := by decide +kernel
theorem dX12_grows_12 : decode cX12_grows 12 = .ok (.aload_n 0, 1) := by decide +kernel
theorem dX12_grows_13 : decode cX12_grows 13 = .ok (.getfield 78, 3) := by decide +kernel
theorem dX12_grows_16 : decode cX12_grows 16 = .ok (.iload_n 1, 1) := by decide +kernel
theorem dX12_grows_17 : decode cX12_grows 17 = .ok (.iload 4, 2) := by decide +kernel
theorem dX12_grows_19 : decode cX12_grows 19 = .ok (.iadd, 1) := by decide +kernel
theorem dX12_grows_20 : decode cX12_grows 20 = .ok (.iaload, 1) := by decide +kernel
theorem dX12_grows_21 : decode cX12_grows 21 = .ok (.iload_n 2, 1) := by decide +kernel
theorem dX12_grows_22 : decode cX12_grows 22 = .ok (.imul, 1) := by decide +kernel
theorem dX12_grows_23 : decode cX12_grows 23 = .ok (.iload_n 3, 1) := by decide +kernel
theorem dX12_grows_24 : decode cX12_grows 24 = .ok (.iadd, 1) := by decide +kernel
theorem dX12_grows_25 : decode cX12_grows 25 = .ok (.istore 5, 2) := by decide +kernel
theorem dX12_grows_27 : decode cX12_grows 27 = .ok (.aload_n 0, 1) := by decide +kernel
theorem dX12_grows_28 : decode cX12_grows 28 = .ok (.getfield 78, 3) := by decide +kernel
theorem dX12_grows_31 : decode cX12_grows 31 = .ok (.iload_n 1, 1) := by decide +kernel
theorem dX12_grows_32 : decode cX12_grows 32 = .ok (.iload 4, 2) := by decide +kernel
theorem dX12_grows_34 : decode cX12_grows 34 = .ok (.iadd, 1) := by decide +kernel
theorem dX12_grows_35 : decode cX12_grows 35 = .ok (.iload 5, 2) := by decide +kernel
theorem dX12_grows_37 : decode cX12_grows 37 = .ok (.sipush 10000, 3) := by decide +kernel
theorem dX12_grows_40 : decode cX12_grows 40 = .ok (.irem, 1) := by decide +kernel
theorem dX12_grows_41 : decode cX12_grows 41 = .ok (.iastore, 1) := by decide +kernel
theorem dX12_grows_42 : decode cX12_grows 42 = .ok (.iload 5, 2) := by decide +kernel
theorem dX12_grows_44 : decode cX12_grows 44 = .ok (.sipush 10000, 3) := by decide +kernel
theorem dX12_grows_47 : decode cX12_grows 47 = .ok (.idiv, 1) := by decide +kernel
theorem dX12_grows_48 : decode cX12_grows 48 = .ok (.istore_n 3, 1) := by decide +kernel
theorem dX12_grows_49 : decode cX12_grows 49 = .ok (.iinc 4 1, 3) := by decide +kernel
theorem dX12_grows_52 : decode cX12_grows 52 = .ok (.goto (-47), 3) := by decide +kernel
theorem dX12_grows_55 : decode cX12_grows 55 = .ok (.return_, 1) := by decide +kernel
theorem dX12_product_0 : decode cX12_product 0 = .ok (.iconst 0, 1) := by decide +kernel
theorem dX12_product_1 : decode cX12_product 1 = .ok (.istore_n 3, 1) := by decide +kernel
theorem dX12_product_2 : decode cX12_product 2 = .ok (.iload_n 3, 1) := by decide +kernel
theorem dX12_product_3 : decode cX12_product 3 = .ok (.bipush 80, 2) := by decide +kernel
theorem dX12_product_5 : decode cX12_product 5 = .ok (.if_icmp .ge 26, 3) := by decide +kernel
theorem dX12_product_8 : decode cX12_product 8 = .ok (.aload_n 0, 1) := by decide +kernel
theorem dX12_product_9 : decode cX12_product 9 = .ok (.getfield 78, 3) := by decide +kernel
theorem dX12_product_12 : decode cX12_product 12 = .ok (.iload_n 1, 1) := by decide +kernel
theorem dX12_product_13 : decode cX12_product 13 = .ok (.iload_n 3, 1) := by decide +kernel
theorem dX12_product_14 : decode cX12_product 14 = .ok (.iadd, 1) := by decide +kernel
theorem dX12_product_15 : decode cX12_product 15 = .ok (.iload_n 3, 1) := by decide +kernel
theorem dX12_product_16 : decode cX12_product 16 = .ok (.ifCond .ne 7, 3) := by decide +kernel
theorem dX12_product_19 : decode cX12_product 19 = .ok (.iconst 1, 1) := by decide +kernel
theorem dX12_product_20 : decode cX12_product 20 = .ok (.goto 4, 3) := by decide +kernel
theorem dX12_product_23 : decode cX12_product 23 = .ok (.iconst 0, 1) := by decide +kernel
theorem dX12_product_24 : decode cX12_product 24 = .ok (.iastore, 1) := by decide +kernel
theorem dX12_product_25 : decode cX12_product 25 = .ok (.iinc 3 1, 3) := by decide +kernel
theorem dX12_product_28 : decode cX12_product 28 = .ok (.goto (-26), 3) := by decide +kernel
theorem dX12_product_31 : decode cX12_product 31 = .ok (.iconst 0, 1) := by decide +kernel
theorem dX12_product_32 : decode cX12_product 32 = .ok (.istore_n 3, 1) := by decide +kernel
theorem dX12_product_33 : decode cX12_product 33 = .ok (.iload_n 3, 1) := by decide +kernel
theorem dX12_product_34 : decode cX12_product 34 = .ok (.aload_n 0, 1) := by decide +kernel
theorem dX12_product_35 : decode cX12_product 35 = .ok (.getfield 311, 3) := by decide +kernel
theorem dX12_product_38 : decode cX12_product 38 = .ok (.if_icmp .ge 47, 3) := by decide +kernel
theorem dX12_product_41 : decode cX12_product 41 = .ok (.aload_n 0, 1) := by decide +kernel
theorem dX12_product_42 : decode cX12_product 42 = .ok (.iload_n 1, 1) := by decide +kernel
theorem dX12_product_43 : decode cX12_product 43 = .ok (.aload_n 0, 1) := by decide +kernel
theorem dX12_product_44 : decode cX12_product 44 = .ok (.getfield 48, 3) := by decide +kernel
theorem dX12_product_47 : decode cX12_product 47 = .ok (.iconst 5, 1) := by decide +kernel
theorem dX12_product_48 : decode cX12_product 48 = .ok (.iload_n 2, 1) := by decide +kernel
theorem dX12_product_49 : decode cX12_product 49 = .ok (.imul, 1) := by decide +kernel
theorem dX12_product_50 : decode cX12_product 50 = .ok (.aload_n 0, 1) := by decide +kernel
theorem dX12_product_51 : decode cX12_product 51 = .ok (.getfield 75, 3) := by decide +kernel
theorem dX12_product_54 : decode cX12_product 54 = .ok (.iload_n 3, 1) := by decide +kernel
theorem dX12_product_55 : decode cX12_product 55 = .ok (.iaload, 1) := by decide +kernel
theorem dX12_product_56 : decode cX12_product 56 = .ok (.iadd, 1) := by decide +kernel
theorem dX12_product_57 : decode cX12_product 57 = .ok (.iaload, 1) := by decide +kernel
theorem dX12_product_58 : decode cX12_product 58 = .ok (.aload_n 0, 1) := by decide +kernel
theorem dX12_product_59 : decode cX12_product 59 = .ok (.getfield 45, 3) := by decide +kernel
theorem dX12_product_62 : decode cX12_product 62 = .ok (.iconst 5, 1) := by decide +kernel
theorem dX12_product_63 : decode cX12_product 63 = .ok (.iload_n 2, 1) := by decide +kernel
theorem dX12_product_64 : decode cX12_product 64 = .ok (.imul, 1) := by decide +kernel
theorem dX12_product_65 : decode cX12_product 65 = .ok (.aload_n 0, 1) := by decide +kernel
theorem dX12_product_66 : decode cX12_product 66 = .ok (.getfield 75, 3) := by decide +kernel
theorem dX12_product_69 : decode cX12_product 69 = .ok (.iload_n 3, 1) := by decide +kernel
theorem dX12_product_70 : decode cX12_product 70 = .ok (.iaload, 1) := by decide +kernel
theorem dX12_product_71 : decode cX12_product 71 = .ok (.iadd, 1) := by decide +kernel
theorem dX12_product_72 : decode cX12_product 72 = .ok (.iaload, 1) := by decide +kernel
theorem dX12_product_73 : decode cX12_product 73 = .ok (.isub, 1) := by decide +kernel
theorem dX12_product_74 : decode cX12_product 74 = .ok (.iconst 1, 1) := by decide +kernel
theorem dX12_product_75 : decode cX12_product 75 = .ok (.iadd, 1) := by decide +kernel
theorem dX12_product_76 : decode cX12_product 76 = .ok (.invokevirtual 329, 3) := by decide +kernel
theorem dX12_product_79 : decode cX12_product 79 = .ok (.iinc 3 1, 3) := by decide +kernel
theorem dX12_product_82 : decode cX12_product 82 = .ok (.goto (-49), 3) := by decide +kernel
theorem dX12_product_85 : decode cX12_product 85 = .ok (.return_, 1) := by decide +kernel
theorem dX12_likelier_0 : decode cX12_likelier 0 = .ok (.aload_n 0, 1) := by decide +kernel
theorem dX12_likelier_1 : decode cX12_likelier 1 = .ok (.iload_n 1, 1) := by decide +kernel
theorem dX12_likelier_2 : decode cX12_likelier 2 = .ok (.invokevirtual 291, 3) := by decide +kernel
theorem dX12_likelier_5 : decode cX12_likelier 5 = .ok (.ifCond .eq 51, 3) := by decide +kernel
theorem dX12_likelier_8 : decode cX12_likelier 8 = .ok (.aload_n 0, 1) := by decide +kernel
theorem dX12_likelier_9 : decode cX12_likelier 9 = .ok (.iload_n 2, 1) := by decide +kernel
theorem dX12_likelier_10 : decode cX12_likelier 10 = .ok (.invokevirtual 291, 3) := by decide +kernel
theorem dX12_likelier_13 : decode cX12_likelier 13 = .ok (.ifCond .eq 43, 3) := by decide +kernel
theorem dX12_likelier_16 : decode cX12_likelier 16 = .ok (.aload_n 0, 1) := by decide +kernel
theorem dX12_likelier_17 : decode cX12_likelier 17 = .ok (.iload_n 3, 1) := by decide +kernel
theorem dX12_likelier_18 : decode cX12_likelier 18 = .ok (.invokevirtual 251, 3) := by decide +kernel
theorem dX12_likelier_21 : decode cX12_likelier 21 = .ok (.ifCond .eq 35, 3) := by decide +kernel
theorem dX12_likelier_24 : decode cX12_likelier 24 = .ok (.aload_n 0, 1) := by decide +kernel
theorem dX12_likelier_25 : decode cX12_likelier 25 = .ok (.invokevirtual 320, 3) := by decide +kernel
theorem dX12_likelier_28 : decode cX12_likelier 28 = .ok (.ifCond .eq 28, 3) := by decide +kernel
theorem dX12_likelier_31 : decode cX12_likelier 31 = .ok (.aload_n 0, 1) := by decide +kernel
theorem dX12_likelier_32 : decode cX12_likelier 32 = .ok (.invokevirtual 323, 3) := by decide +kernel
theorem dX12_likelier_35 : decode cX12_likelier 35 = .ok (.ifCond .eq 21, 3) := by decide +kernel
theorem dX12_likelier_38 : decode cX12_likelier 38 = .ok (.aload_n 0, 1) := by decide +kernel
theorem dX12_likelier_39 : decode cX12_likelier 39 = .ok (.iload_n 1, 1) := by decide +kernel
theorem dX12_likelier_40 : decode cX12_likelier 40 = .ok (.iload_n 3, 1) := by decide +kernel
theorem dX12_likelier_41 : decode cX12_likelier 41 = .ok (.invokevirtual 326, 3) := by decide +kernel
theorem dX12_likelier_44 : decode cX12_likelier 44 = .ok (.ifCond .eq 12, 3) := by decide +kernel
theorem dX12_likelier_47 : decode cX12_likelier 47 = .ok (.aload_n 0, 1) := by decide +kernel
theorem dX12_likelier_48 : decode cX12_likelier 48 = .ok (.iload_n 2, 1) := by decide +kernel
theorem dX12_likelier_49 : decode cX12_likelier 49 = .ok (.iload_n 3, 1) := by decide +kernel
theorem dX12_likelier_50 : decode cX12_likelier 50 = .ok (.invokevirtual 326, 3) := by decide +kernel
theorem dX12_likelier_53 : decode cX12_likelier 53 = .ok (.ifCond .ne 5, 3) := by decide +kernel
theorem dX12_likelier_56 : decode cX12_likelier 56 = .ok (.iconst (-1), 1) := by decide +kernel
theorem dX12_likelier_57 : decode cX12_likelier 57 = .ok (.ireturn, 1) := by decide +kernel
theorem dX12_likelier_58 : decode cX12_likelier 58 = .ok (.aload_n 0, 1) := by decide +kernel
theorem dX12_likelier_59 : decode cX12_likelier 59 = .ok (.iconst 0, 1) := by decide +kernel
theorem dX12_likelier_60 : decode cX12_likelier 60 = .ok (.iload_n 1, 1) := by decide +kernel
theorem dX12_likelier_61 : decode cX12_likelier 61 = .ok (.invokevirtual 332, 3) := by decide +kernel
theorem dX12_likelier_64 : decode cX12_likelier 64 = .ok (.aload_n 0, 1) := by decide +kernel
theorem dX12_likelier_65 : decode cX12_likelier 65 = .ok (.bipush 80, 2) := by decide +kernel
theorem dX12_likelier_67 : decode cX12_likelier 67 = .ok (.iload_n 2, 1) := by decide +kernel
theorem dX12_likelier_68 : decode cX12_likelier 68 = .ok (.invokevirtual 332, 3) := by decide +kernel
theorem dX12_likelier_71 : decode cX12_likelier 71 = .ok (.bipush 79, 2) := by decide +kernel
theorem dX12_likelier_73 : decode cX12_likelier 73 = .ok (.istore 4, 2) := by decide +kernel
theorem dX12_likelier_75 : decode cX12_likelier 75 = .ok (.iload 4, 2) := by decide +kernel
theorem dX12_likelier_77 : decode cX12_likelier 77 = .ok (.ifCond .lt 55, 3) := by decide +kernel
theorem dX12_likelier_80 : decode cX12_likelier 80 = .ok (.aload_n 0, 1) := by decide +kernel
theorem dX12_likelier_81 : decode cX12_likelier 81 = .ok (.getfield 78, 3) := by decide +kernel
theorem dX12_likelier_84 : decode cX12_likelier 84 = .ok (.iload 4, 2) := by decide +kernel
theorem dX12_likelier_86 : decode cX12_likelier 86 = .ok (.iaload, 1) := by decide +kernel
theorem dX12_likelier_87 : decode cX12_likelier 87 = .ok (.aload_n 0, 1) := by decide +kernel
theorem dX12_likelier_88 : decode cX12_likelier 88 = .ok (.getfield 78, 3) := by decide +kernel
theorem dX12_likelier_91 : decode cX12_likelier 91 = .ok (.bipush 80, 2) := by decide +kernel
theorem dX12_likelier_93 : decode cX12_likelier 93 = .ok (.iload 4, 2) := by decide +kernel
theorem dX12_likelier_95 : decode cX12_likelier 95 = .ok (.iadd, 1) := by decide +kernel
theorem dX12_likelier_96 : decode cX12_likelier 96 = .ok (.iaload, 1) := by decide +kernel
theorem dX12_likelier_97 : decode cX12_likelier 97 = .ok (.if_icmp .eq 29, 3) := by decide +kernel
theorem dX12_likelier_100 : decode cX12_likelier 100 = .ok (.aload_n 0, 1) := by decide +kernel
theorem dX12_likelier_101 : decode cX12_likelier 101 = .ok (.getfield 78, 3) := by decide +kernel
theorem dX12_likelier_104 : decode cX12_likelier 104 = .ok (.iload 4, 2) := by decide +kernel
theorem dX12_likelier_106 : decode cX12_likelier 106 = .ok (.iaload, 1) := by decide +kernel
theorem dX12_likelier_107 : decode cX12_likelier 107 = .ok (.aload_n 0, 1) := by decide +kernel
theorem dX12_likelier_108 : decode cX12_likelier 108 = .ok (.getfield 78, 3) := by decide +kernel
theorem dX12_likelier_111 : decode cX12_likelier 111 = .ok (.bipush 80, 2) := by decide +kernel
theorem dX12_likelier_113 : decode cX12_likelier 113 = .ok (.iload 4, 2) := by decide +kernel
theorem dX12_likelier_115 : decode cX12_likelier 115 = .ok (.iadd, 1) := by decide +kernel
theorem dX12_likelier_116 : decode cX12_likelier 116 = .ok (.iaload, 1) := by decide +kernel
theorem dX12_likelier_117 : decode cX12_likelier 117 = .ok (.if_icmp .ge 7, 3) := by decide +kernel
theorem dX12_likelier_120 : decode cX12_likelier 120 = .ok (.iconst 1, 1) := by decide +kernel
theorem dX12_likelier_121 : decode cX12_likelier 121 = .ok (.goto 4, 3) := by decide +kernel
theorem dX12_likelier_124 : decode cX12_likelier 124 = .ok (.iconst 2, 1) := by decide +kernel
theorem dX12_likelier_125 : decode cX12_likelier 125 = .ok (.ireturn, 1) := by decide +kernel
theorem dX12_likelier_126 : decode cX12_likelier 126 = .ok (.iinc 4 (-1), 3) := by decide +kernel
theorem dX12_likelier_129 : decode cX12_likelier 129 = .ok (.goto (-54), 3) := by decide +kernel
theorem dX12_likelier_132 : decode cX12_likelier 132 = .ok (.iconst 0, 1) := by decide +kernel
theorem dX12_likelier_133 : decode cX12_likelier 133 = .ok (.ireturn, 1) := by decide +kernel
theorem dX12_key_0 : decode cX12_key 0 = .ok (.aload_n 0, 1) := by decide +kernel
theorem dX12_key_1 : decode cX12_key 1 = .ok (.iload_n 1, 1) := by decide +kernel
theorem dX12_key_2 : decode cX12_key 2 = .ok (.invokevirtual 291, 3) := by decide +kernel
theorem dX12_key_5 : decode cX12_key 5 = .ok (.ifCond .eq 46, 3) := by decide +kernel
theorem dX12_key_8 : decode cX12_key 8 = .ok (.aload_n 0, 1) := by decide +kernel
theorem dX12_key_9 : decode cX12_key 9 = .ok (.iload_n 2, 1) := by decide +kernel
theorem dX12_key_10 : decode cX12_key 10 = .ok (.invokevirtual 251, 3) := by decide +kernel
theorem dX12_key_13 : decode cX12_key 13 = .ok (.ifCond .eq 38, 3) := by decide +kernel
theorem dX12_key_16 : decode cX12_key 16 = .ok (.iload_n 3, 1) := by decide +kernel
theorem dX12_key_17 : decode cX12_key 17 = .ok (.i2l, 1) := by decide +kernel
theorem dX12_key_18 : decode cX12_key 18 = .ok (.lconst 0, 1) := by decide +kernel
theorem dX12_key_19 : decode cX12_key 19 = .ok (.ldc2_w 335, 3) := by decide +kernel
theorem dX12_key_22 : decode cX12_key 22 = .ok (.invokestatic 155, 3) := by decide +kernel
theorem dX12_key_25 : decode cX12_key 25 = .ok (.ifCond .eq 26, 3) := by decide +kernel
theorem dX12_key_28 : decode cX12_key 28 = .ok (.aload_n 0, 1) := by decide +kernel
theorem dX12_key_29 : decode cX12_key 29 = .ok (.invokevirtual 317, 3) := by decide +kernel
theorem dX12_key_32 : decode cX12_key 32 = .ok (.ifCond .eq 19, 3) := by decide +kernel
theorem dX12_key_35 : decode cX12_key 35 = .ok (.aload_n 0, 1) := by decide +kernel
theorem dX12_key_36 : decode cX12_key 36 = .ok (.invokevirtual 323, 3) := by decide +kernel
theorem dX12_key_39 : decode cX12_key 39 = .ok (.ifCond .eq 12, 3) := by decide +kernel
theorem dX12_key_42 : decode cX12_key 42 = .ok (.aload_n 0, 1) := by decide +kernel
theorem dX12_key_43 : decode cX12_key 43 = .ok (.getfield 311, 3) := by decide +kernel
theorem dX12_key_46 : decode cX12_key 46 = .ok (.bipush 120, 2) := by decide +kernel
theorem dX12_key_48 : decode cX12_key 48 = .ok (.if_icmp .le 5, 3) := by decide +kernel
theorem dX12_key_51 : decode cX12_key 51 = .ok (.iconst (-1), 1) := by decide +kernel
theorem dX12_key_52 : decode cX12_key 52 = .ok (.ireturn, 1) := by decide +kernel
theorem dX12_key_53 : decode cX12_key 53 = .ok (.iload_n 3, 1) := by decide +kernel
theorem dX12_key_54 : decode cX12_key 54 = .ok (.i2l, 1) := by decide +kernel
theorem dX12_key_55 : decode cX12_key 55 = .ok (.lstore 4, 2) := by decide +kernel
theorem dX12_key_57 : decode cX12_key 57 = .ok (.aload_n 0, 1) := by decide +kernel
theorem dX12_key_58 : decode cX12_key 58 = .ok (.iload_n 2, 1) := by decide +kernel
theorem dX12_key_59 : decode cX12_key 59 = .ok (.invokevirtual 254, 3) := by decide +kernel
theorem dX12_key_62 : decode cX12_key 62 = .ok (.istore 6, 2) := by decide +kernel
theorem dX12_key_64 : decode cX12_key 64 = .ok (.aload_n 0, 1) := by decide +kernel
theorem dX12_key_65 : decode cX12_key 65 = .ok (.iconst 0, 1) := by decide +kernel
theorem dX12_key_66 : decode cX12_key 66 = .ok (.putfield 260, 3) := by decide +kernel
theorem dX12_key_69 : decode cX12_key 69 = .ok (.iconst 0, 1) := by decide +kernel
theorem dX12_key_70 : decode cX12_key 70 = .ok (.istore 7, 2) := by decide +kernel
theorem dX12_key_72 : decode cX12_key 72 = .ok (.iconst 0, 1) := by decide +kernel
theorem dX12_key_73 : decode cX12_key 73 = .ok (.istore 8, 2) := by decide +kernel
theorem dX12_key_75 : decode cX12_key 75 = .ok (.iconst 0, 1) := by decide +kernel
theorem dX12_key_76 : decode cX12_key 76 = .ok (.istore 9, 2) := by decide +kernel
theorem dX12_key_78 : decode cX12_key 78 = .ok (.iload 9, 2) := by decide +kernel
theorem dX12_key_80 : decode cX12_key 80 = .ok (.aload_n 0, 1) := by decide +kernel
theorem dX12_key_81 : decode cX12_key 81 = .ok (.getfield 311, 3) := by decide +kernel
theorem dX12_key_84 : decode cX12_key 84 = .ok (.if_icmp .ge 168, 3) := by decide +kernel
theorem dX12_key_87 : decode cX12_key 87 = .ok (.lload 4, 2) := by decide +kernel
theorem dX12_key_89 : decode cX12_key 89 = .ok (.ldc2_w 337, 3) := by decide +kernel
theorem dX12_key_92 : decode cX12_key 92 = .ok (.lmul, 1) := by decide +kernel
theorem dX12_key_93 : decode cX12_key 93 = .ok (.ldc2_w 339, 3) := by decide +kernel
theorem dX12_key_96 : decode cX12_key 96 = .ok (.ladd, 1) := by decide +kernel
theorem dX12_key_97 : decode cX12_key 97 = .ok (.ldc2_w 341, 3) := by decide +kernel
theorem dX12_key_100 : decode cX12_key 100 = .ok (.land, 1) := by decide +kernel
theorem dX12_key_101 : decode cX12_key 101 = .ok (.lstore 4, 2) := by decide +kernel
theorem dX12_key_103 : decode cX12_key 103 = .ok (.aload_n 0, 1) := by decide +kernel
theorem dX12_key_104 : decode cX12_key 104 = .ok (.getfield 45, 3) := by decide +kernel
theorem dX12_key_107 : decode cX12_key 107 = .ok (.iconst 5, 1) := by decide +kernel
theorem dX12_key_108 : decode cX12_key 108 = .ok (.iload_n 1, 1) := by decide +kernel
theorem dX12_key_109 : decode cX12_key 109 = .ok (.imul, 1) := by decide +kernel
theorem dX12_key_110 : decode cX12_key 110 = .ok (.aload_n 0, 1) := by decide +kernel
theorem dX12_key_111 : decode cX12_key 111 = .ok (.getfield 75, 3) := by decide +kernel
theorem dX12_key_114 : decode cX12_key 114 = .ok (.iload 9, 2) := by decide +kernel
theorem dX12_key_116 : decode cX12_key 116 = .ok (.iaload, 1) := by decide +kernel
theorem dX12_key_117 : decode cX12_key 117 = .ok (.iadd, 1) := by decide +kernel
theorem dX12_key_118 : decode cX12_key 118 = .ok (.iaload, 1) := by decide +kernel
theorem dX12_key_119 : decode cX12_key 119 = .ok (.istore 10, 2) := by decide +kernel
theorem dX12_key_121 : decode cX12_key 121 = .ok (.iload 10, 2) := by decide +kernel
theorem dX12_key_123 : decode cX12_key 123 = .ok (.lload 4, 2) := by decide +kernel
theorem dX12_key_125 : decode cX12_key 125 = .ok (.ldc2_w 343, 3) := by decide +kernel
theorem dX12_key_128 : decode cX12_key 128 = .ok (.ldiv, 1) := by decide +kernel
theorem dX12_key_129 : decode cX12_key 129 = .ok (.aload_n 0, 1) := by decide +kernel
theorem dX12_key_130 : decode cX12_key 130 = .ok (.getfield 48, 3) := by decide +kernel
theorem dX12_key_133 : decode cX12_key 133 = .ok (.iconst 5, 1) := by decide +kernel
theorem dX12_key_134 : decode cX12_key 134 = .ok (.iload_n 1, 1) := by decide +kernel
theorem dX12_key_135 : decode cX12_key 135 = .ok (.imul, 1) := by decide +kernel
theorem dX12_key_136 : decode cX12_key 136 = .ok (.aload_n 0, 1) := by decide +kernel
theorem dX12_key_137 : decode cX12_key 137 = .ok (.getfield 75, 3) := by decide +kernel
theorem dX12_key_140 : decode cX12_key 140 = .ok (.iload 9, 2) := by decide +kernel
theorem dX12_key_142 : decode cX12_key 142 = .ok (.iaload, 1) := by decide +kernel
theorem dX12_key_143 : decode cX12_key 143 = .ok (.iadd, 1) := by decide +kernel
theorem dX12_key_144 : decode cX12_key 144 = .ok (.iaload, 1) := by decide +kernel
theorem dX12_key_145 : decode cX12_key 145 = .ok (.iload 10, 2) := by decide +kernel
theorem dX12_key_147 : decode cX12_key 147 = .ok (.isub, 1) := by decide +kernel
theorem dX12_key_148 : decode cX12_key 148 = .ok (.iconst 1, 1) := by decide +kernel
theorem dX12_key_149 : decode cX12_key 149 = .ok (.iadd, 1) := by decide +kernel
theorem dX12_key_150 : decode cX12_key 150 = .ok (.i2l, 1) := by decide +kernel
theorem dX12_key_151 : decode cX12_key 151 = .ok (.lrem, 1) := by decide +kernel
theorem dX12_key_152 : decode cX12_key 152 = .ok (.l2i, 1) := by decide +kernel
theorem dX12_key_153 : decode cX12_key 153 = .ok (.iadd, 1) := by decide +kernel
theorem dX12_key_154 : decode cX12_key 154 = .ok (.istore 11, 2) := by decide +kernel
theorem dX12_key_156 : decode cX12_key 156 = .ok (.iload 9, 2) := by decide +kernel
theorem dX12_key_158 : decode cX12_key 158 = .ok (.iconst 2, 1) := by decide +kernel
theorem dX12_key_159 : decode cX12_key 159 = .ok (.irem, 1) := by decide +kernel
theorem dX12_key_160 : decode cX12_key 160 = .ok (.iconst 1, 1) := by decide +kernel
theorem dX12_key_161 : decode cX12_key 161 = .ok (.if_icmp .eq 10, 3) := by decide +kernel
theorem dX12_key_164 : decode cX12_key 164 = .ok (.iload 11, 2) := by decide +kernel
theorem dX12_key_166 : decode cX12_key 166 = .ok (.iload 6, 2) := by decide +kernel
theorem dX12_key_168 : decode cX12_key 168 = .ok (.if_icmp .gt 13, 3) := by decide +kernel
theorem dX12_key_171 : decode cX12_key 171 = .ok (.iload 7, 2) := by decide +kernel
theorem dX12_key_173 : decode cX12_key 173 = .ok (.iload 11, 2) := by decide +kernel
theorem dX12_key_175 : decode cX12_key 175 = .ok (.iadd, 1) := by decide +kernel
theorem dX12_key_176 : decode cX12_key 176 = .ok (.istore 7, 2) := by decide +kernel
theorem dX12_key_178 : decode cX12_key 178 = .ok (.goto 68, 3) := by decide +kernel
theorem dX12_key_181 : decode cX12_key 181 = .ok (.iload 8, 2) := by decide +kernel
theorem dX12_key_183 : decode cX12_key 183 = .ok (.ifCond .eq 33, 3) := by decide +kernel
theorem dX12_key_186 : decode cX12_key 186 = .ok (.aload_n 0, 1) := by decide +kernel
theorem dX12_key_187 : decode cX12_key 187 = .ok (.getfield 63, 3) := by decide +kernel
theorem dX12_key_190 : decode cX12_key 190 = .ok (.aload_n 0, 1) := by decide +kernel
theorem dX12_key_191 : decode cX12_key 191 = .ok (.getfield 260, 3) := by decide +kernel
theorem dX12_key_194 : decode cX12_key 194 = .ok (.sipush 999, 3) := by decide +kernel
theorem dX12_key_197 : decode cX12_key 197 = .ok (.iload 7, 2) := by decide +kernel
theorem dX12_key_199 : decode cX12_key 199 = .ok (.iload 6, 2) := by decide +kernel
theorem dX12_key_201 : decode cX12_key 201 = .ok (.iadd, 1) := by decide +kernel
theorem dX12_key_202 : decode cX12_key 202 = .ok (.invokestatic 301, 3) := by decide +kernel
theorem dX12_key_205 : decode cX12_key 205 = .ok (.iastore, 1) := by decide +kernel
theorem dX12_key_206 : decode cX12_key 206 = .ok (.aload_n 0, 1) := by decide +kernel
theorem dX12_key_207 : decode cX12_key 207 = .ok (.dup, 1) := by decide +kernel
theorem dX12_key_208 : decode cX12_key 208 = .ok (.getfield 260, 3) := by decide +kernel
theorem dX12_key_211 : decode cX12_key 211 = .ok (.iconst 1, 1) := by decide +kernel
theorem dX12_key_212 : decode cX12_key 212 = .ok (.iadd, 1) := by decide +kernel
theorem dX12_key_213 : decode cX12_key 213 = .ok (.putfield 260, 3) := by decide +kernel
theorem dX12_key_216 : decode cX12_key 216 = .ok (.aload_n 0, 1) := by decide +kernel
theorem dX12_key_217 : decode cX12_key 217 = .ok (.getfield 63, 3) := by decide +kernel
theorem dX12_key_220 : decode cX12_key 220 = .ok (.aload_n 0, 1) := by decide +kernel
theorem dX12_key_221 : decode cX12_key 221 = .ok (.getfield 260, 3) := by decide +kernel
theorem dX12_key_224 : decode cX12_key 224 = .ok (.iload 11, 2) := by decide +kernel
theorem dX12_key_226 : decode cX12_key 226 = .ok (.iload 6, 2) := by decide +kernel
theorem dX12_key_228 : decode cX12_key 228 = .ok (.isub, 1) := by decide +kernel
theorem dX12_key_229 : decode cX12_key 229 = .ok (.iastore, 1) := by decide +kernel
theorem dX12_key_230 : decode cX12_key 230 = .ok (.aload_n 0, 1) := by decide +kernel
theorem dX12_key_231 : decode cX12_key 231 = .ok (.dup, 1) := by decide +kernel
theorem dX12_key_232 : decode cX12_key 232 = .ok (.getfield 260, 3) := by decide +kernel
theorem dX12_key_235 : decode cX12_key 235 = .ok (.iconst 1, 1) := by decide +kernel
theorem dX12_key_236 : decode cX12_key 236 = .ok (.iadd, 1) := by decide +kernel
theorem dX12_key_237 : decode cX12_key 237 = .ok (.putfield 260, 3) := by decide +kernel
theorem dX12_key_240 : decode cX12_key 240 = .ok (.iconst 1, 1) := by decide +kernel
theorem dX12_key_241 : decode cX12_key 241 = .ok (.istore 8, 2) := by decide +kernel
theorem dX12_key_243 : decode cX12_key 243 = .ok (.iconst 0, 1) := by decide +kernel
theorem dX12_key_244 : decode cX12_key 244 = .ok (.istore 7, 2) := by decide +kernel
theorem dX12_key_246 : decode cX12_key 246 = .ok (.iinc 9 1, 3) := by decide +kernel
theorem dX12_key_249 : decode cX12_key 249 = .ok (.goto (-171), 3) := by decide +kernel
theorem dX12_key_252 : decode cX12_key 252 = .ok (.aload_n 0, 1) := by decide +kernel
theorem dX12_key_253 : decode cX12_key 253 = .ok (.getfield 260, 3) := by decide +kernel
theorem dX12_key_256 : decode cX12_key 256 = .ok (.ireturn, 1) := by decide +kernel
theorem dX12_mended_0 : decode cX12_mended 0 = .ok (.iload_n 1, 1) := by decide +kernel
theorem dX12_mended_1 : decode cX12_mended 1 = .ok (.i2l, 1) := by decide +kernel
theorem dX12_mended_2 : decode cX12_mended 2 = .ok (.lconst 0, 1) := by decide +kernel
theorem dX12_mended_3 : decode cX12_mended 3 = .ok (.ldc2_w 345, 3) := by decide +kernel
theorem dX12_mended_6 : decode cX12_mended 6 = .ok (.invokestatic 155, 3) := by decide +kernel
theorem dX12_mended_9 : decode cX12_mended 9 = .ok (.ifCond .eq 15, 3) := by decide +kernel
theorem dX12_mended_12 : decode cX12_mended 12 = .ok (.iload_n 2, 1) := by decide +kernel
theorem dX12_mended_13 : decode cX12_mended 13 = .ok (.i2l, 1) := by decide +kernel
theorem dX12_mended_14 : decode cX12_mended 14 = .ok (.lconst 0, 1) := by decide +kernel
theorem dX12_mended_15 : decode cX12_mended 15 = .ok (.ldc2_w 347, 3) := by decide +kernel
theorem dX12_mended_18 : decode cX12_mended 18 = .ok (.invokestatic 155, 3) := by decide +kernel
theorem dX12_mended_21 : decode cX12_mended 21 = .ok (.ifCond .ne 5, 3) := by decide +kernel
theorem dX12_mended_24 : decode cX12_mended 24 = .ok (.iconst (-1), 1) := by decide +kernel
theorem dX12_mended_25 : decode cX12_mended 25 = .ok (.ireturn, 1) := by decide +kernel
theorem dX12_mended_26 : decode cX12_mended 26 = .ok (.iconst 0, 1) := by decide +kernel
theorem dX12_mended_27 : decode cX12_mended 27 = .ok (.istore 4, 2) := by decide +kernel
theorem dX12_mended_29 : decode cX12_mended 29 = .ok (.iconst 0, 1) := by decide +kernel
theorem dX12_mended_30 : decode cX12_mended 30 = .ok (.istore 5, 2) := by decide +kernel
theorem dX12_mended_32 : decode cX12_mended 32 = .ok (.iload 5, 2) := by decide +kernel
theorem dX12_mended_34 : decode cX12_mended 34 = .ok (.aload_n 0, 1) := by decide +kernel
theorem dX12_mended_35 : decode cX12_mended 35 = .ok (.getfield 30, 3) := by decide +kernel
theorem dX12_mended_38 : decode cX12_mended 38 = .ok (.iconst 0, 1) := by decide +kernel
theorem dX12_mended_39 : decode cX12_mended 39 = .ok (.iaload, 1) := by decide +kernel
theorem dX12_mended_40 : decode cX12_mended 40 = .ok (.if_icmp .ge 99, 3) := by decide +kernel
theorem dX12_mended_43 : decode cX12_mended 43 = .ok (.iload_n 1, 1) := by decide +kernel
theorem dX12_mended_44 : decode cX12_mended 44 = .ok (.istore 6, 2) := by decide +kernel
theorem dX12_mended_46 : decode cX12_mended 46 = .ok (.aload_n 0, 1) := by decide +kernel
theorem dX12_mended_47 : decode cX12_mended 47 = .ok (.getfield 18, 3) := by decide +kernel
theorem dX12_mended_50 : decode cX12_mended 50 = .ok (.iconst 0, 1) := by decide +kernel
theorem dX12_mended_51 : decode cX12_mended 51 = .ok (.aaload, 1) := by decide +kernel
theorem dX12_mended_52 : decode cX12_mended 52 = .ok (.iload 5, 2) := by decide +kernel
theorem dX12_mended_54 : decode cX12_mended 54 = .ok (.iaload, 1) := by decide +kernel
theorem dX12_mended_55 : decode cX12_mended 55 = .ok (.istore 7, 2) := by decide +kernel
theorem dX12_mended_57 : decode cX12_mended 57 = .ok (.iconst 0, 1) := by decide +kernel
theorem dX12_mended_58 : decode cX12_mended 58 = .ok (.istore 8, 2) := by decide +kernel
theorem dX12_mended_60 : decode cX12_mended 60 = .ok (.iconst 0, 1) := by decide +kernel
theorem dX12_mended_61 : decode cX12_mended 61 = .ok (.istore 9, 2) := by decide +kernel
theorem dX12_mended_63 : decode cX12_mended 63 = .ok (.iload 9, 2) := by decide +kernel
theorem dX12_mended_65 : decode cX12_mended 65 = .ok (.iconst 3, 1) := by decide +kernel
theorem dX12_mended_66 : decode cX12_mended 66 = .ok (.if_icmp .ge 46, 3) := by decide +kernel
theorem dX12_mended_69 : decode cX12_mended 69 = .ok (.iload 8, 2) := by decide +kernel
theorem dX12_mended_71 : decode cX12_mended 71 = .ok (.iload 6, 2) := by decide +kernel
theorem dX12_mended_73 : decode cX12_mended 73 = .ok (.bipush 26, 2) := by decide +kernel
theorem dX12_mended_75 : decode cX12_mended 75 = .ok (.irem, 1) := by decide +kernel
theorem dX12_mended_76 : decode cX12_mended 76 = .ok (.iload 7, 2) := by decide +kernel
theorem dX12_mended_78 : decode cX12_mended 78 = .ok (.bipush 26, 2) := by decide +kernel
theorem dX12_mended_80 : decode cX12_mended 80 = .ok (.irem, 1) := by decide +kernel
theorem dX12_mended_81 : decode cX12_mended 81 = .ok (.if_icmp .eq 7, 3) := by decide +kernel
theorem dX12_mended_84 : decode cX12_mended 84 = .ok (.iconst 1, 1) := by decide +kernel
theorem dX12_mended_85 : decode cX12_mended 85 = .ok (.goto 4, 3) := by decide +kernel
theorem dX12_mended_88 : decode cX12_mended 88 = .ok (.iconst 0, 1) := by decide +kernel
theorem dX12_mended_89 : decode cX12_mended 89 = .ok (.iadd, 1) := by decide +kernel
theorem dX12_mended_90 : decode cX12_mended 90 = .ok (.istore 8, 2) := by decide +kernel
theorem dX12_mended_92 : decode cX12_mended 92 = .ok (.iload 6, 2) := by decide +kernel
theorem dX12_mended_94 : decode cX12_mended 94 = .ok (.bipush 26, 2) := by decide +kernel
theorem dX12_mended_96 : decode cX12_mended 96 = .ok (.idiv, 1) := by decide +kernel
theorem dX12_mended_97 : decode cX12_mended 97 = .ok (.istore 6, 2) := by decide +kernel
theorem dX12_mended_99 : decode cX12_mended 99 = .ok (.iload 7, 2) := by decide +kernel
theorem dX12_mended_101 : decode cX12_mended 101 = .ok (.bipush 26, 2) := by decide +kernel
theorem dX12_mended_103 : decode cX12_mended 103 = .ok (.idiv, 1) := by decide +kernel
theorem dX12_mended_104 : decode cX12_mended 104 = .ok (.istore 7, 2) := by decide +kernel
theorem dX12_mended_106 : decode cX12_mended 106 = .ok (.iinc 9 1, 3) := by decide +kernel
theorem dX12_mended_109 : decode cX12_mended 109 = .ok (.goto (-46), 3) := by decide +kernel
theorem dX12_mended_112 : decode cX12_mended 112 = .ok (.iload 8, 2) := by decide +kernel
theorem dX12_mended_114 : decode cX12_mended 114 = .ok (.iload_n 2, 1) := by decide +kernel
theorem dX12_mended_115 : decode cX12_mended 115 = .ok (.if_icmp .le 6, 3) := by decide +kernel
theorem dX12_mended_118 : decode cX12_mended 118 = .ok (.goto 15, 3) := by decide +kernel
theorem dX12_mended_121 : decode cX12_mended 121 = .ok (.iload 4, 2) := by decide +kernel
theorem dX12_mended_123 : decode cX12_mended 123 = .ok (.iload_n 3, 1) := by decide +kernel
theorem dX12_mended_124 : decode cX12_mended 124 = .ok (.if_icmp .ne 6, 3) := by decide +kernel
theorem dX12_mended_127 : decode cX12_mended 127 = .ok (.iload 5, 2) := by decide +kernel
theorem dX12_mended_129 : decode cX12_mended 129 = .ok (.ireturn, 1) := by decide +kernel
theorem dX12_mended_130 : decode cX12_mended 130 = .ok (.iinc 4 1, 3) := by decide +kernel
theorem dX12_mended_133 : decode cX12_mended 133 = .ok (.iinc 5 1, 3) := by decide +kernel
theorem dX12_mended_136 : decode cX12_mended 136 = .ok (.goto (-104), 3) := by decide +kernel
theorem dX12_mended_139 : decode cX12_mended 139 = .ok (.iload_n 3, 1) := by decide +kernel
theorem dX12_mended_140 : decode cX12_mended 140 = .ok (.iconst (-1), 1) := by decide +kernel
theorem dX12_mended_141 : decode cX12_mended 141 = .ok (.if_icmp .ne 8, 3) := by decide +kernel
theorem dX12_mended_144 : decode cX12_mended 144 = .ok (.iload 4, 2) := by decide +kernel
theorem dX12_mended_146 : decode cX12_mended 146 = .ok (.goto 4, 3) := by decide +kernel
theorem dX12_mended_149 : decode cX12_mended 149 = .ok (.iconst (-1), 1) := by decide +kernel
theorem dX12_mended_150 : decode cX12_mended 150 = .ok (.ireturn, 1) := by decide +kernel
theorem dX12_leads_0 : decode cX12_leads 0 = .ok (.iconst 0, 1) := by decide +kernel
theorem dX12_leads_1 : decode cX12_leads 1 = .ok (.istore_n 2, 1) := by decide +kernel
theorem dX12_leads_2 : decode cX12_leads 2 = .ok (.iload_n 2, 1) := by decide +kernel
theorem dX12_leads_3 : decode cX12_leads 3 = .ok (.bipush 6, 2) := by decide +kernel
theorem dX12_leads_5 : decode cX12_leads 5 = .ok (.if_icmp .ge 25, 3) := by decide +kernel
theorem dX12_leads_8 : decode cX12_leads 8 = .ok (.aload_n 0, 1) := by decide +kernel
theorem dX12_leads_9 : decode cX12_leads 9 = .ok (.getfield 96, 3) := by decide +kernel
theorem dX12_leads_12 : decode cX12_leads 12 = .ok (.iload_n 2, 1) := by decide +kernel
theorem dX12_leads_13 : decode cX12_leads 13 = .ok (.iload_n 2, 1) := by decide +kernel
theorem dX12_leads_14 : decode cX12_leads 14 = .ok (.iload_n 1, 1) := by decide +kernel
theorem dX12_leads_15 : decode cX12_leads 15 = .ok (.if_icmp .ne 7, 3) := by decide +kernel
theorem dX12_leads_18 : decode cX12_leads 18 = .ok (.iconst 0, 1) := by decide +kernel
theorem dX12_leads_19 : decode cX12_leads 19 = .ok (.goto 4, 3) := by decide +kernel
theorem dX12_leads_22 : decode cX12_leads 22 = .ok (.iconst (-1), 1) := by decide +kernel
theorem dX12_leads_23 : decode cX12_leads 23 = .ok (.iastore, 1) := by decide +kernel
theorem dX12_leads_24 : decode cX12_leads 24 = .ok (.iinc 2 1, 3) := by decide +kernel
theorem dX12_leads_27 : decode cX12_leads 27 = .ok (.goto (-25), 3) := by decide +kernel
theorem dX12_leads_30 : decode cX12_leads 30 = .ok (.iconst 0, 1) := by decide +kernel
theorem dX12_leads_31 : decode cX12_leads 31 = .ok (.istore_n 2, 1) := by decide +kernel
theorem dX12_leads_32 : decode cX12_leads 32 = .ok (.iload_n 2, 1) := by decide +kernel
theorem dX12_leads_33 : decode cX12_leads 33 = .ok (.bipush 6, 2) := by decide +kernel
theorem dX12_leads_35 : decode cX12_leads 35 = .ok (.if_icmp .ge 69, 3) := by decide +kernel
theorem dX12_leads_38 : decode cX12_leads 38 = .ok (.iconst 0, 1) := by decide +kernel
theorem dX12_leads_39 : decode cX12_leads 39 = .ok (.istore_n 3, 1) := by decide +kernel
theorem dX12_leads_40 : decode cX12_leads 40 = .ok (.iload_n 3, 1) := by decide +kernel
theorem dX12_leads_41 : decode cX12_leads 41 = .ok (.aload_n 0, 1) := by decide +kernel
theorem dX12_leads_42 : decode cX12_leads 42 = .ok (.getfield 243, 3) := by decide +kernel
theorem dX12_leads_45 : decode cX12_leads 45 = .ok (.if_icmp .ge 53, 3) := by decide +kernel
theorem dX12_leads_48 : decode cX12_leads 48 = .ok (.aload_n 0, 1) := by decide +kernel
theorem dX12_leads_49 : decode cX12_leads 49 = .ok (.getfield 96, 3) := by decide +kernel
theorem dX12_leads_52 : decode cX12_leads 52 = .ok (.aload_n 0, 1) := by decide +kernel
theorem dX12_leads_53 : decode cX12_leads 53 = .ok (.getfield 54, 3) := by decide +kernel
theorem dX12_leads_56 : decode cX12_leads 56 = .ok (.iload_n 3, 1) := by decide +kernel
theorem dX12_leads_57 : decode cX12_leads 57 = .ok (.iaload, 1) := by decide +kernel
theorem dX12_leads_58 : decode cX12_leads 58 = .ok (.iaload, 1) := by decide +kernel
theorem dX12_leads_59 : decode cX12_leads 59 = .ok (.iload_n 2, 1) := by decide +kernel
theorem dX12_leads_60 : decode cX12_leads 60 = .ok (.if_icmp .ne 32, 3) := by decide +kernel
theorem dX12_leads_63 : decode cX12_leads 63 = .ok (.aload_n 0, 1) := by decide +kernel
theorem dX12_leads_64 : decode cX12_leads 64 = .ok (.getfield 96, 3) := by decide +kernel
theorem dX12_leads_67 : decode cX12_leads 67 = .ok (.aload_n 0, 1) := by decide +kernel
theorem dX12_leads_68 : decode cX12_leads 68 = .ok (.getfield 51, 3) := by decide +kernel
theorem dX12_leads_71 : decode cX12_leads 71 = .ok (.iload_n 3, 1) := by decide +kernel
theorem dX12_leads_72 : decode cX12_leads 72 = .ok (.iaload, 1) := by decide +kernel
theorem dX12_leads_73 : decode cX12_leads 73 = .ok (.iaload, 1) := by decide +kernel
theorem dX12_leads_74 : decode cX12_leads 74 = .ok (.iconst (-1), 1) := by decide +kernel
theorem dX12_leads_75 : decode cX12_leads 75 = .ok (.if_icmp .ne 17, 3) := by decide +kernel
theorem dX12_leads_78 : decode cX12_leads 78 = .ok (.aload_n 0, 1) := by decide +kernel
theorem dX12_leads_79 : decode cX12_leads 79 = .ok (.getfield 96, 3) := by decide +kernel
theorem dX12_leads_82 : decode cX12_leads 82 = .ok (.aload_n 0, 1) := by decide +kernel
theorem dX12_leads_83 : decode cX12_leads 83 = .ok (.getfield 51, 3) := by decide +kernel
theorem dX12_leads_86 : decode cX12_leads 86 = .ok (.iload_n 3, 1) := by decide +kernel
theorem dX12_leads_87 : decode cX12_leads 87 = .ok (.iaload, 1) := by decide +kernel
theorem dX12_leads_88 : decode cX12_leads 88 = .ok (.iload_n 2, 1) := by decide +kernel
theorem dX12_leads_89 : decode cX12_leads 89 = .ok (.iconst 1, 1) := by decide +kernel
theorem dX12_leads_90 : decode cX12_leads 90 = .ok (.iadd, 1) := by decide +kernel
theorem dX12_leads_91 : decode cX12_leads 91 = .ok (.iastore, 1) := by decide +kernel
theorem dX12_leads_92 : decode cX12_leads 92 = .ok (.iinc 3 1, 3) := by decide +kernel
theorem dX12_leads_95 : decode cX12_leads 95 = .ok (.goto (-55), 3) := by decide +kernel
theorem dX12_leads_98 : decode cX12_leads 98 = .ok (.iinc 2 1, 3) := by decide +kernel
theorem dX12_leads_101 : decode cX12_leads 101 = .ok (.goto (-69), 3) := by decide +kernel
theorem dX12_leads_104 : decode cX12_leads 104 = .ok (.return_, 1) := by decide +kernel
theorem dX12_firstLine_0 : decode cX12_firstLine 0 = .ok (.aload_n 0, 1) := by decide +kernel
theorem dX12_firstLine_1 : decode cX12_firstLine 1 = .ok (.iload_n 2, 1) := by decide +kernel
theorem dX12_firstLine_2 : decode cX12_firstLine 2 = .ok (.invokevirtual 349, 3) := by decide +kernel
theorem dX12_firstLine_5 : decode cX12_firstLine 5 = .ok (.aload_n 0, 1) := by decide +kernel
theorem dX12_firstLine_6 : decode cX12_firstLine 6 = .ok (.getfield 96, 3) := by decide +kernel
theorem dX12_firstLine_9 : decode cX12_firstLine 9 = .ok (.iload_n 1, 1) := by decide +kernel
theorem dX12_firstLine_10 : decode cX12_firstLine 10 = .ok (.iaload, 1) := by decide +kernel
theorem dX12_firstLine_11 : decode cX12_firstLine 11 = .ok (.ifCond .gt 5, 3) := by decide +kernel
theorem dX12_firstLine_14 : decode cX12_firstLine 14 = .ok (.iconst (-1), 1) := by decide +kernel
theorem dX12_firstLine_15 : decode cX12_firstLine 15 = .ok (.ireturn, 1) := by decide +kernel
theorem dX12_firstLine_16 : decode cX12_firstLine 16 = .ok (.iconst 0, 1) := by decide +kernel
theorem dX12_firstLine_17 : decode cX12_firstLine 17 = .ok (.istore_n 3, 1) := by decide +kernel
theorem dX12_firstLine_18 : decode cX12_firstLine 18 = .ok (.iload_n 3, 1) := by decide +kernel
theorem dX12_firstLine_19 : decode cX12_firstLine 19 = .ok (.aload_n 0, 1) := by decide +kernel
theorem dX12_firstLine_20 : decode cX12_firstLine 20 = .ok (.getfield 243, 3) := by decide +kernel
theorem dX12_firstLine_23 : decode cX12_firstLine 23 = .ok (.if_icmp .ge 43, 3) := by decide +kernel
theorem dX12_firstLine_26 : decode cX12_firstLine 26 = .ok (.aload_n 0, 1) := by decide +kernel
theorem dX12_firstLine_27 : decode cX12_firstLine 27 = .ok (.getfield 51, 3) := by decide +kernel
theorem dX12_firstLine_30 : decode cX12_firstLine 30 = .ok (.iload_n 3, 1) := by decide +kernel
theorem dX12_firstLine_31 : decode cX12_firstLine 31 = .ok (.iaload, 1) := by decide +kernel
theorem dX12_firstLine_32 : decode cX12_firstLine 32 = .ok (.iload_n 1, 1) := by decide +kernel
theorem dX12_firstLine_33 : decode cX12_firstLine 33 = .ok (.if_icmp .ne 27, 3) := by decide +kernel
theorem dX12_firstLine_36 : decode cX12_firstLine 36 = .ok (.aload_n 0, 1) := by decide +kernel
theorem dX12_firstLine_37 : decode cX12_firstLine 37 = .ok (.getfield 96, 3) := by decide +kernel
theorem dX12_firstLine_40 : decode cX12_firstLine 40 = .ok (.aload_n 0, 1) := by decide +kernel
theorem dX12_firstLine_41 : decode cX12_firstLine 41 = .ok (.getfield 54, 3) := by decide +kernel
theorem dX12_firstLine_44 : decode cX12_firstLine 44 = .ok (.iload_n 3, 1) := by decide +kernel
theorem dX12_firstLine_45 : decode cX12_firstLine 45 = .ok (.iaload, 1) := by decide +kernel
theorem dX12_firstLine_46 : decode cX12_firstLine 46 = .ok (.iaload, 1) := by decide +kernel
theorem dX12_firstLine_47 : decode cX12_firstLine 47 = .ok (.aload_n 0, 1) := by decide +kernel
theorem dX12_firstLine_48 : decode cX12_firstLine 48 = .ok (.getfield 96, 3) := by decide +kernel
theorem dX12_firstLine_51 : decode cX12_firstLine 51 = .ok (.iload_n 1, 1) := by decide +kernel
theorem dX12_firstLine_52 : decode cX12_firstLine 52 = .ok (.iaload, 1) := by decide +kernel
theorem dX12_firstLine_53 : decode cX12_firstLine 53 = .ok (.iconst 1, 1) := by decide +kernel
theorem dX12_firstLine_54 : decode cX12_firstLine 54 = .ok (.isub, 1) := by decide +kernel
theorem dX12_firstLine_55 : decode cX12_firstLine 55 = .ok (.if_icmp .ne 5, 3) := by decide +kernel
theorem dX12_firstLine_58 : decode cX12_firstLine 58 = .ok (.iload_n 3, 1) := by decide +kernel
theorem dX12_firstLine_59 : decode cX12_firstLine 59 = .ok (.ireturn, 1) := by decide +kernel
theorem dX12_firstLine_60 : decode cX12_firstLine 60 = .ok (.iinc 3 1, 3) := by decide +kernel
theorem dX12_firstLine_63 : decode cX12_firstLine 63 = .ok (.goto (-45), 3) := by decide +kernel
theorem dX12_firstLine_66 : decode cX12_firstLine 66 = .ok (.iconst (-1), 1) := by decide +kernel
theorem dX12_firstLine_67 : decode cX12_firstLine 67 = .ok (.ireturn, 1) := by decide +kernel
theorem dX12_route_0 : decode cX12_route 0 = .ok (.iload_n 1, 1) := by decide +kernel
theorem dX12_route_1 : decode cX12_route 1 = .ok (.invokestatic 236, 3) := by decide +kernel
theorem dX12_route_4 : decode cX12_route 4 = .ok (.ifCond .eq 20, 3) := by decide +kernel
theorem dX12_route_7 : decode cX12_route 7 = .ok (.iload_n 2, 1) := by decide +kernel
theorem dX12_route_8 : decode cX12_route 8 = .ok (.invokestatic 236, 3) := by decide +kernel
theorem dX12_route_11 : decode cX12_route 11 = .ok (.ifCond .eq 13, 3) := by decide +kernel
theorem dX12_route_14 : decode cX12_route 14 = .ok (.aload_n 0, 1) := by decide +kernel
theorem dX12_route_15 : decode cX12_route 15 = .ok (.iload_n 1, 1) := by decide +kernel
theorem dX12_route_16 : decode cX12_route 16 = .ok (.iload_n 2, 1) := by decide +kernel
theorem dX12_route_17 : decode cX12_route 17 = .ok (.invokevirtual 352, 3) := by decide +kernel
theorem dX12_route_20 : decode cX12_route 20 = .ok (.iconst (-1), 1) := by decide +kernel
theorem dX12_route_21 : decode cX12_route 21 = .ok (.if_icmp .ne 5, 3) := by decide +kernel
theorem dX12_route_24 : decode cX12_route 24 = .ok (.iconst (-1), 1) := by decide +kernel
theorem dX12_route_25 : decode cX12_route 25 = .ok (.ireturn, 1) := by decide +kernel
theorem dX12_route_26 : decode cX12_route 26 = .ok (.iload_n 1, 1) := by decide +kernel
theorem dX12_route_27 : decode cX12_route 27 = .ok (.istore 4, 2) := by decide +kernel
theorem dX12_route_29 : decode cX12_route 29 = .ok (.iconst 0, 1) := by decide +kernel
theorem dX12_route_30 : decode cX12_route 30 = .ok (.istore 5, 2) := by decide +kernel
theorem dX12_route_32 : decode cX12_route 32 = .ok (.iload 4, 2) := by decide +kernel
theorem dX12_route_34 : decode cX12_route 34 = .ok (.iload_n 2, 1) := by decide +kernel
theorem dX12_route_35 : decode cX12_route 35 = .ok (.if_icmp .eq 36, 3) := by decide +kernel
theorem dX12_route_38 : decode cX12_route 38 = .ok (.aload_n 0, 1) := by decide +kernel
theorem dX12_route_39 : decode cX12_route 39 = .ok (.iload 4, 2) := by decide +kernel
theorem dX12_route_41 : decode cX12_route 41 = .ok (.iload_n 2, 1) := by decide +kernel
theorem dX12_route_42 : decode cX12_route 42 = .ok (.invokevirtual 352, 3) := by decide +kernel
theorem dX12_route_45 : decode cX12_route 45 = .ok (.istore 6, 2) := by decide +kernel
theorem dX12_route_47 : decode cX12_route 47 = .ok (.iload 5, 2) := by decide +kernel
theorem dX12_route_49 : decode cX12_route 49 = .ok (.iload_n 3, 1) := by decide +kernel
theorem dX12_route_50 : decode cX12_route 50 = .ok (.if_icmp .ne 6, 3) := by decide +kernel
theorem dX12_route_53 : decode cX12_route 53 = .ok (.iload 6, 2) := by decide +kernel
theorem dX12_route_55 : decode cX12_route 55 = .ok (.ireturn, 1) := by decide +kernel
theorem dX12_route_56 : decode cX12_route 56 = .ok (.iinc 5 1, 3) := by decide +kernel
theorem dX12_route_59 : decode cX12_route 59 = .ok (.aload_n 0, 1) := by decide +kernel
theorem dX12_route_60 : decode cX12_route 60 = .ok (.getfield 54, 3) := by decide +kernel
theorem dX12_route_63 : decode cX12_route 63 = .ok (.iload 6, 2) := by decide +kernel
theorem dX12_route_65 : decode cX12_route 65 = .ok (.iaload, 1) := by decide +kernel
theorem dX12_route_66 : decode cX12_route 66 = .ok (.istore 4, 2) := by decide +kernel
theorem dX12_route_68 : decode cX12_route 68 = .ok (.goto (-36), 3) := by decide +kernel
theorem dX12_route_71 : decode cX12_route 71 = .ok (.iload_n 3, 1) := by decide +kernel
theorem dX12_route_72 : decode cX12_route 72 = .ok (.iconst (-1), 1) := by decide +kernel
theorem dX12_route_73 : decode cX12_route 73 = .ok (.if_icmp .ne 8, 3) := by decide +kernel
theorem dX12_route_76 : decode cX12_route 76 = .ok (.iload 5, 2) := by decide +kernel
theorem dX12_route_78 : decode cX12_route 78 = .ok (.goto 4, 3) := by decide +kernel
theorem dX12_route_81 : decode cX12_route 81 = .ok (.iconst (-1), 1) := by decide +kernel
theorem dX12_route_82 : decode cX12_route 82 = .ok (.ireturn, 1) := by decide +kernel
theorem dX12_message_0 : decode cX12_message 0 = .ok (.iload_n 1, 1) := by decide +kernel
theorem dX12_message_1 : decode cX12_message 1 = .ok (.ifCond .lt 78, 3) := by decide +kernel
theorem dX12_message_4 : decode cX12_message 4 = .ok (.iload_n 2, 1) := by decide +kernel
theorem dX12_message_5 : decode cX12_message 5 = .ok (.ifCond .lt 74, 3) := by decide +kernel
theorem dX12_message_8 : decode cX12_message 8 = .ok (.iload_n 1, 1) := by decide +kernel
theorem dX12_message_9 : decode cX12_message 9 = .ok (.bipush 10, 2) := by decide +kernel
theorem dX12_message_11 : decode cX12_message 11 = .ok (.idiv, 1) := by decide +kernel
theorem dX12_message_12 : decode cX12_message 12 = .ok (.invokestatic 236, 3) := by decide +kernel
theorem dX12_message_15 : decode cX12_message 15 = .ok (.ifCond .eq 64, 3) := by decide +kernel
theorem dX12_message_18 : decode cX12_message 18 = .ok (.iload_n 1, 1) := by decide +kernel
theorem dX12_message_19 : decode cX12_message 19 = .ok (.bipush 10, 2) := by decide +kernel
theorem dX12_message_21 : decode cX12_message 21 = .ok (.irem, 1) := by decide +kernel
theorem dX12_message_22 : decode cX12_message 22 = .ok (.invokestatic 236, 3) := by decide +kernel
theorem dX12_message_25 : decode cX12_message 25 = .ok (.ifCond .eq 54, 3) := by decide +kernel
theorem dX12_message_28 : decode cX12_message 28 = .ok (.iload_n 2, 1) := by decide +kernel
theorem dX12_message_29 : decode cX12_message 29 = .ok (.bipush 100, 2) := by decide +kernel
theorem dX12_message_31 : decode cX12_message 31 = .ok (.idiv, 1) := by decide +kernel
theorem dX12_message_32 : decode cX12_message 32 = .ok (.i2l, 1) := by decide +kernel
theorem dX12_message_33 : decode cX12_message 33 = .ok (.lconst 0, 1) := by decide +kernel
theorem dX12_message_34 : decode cX12_message 34 = .ok (.ldc2_w 355, 3) := by decide +kernel
theorem dX12_message_37 : decode cX12_message 37 = .ok (.invokestatic 155, 3) := by decide +kernel
theorem dX12_message_40 : decode cX12_message 40 = .ok (.ifCond .eq 39, 3) := by decide +kernel
theorem dX12_message_43 : decode cX12_message 43 = .ok (.iload_n 2, 1) := by decide +kernel
theorem dX12_message_44 : decode cX12_message 44 = .ok (.bipush 100, 2) := by decide +kernel
theorem dX12_message_46 : decode cX12_message 46 = .ok (.irem, 1) := by decide +kernel
theorem dX12_message_47 : decode cX12_message 47 = .ok (.i2l, 1) := by decide +kernel
theorem dX12_message_48 : decode cX12_message 48 = .ok (.lconst 1, 1) := by decide +kernel
theorem dX12_message_49 : decode cX12_message 49 = .ok (.ldc2_w 357, 3) := by decide +kernel
theorem dX12_message_52 : decode cX12_message 52 = .ok (.invokestatic 155, 3) := by decide +kernel
theorem dX12_message_55 : decode cX12_message 55 = .ok (.ifCond .eq 24, 3) := by decide +kernel
theorem dX12_message_58 : decode cX12_message 58 = .ok (.iload_n 3, 1) := by decide +kernel
theorem dX12_message_59 : decode cX12_message 59 = .ok (.i2l, 1) := by decide +kernel
theorem dX12_message_60 : decode cX12_message 60 = .ok (.lconst 0, 1) := by decide +kernel
theorem dX12_message_61 : decode cX12_message 61 = .ok (.ldc2_w 347, 3) := by decide +kernel
theorem dX12_message_64 : decode cX12_message 64 = .ok (.invokestatic 155, 3) := by decide +kernel
theorem dX12_message_67 : decode cX12_message 67 = .ok (.ifCond .eq 12, 3) := by decide +kernel
theorem dX12_message_70 : decode cX12_message 70 = .ok (.aload_n 0, 1) := by decide +kernel
theorem dX12_message_71 : decode cX12_message 71 = .ok (.getfield 359, 3) := by decide +kernel
theorem dX12_message_74 : decode cX12_message 74 = .ok (.bipush 20, 2) := by decide +kernel
theorem dX12_message_76 : decode cX12_message 76 = .ok (.if_icmp .ne 5, 3) := by decide +kernel
theorem dX12_message_79 : decode cX12_message 79 = .ok (.iconst (-1), 1) := by decide +kernel
theorem dX12_message_80 : decode cX12_message 80 = .ok (.ireturn, 1) := by decide +kernel
theorem dX12_message_81 : decode cX12_message 81 = .ok (.aload_n 0, 1) := by decide +kernel
theorem dX12_message_82 : decode cX12_message 82 = .ok (.iload_n 1, 1) := by decide +kernel
theorem dX12_message_83 : decode cX12_message 83 = .ok (.bipush 10, 2) := by decide +kernel
theorem dX12_message_85 : decode cX12_message 85 = .ok (.idiv, 1) := by decide +kernel
theorem dX12_message_86 : decode cX12_message 86 = .ok (.iload_n 1, 1) := by decide +kernel
theorem dX12_message_87 : decode cX12_message 87 = .ok (.bipush 10, 2) := by decide +kernel
theorem dX12_message_89 : decode cX12_message 89 = .ok (.irem, 1) := by decide +kernel
theorem dX12_message_90 : decode cX12_message 90 = .ok (.invokevirtual 352, 3) := by decide +kernel
theorem dX12_message_93 : decode cX12_message 93 = .ok (.iconst (-1), 1) := by decide +kernel
theorem dX12_message_94 : decode cX12_message 94 = .ok (.if_icmp .ne 5, 3) := by decide +kernel
theorem dX12_message_97 : decode cX12_message 97 = .ok (.iconst (-1), 1) := by decide +kernel
theorem dX12_message_98 : decode cX12_message 98 = .ok (.ireturn, 1) := by decide +kernel
theorem dX12_message_99 : decode cX12_message 99 = .ok (.aload_n 0, 1) := by decide +kernel
theorem dX12_message_100 : decode cX12_message 100 = .ok (.getfield 81, 3) := by decide +kernel
theorem dX12_message_103 : decode cX12_message 103 = .ok (.aload_n 0, 1) := by decide +kernel
theorem dX12_message_104 : decode cX12_message 104 = .ok (.getfield 359, 3) := by decide +kernel
theorem dX12_message_107 : decode cX12_message 107 = .ok (.iload_n 1, 1) := by decide +kernel
theorem dX12_message_108 : decode cX12_message 108 = .ok (.bipush 10, 2) := by decide +kernel
theorem dX12_message_110 : decode cX12_message 110 = .ok (.idiv, 1) := by decide +kernel
theorem dX12_message_111 : decode cX12_message 111 = .ok (.iastore, 1) := by decide +kernel
theorem dX12_message_112 : decode cX12_message 112 = .ok (.aload_n 0, 1) := by decide +kernel
theorem dX12_message_113 : decode cX12_message 113 = .ok (.getfield 84, 3) := by decide +kernel
theorem dX12_message_116 : decode cX12_message 116 = .ok (.aload_n 0, 1) := by decide +kernel
theorem dX12_message_117 : decode cX12_message 117 = .ok (.getfield 359, 3) := by decide +kernel
theorem dX12_message_120 : decode cX12_message 120 = .ok (.iload_n 1, 1) := by decide +kernel
theorem dX12_message_121 : decode cX12_message 121 = .ok (.bipush 10, 2) := by decide +kernel
theorem dX12_message_123 : decode cX12_message 123 = .ok (.irem, 1) := by decide +kernel
theorem dX12_message_124 : decode cX12_message 124 = .ok (.iastore, 1) := by decide +kernel
theorem dX12_message_125 : decode cX12_message 125 = .ok (.aload_n 0, 1) := by decide +kernel
theorem dX12_message_126 : decode cX12_message 126 = .ok (.getfield 87, 3) := by decide +kernel
theorem dX12_message_129 : decode cX12_message 129 = .ok (.aload_n 0, 1) := by decide +kernel
theorem dX12_message_130 : decode cX12_message 130 = .ok (.getfield 359, 3) := by decide +kernel
theorem dX12_message_133 : decode cX12_message 133 = .ok (.iload_n 2, 1) := by decide +kernel
theorem dX12_message_134 : decode cX12_message 134 = .ok (.bipush 100, 2) := by decide +kernel
theorem dX12_message_136 : decode cX12_message 136 = .ok (.idiv, 1) := by decide +kernel
theorem dX12_message_137 : decode cX12_message 137 = .ok (.iastore, 1) := by decide +kernel
theorem dX12_message_138 : decode cX12_message 138 = .ok (.aload_n 0, 1) := by decide +kernel
theorem dX12_message_139 : decode cX12_message 139 = .ok (.getfield 90, 3) := by decide +kernel
theorem dX12_message_142 : decode cX12_message 142 = .ok (.aload_n 0, 1) := by decide +kernel
theorem dX12_message_143 : decode cX12_message 143 = .ok (.getfield 359, 3) := by decide +kernel
theorem dX12_message_146 : decode cX12_message 146 = .ok (.iload_n 2, 1) := by decide +kernel
theorem dX12_message_147 : decode cX12_message 147 = .ok (.bipush 100, 2) := by decide +kernel
theorem dX12_message_149 : decode cX12_message 149 = .ok (.irem, 1) := by decide +kernel
theorem dX12_message_150 : decode cX12_message 150 = .ok (.iastore, 1) := by decide +kernel
theorem dX12_message_151 : decode cX12_message 151 = .ok (.aload_n 0, 1) := by decide +kernel
theorem dX12_message_152 : decode cX12_message 152 = .ok (.getfield 93, 3) := by decide +kernel
theorem dX12_message_155 : decode cX12_message 155 = .ok (.aload_n 0, 1) := by decide +kernel
theorem dX12_message_156 : decode cX12_message 156 = .ok (.getfield 359, 3) := by decide +kernel
theorem dX12_message_159 : decode cX12_message 159 = .ok (.iload_n 3, 1) := by decide +kernel
theorem dX12_message_160 : decode cX12_message 160 = .ok (.iastore, 1) := by decide +kernel
theorem dX12_message_161 : decode cX12_message 161 = .ok (.aload_n 0, 1) := by decide +kernel
theorem dX12_message_162 : decode cX12_message 162 = .ok (.dup, 1) := by decide +kernel
theorem dX12_message_163 : decode cX12_message 163 = .ok (.getfield 359, 3) := by decide +kernel
theorem dX12_message_166 : decode cX12_message 166 = .ok (.iconst 1, 1) := by decide +kernel
theorem dX12_message_167 : decode cX12_message 167 = .ok (.iadd, 1) := by decide +kernel
theorem dX12_message_168 : decode cX12_message 168 = .ok (.putfield 359, 3) := by decide +kernel
theorem dX12_message_171 : decode cX12_message 171 = .ok (.aload_n 0, 1) := by decide +kernel
theorem dX12_message_172 : decode cX12_message 172 = .ok (.getfield 359, 3) := by decide +kernel
theorem dX12_message_175 : decode cX12_message 175 = .ok (.iconst 1, 1) := by decide +kernel
theorem dX12_message_176 : decode cX12_message 176 = .ok (.isub, 1) := by decide +kernel
theorem dX12_message_177 : decode cX12_message 177 = .ok (.ireturn, 1) := by decide +kernel
theorem dX12_chosen_0 : decode cX12_chosen 0 = .ok (.iconst (-1), 1) := by decide +kernel
theorem dX12_chosen_1 : decode cX12_chosen 1 = .ok (.istore_n 3, 1) := by decide +kernel
theorem dX12_chosen_2 : decode cX12_chosen 2 = .ok (.iconst 0, 1) := by decide +kernel
theorem dX12_chosen_3 : decode cX12_chosen 3 = .ok (.istore 4, 2) := by decide +kernel
theorem dX12_chosen_5 : decode cX12_chosen 5 = .ok (.iload 4, 2) := by decide +kernel
theorem dX12_chosen_7 : decode cX12_chosen 7 = .ok (.aload_n 0, 1) := by decide +kernel
theorem dX12_chosen_8 : decode cX12_chosen 8 = .ok (.getfield 359, 3) := by decide +kernel
theorem dX12_chosen_11 : decode cX12_chosen 11 = .ok (.if_icmp .ge 112, 3) := by decide +kernel
theorem dX12_chosen_14 : decode cX12_chosen 14 = .ok (.aload_n 0, 1) := by decide +kernel
theorem dX12_chosen_15 : decode cX12_chosen 15 = .ok (.getfield 99, 3) := by decide +kernel
theorem dX12_chosen_18 : decode cX12_chosen 18 = .ok (.iload 4, 2) := by decide +kernel
theorem dX12_chosen_20 : decode cX12_chosen 20 = .ok (.iaload, 1) := by decide +kernel
theorem dX12_chosen_21 : decode cX12_chosen 21 = .ok (.aload_n 0, 1) := by decide +kernel
theorem dX12_chosen_22 : decode cX12_chosen 22 = .ok (.getfield 51, 3) := by decide +kernel
theorem dX12_chosen_25 : decode cX12_chosen 25 = .ok (.iload_n 1, 1) := by decide +kernel
theorem dX12_chosen_26 : decode cX12_chosen 26 = .ok (.iaload, 1) := by decide +kernel
theorem dX12_chosen_27 : decode cX12_chosen 27 = .ok (.if_icmp .ne 90, 3) := by decide +kernel
theorem dX12_chosen_30 : decode cX12_chosen 30 = .ok (.aload_n 0, 1) := by decide +kernel
theorem dX12_chosen_31 : decode cX12_chosen 31 = .ok (.getfield 99, 3) := by decide +kernel
theorem dX12_chosen_34 : decode cX12_chosen 34 = .ok (.iload 4, 2) := by decide +kernel
theorem dX12_chosen_36 : decode cX12_chosen 36 = .ok (.iaload, 1) := by decide +kernel
theorem dX12_chosen_37 : decode cX12_chosen 37 = .ok (.aload_n 0, 1) := by decide +kernel
theorem dX12_chosen_38 : decode cX12_chosen 38 = .ok (.getfield 84, 3) := by decide +kernel
theorem dX12_chosen_41 : decode cX12_chosen 41 = .ok (.iload 4, 2) := by decide +kernel
theorem dX12_chosen_43 : decode cX12_chosen 43 = .ok (.iaload, 1) := by decide +kernel
theorem dX12_chosen_44 : decode cX12_chosen 44 = .ok (.if_icmp .eq 73, 3) := by decide +kernel
theorem dX12_chosen_47 : decode cX12_chosen 47 = .ok (.aload_n 0, 1) := by decide +kernel
theorem dX12_chosen_48 : decode cX12_chosen 48 = .ok (.getfield 120, 3) := by decide +kernel
theorem dX12_chosen_51 : decode cX12_chosen 51 = .ok (.iload 4, 2) := by decide +kernel
theorem dX12_chosen_53 : decode cX12_chosen 53 = .ok (.iaload, 1) := by decide +kernel
theorem dX12_chosen_54 : decode cX12_chosen 54 = .ok (.iload_n 1, 1) := by decide +kernel
theorem dX12_chosen_55 : decode cX12_chosen 55 = .ok (.if_icmp .eq 6, 3) := by decide +kernel
theorem dX12_chosen_58 : decode cX12_chosen 58 = .ok (.goto 59, 3) := by decide +kernel
theorem dX12_chosen_61 : decode cX12_chosen 61 = .ok (.iload_n 3, 1) := by decide +kernel
theorem dX12_chosen_62 : decode cX12_chosen 62 = .ok (.iconst (-1), 1) := by decide +kernel
theorem dX12_chosen_63 : decode cX12_chosen 63 = .ok (.if_icmp .eq 51, 3) := by decide +kernel
theorem dX12_chosen_66 : decode cX12_chosen 66 = .ok (.aload_n 0, 1) := by decide +kernel
theorem dX12_chosen_67 : decode cX12_chosen 67 = .ok (.getfield 93, 3) := by decide +kernel
theorem dX12_chosen_70 : decode cX12_chosen 70 = .ok (.iload 4, 2) := by decide +kernel
theorem dX12_chosen_72 : decode cX12_chosen 72 = .ok (.iaload, 1) := by decide +kernel
theorem dX12_chosen_73 : decode cX12_chosen 73 = .ok (.aload_n 0, 1) := by decide +kernel
theorem dX12_chosen_74 : decode cX12_chosen 74 = .ok (.getfield 93, 3) := by decide +kernel
theorem dX12_chosen_77 : decode cX12_chosen 77 = .ok (.iload_n 3, 1) := by decide +kernel
theorem dX12_chosen_78 : decode cX12_chosen 78 = .ok (.iaload, 1) := by decide +kernel
theorem dX12_chosen_79 : decode cX12_chosen 79 = .ok (.if_icmp .gt 35, 3) := by decide +kernel
theorem dX12_chosen_82 : decode cX12_chosen 82 = .ok (.aload_n 0, 1) := by decide +kernel
theorem dX12_chosen_83 : decode cX12_chosen 83 = .ok (.getfield 93, 3) := by decide +kernel
theorem dX12_chosen_86 : decode cX12_chosen 86 = .ok (.iload 4, 2) := by decide +kernel
theorem dX12_chosen_88 : decode cX12_chosen 88 = .ok (.iaload, 1) := by decide +kernel
theorem dX12_chosen_89 : decode cX12_chosen 89 = .ok (.aload_n 0, 1) := by decide +kernel
theorem dX12_chosen_90 : decode cX12_chosen 90 = .ok (.getfield 93, 3) := by decide +kernel
theorem dX12_chosen_93 : decode cX12_chosen 93 = .ok (.iload_n 3, 1) := by decide +kernel
theorem dX12_chosen_94 : decode cX12_chosen 94 = .ok (.iaload, 1) := by decide +kernel
theorem dX12_chosen_95 : decode cX12_chosen 95 = .ok (.if_icmp .ne 22, 3) := by decide +kernel
theorem dX12_chosen_98 : decode cX12_chosen 98 = .ok (.aload_n 0, 1) := by decide +kernel
theorem dX12_chosen_99 : decode cX12_chosen 99 = .ok (.getfield 102, 3) := by decide +kernel
theorem dX12_chosen_102 : decode cX12_chosen 102 = .ok (.iload 4, 2) := by decide +kernel
theorem dX12_chosen_104 : decode cX12_chosen 104 = .ok (.iaload, 1) := by decide +kernel
theorem dX12_chosen_105 : decode cX12_chosen 105 = .ok (.aload_n 0, 1) := by decide +kernel
theorem dX12_chosen_106 : decode cX12_chosen 106 = .ok (.getfield 102, 3) := by decide +kernel
theorem dX12_chosen_109 : decode cX12_chosen 109 = .ok (.iload_n 3, 1) := by decide +kernel
theorem dX12_chosen_110 : decode cX12_chosen 110 = .ok (.iaload, 1) := by decide +kernel
theorem dX12_chosen_111 : decode cX12_chosen 111 = .ok (.if_icmp .ge 6, 3) := by decide +kernel
theorem dX12_chosen_114 : decode cX12_chosen 114 = .ok (.iload 4, 2) := by decide +kernel
theorem dX12_chosen_116 : decode cX12_chosen 116 = .ok (.istore_n 3, 1) := by decide +kernel
theorem dX12_chosen_117 : decode cX12_chosen 117 = .ok (.iinc 4 1, 3) := by decide +kernel
theorem dX12_chosen_120 : decode cX12_chosen 120 = .ok (.goto (-115), 3) := by decide +kernel
theorem dX12_chosen_123 : decode cX12_chosen 123 = .ok (.iload_n 3, 1) := by decide +kernel
theorem dX12_chosen_124 : decode cX12_chosen 124 = .ok (.ireturn, 1) := by decide +kernel
theorem dX12_comesTo_0 : decode cX12_comesTo 0 = .ok (.aload_n 0, 1) := by decide +kernel
theorem dX12_comesTo_1 : decode cX12_comesTo 1 = .ok (.getfield 99, 3) := by decide +kernel
theorem dX12_comesTo_4 : decode cX12_comesTo 4 = .ok (.iload_n 1, 1) := by decide +kernel
theorem dX12_comesTo_5 : decode cX12_comesTo 5 = .ok (.iload_n 2, 1) := by decide +kernel
theorem dX12_comesTo_6 : decode cX12_comesTo 6 = .ok (.iastore, 1) := by decide +kernel
theorem dX12_comesTo_7 : decode cX12_comesTo 7 = .ok (.aload_n 0, 1) := by decide +kernel
theorem dX12_comesTo_8 : decode cX12_comesTo 8 = .ok (.getfield 102, 3) := by decide +kernel
theorem dX12_comesTo_11 : decode cX12_comesTo 11 = .ok (.iload_n 1, 1) := by decide +kernel
theorem dX12_comesTo_12 : decode cX12_comesTo 12 = .ok (.iload_n 3, 1) := by decide +kernel
theorem dX12_comesTo_13 : decode cX12_comesTo 13 = .ok (.iastore, 1) := by decide +kernel
theorem dX12_comesTo_14 : decode cX12_comesTo 14 = .ok (.iload_n 2, 1) := by decide +kernel
theorem dX12_comesTo_15 : decode cX12_comesTo 15 = .ok (.aload_n 0, 1) := by decide +kernel
theorem dX12_comesTo_16 : decode cX12_comesTo 16 = .ok (.getfield 84, 3) := by decide +kernel
theorem dX12_comesTo_19 : decode cX12_comesTo 19 = .ok (.iload_n 1, 1) := by decide +kernel
theorem dX12_comesTo_20 : decode cX12_comesTo 20 = .ok (.iaload, 1) := by decide +kernel
theorem dX12_comesTo_21 : decode cX12_comesTo 21 = .ok (.if_icmp .ne 13, 3) := by decide +kernel
theorem dX12_comesTo_24 : decode cX12_comesTo 24 = .ok (.aload_n 0, 1) := by decide +kernel
theorem dX12_comesTo_25 : decode cX12_comesTo 25 = .ok (.getfield 108, 3) := by decide +kernel
theorem dX12_comesTo_28 : decode cX12_comesTo 28 = .ok (.iload_n 1, 1) := by decide +kernel
theorem dX12_comesTo_29 : decode cX12_comesTo 29 = .ok (.iload_n 3, 1) := by decide +kernel
theorem dX12_comesTo_30 : decode cX12_comesTo 30 = .ok (.iastore, 1) := by decide +kernel
theorem dX12_comesTo_31 : decode cX12_comesTo 31 = .ok (.goto 20, 3) := by decide +kernel
theorem dX12_comesTo_34 : decode cX12_comesTo 34 = .ok (.aload_n 0, 1) := by decide +kernel
theorem dX12_comesTo_35 : decode cX12_comesTo 35 = .ok (.getfield 120, 3) := by decide +kernel
theorem dX12_comesTo_38 : decode cX12_comesTo 38 = .ok (.iload_n 1, 1) := by decide +kernel
theorem dX12_comesTo_39 : decode cX12_comesTo 39 = .ok (.aload_n 0, 1) := by decide +kernel
theorem dX12_comesTo_40 : decode cX12_comesTo 40 = .ok (.iload_n 2, 1) := by decide +kernel
theorem dX12_comesTo_41 : decode cX12_comesTo 41 = .ok (.aload_n 0, 1) := by decide +kernel
theorem dX12_comesTo_42 : decode cX12_comesTo 42 = .ok (.getfield 84, 3) := by decide +kernel
theorem dX12_comesTo_45 : decode cX12_comesTo 45 = .ok (.iload_n 1, 1) := by decide +kernel
theorem dX12_comesTo_46 : decode cX12_comesTo 46 = .ok (.iaload, 1) := by decide +kernel
theorem dX12_comesTo_47 : decode cX12_comesTo 47 = .ok (.invokevirtual 352, 3) := by decide +kernel
theorem dX12_comesTo_50 : decode cX12_comesTo 50 = .ok (.iastore, 1) := by decide +kernel
theorem dX12_comesTo_51 : decode cX12_comesTo 51 = .ok (.return_, 1) := by decide +kernel
theorem dX12_runs_0 : decode cX12_runs 0 = .ok (.aload_n 0, 1) := by decide +kernel
theorem dX12_runs_1 : decode cX12_runs 1 = .ok (.iconst 0, 1) := by decide +kernel
theorem dX12_runs_2 : decode cX12_runs 2 = .ok (.putfield 362, 3) := by decide +kernel
theorem dX12_runs_5 : decode cX12_runs 5 = .ok (.iconst 0, 1) := by decide +kernel
theorem dX12_runs_6 : decode cX12_runs 6 = .ok (.istore_n 3, 1) := by decide +kernel
theorem dX12_runs_7 : decode cX12_runs 7 = .ok (.iload_n 3, 1) := by decide +kernel
theorem dX12_runs_8 : decode cX12_runs 8 = .ok (.aload_n 0, 1) := by decide +kernel
theorem dX12_runs_9 : decode cX12_runs 9 = .ok (.getfield 359, 3) := by decide +kernel
theorem dX12_runs_12 : decode cX12_runs 12 = .ok (.if_icmp .ge 30, 3) := by decide +kernel
theorem dX12_runs_15 : decode cX12_runs 15 = .ok (.aload_n 0, 1) := by decide +kernel
theorem dX12_runs_16 : decode cX12_runs 16 = .ok (.getfield 99, 3) := by decide +kernel
theorem dX12_runs_19 : decode cX12_runs 19 = .ok (.iload_n 3, 1) := by decide +kernel
theorem dX12_runs_20 : decode cX12_runs 20 = .ok (.iconst (-1), 1) := by decide +kernel
theorem dX12_runs_21 : decode cX12_runs 21 = .ok (.iastore, 1) := by decide +kernel
theorem dX12_runs_22 : decode cX12_runs 22 = .ok (.aload_n 0, 1) := by decide +kernel
theorem dX12_runs_23 : decode cX12_runs 23 = .ok (.getfield 108, 3) := by decide +kernel
theorem dX12_runs_26 : decode cX12_runs 26 = .ok (.iload_n 3, 1) := by decide +kernel
theorem dX12_runs_27 : decode cX12_runs 27 = .ok (.iconst (-1), 1) := by decide +kernel
theorem dX12_runs_28 : decode cX12_runs 28 = .ok (.iastore, 1) := by decide +kernel
theorem dX12_runs_29 : decode cX12_runs 29 = .ok (.aload_n 0, 1) := by decide +kernel
theorem dX12_runs_30 : decode cX12_runs 30 = .ok (.getfield 111, 3) := by decide +kernel
theorem dX12_runs_33 : decode cX12_runs 33 = .ok (.iload_n 3, 1) := by decide +kernel
theorem dX12_runs_34 : decode cX12_runs 34 = .ok (.iconst 0, 1) := by decide +kernel
theorem dX12_runs_35 : decode cX12_runs 35 = .ok (.iastore, 1) := by decide +kernel
theorem dX12_runs_36 : decode cX12_runs 36 = .ok (.iinc 3 1, 3) := by decide +kernel
theorem dX12_runs_39 : decode cX12_runs 39 = .ok (.goto (-32), 3) := by decide +kernel
theorem dX12_runs_42 : decode cX12_runs 42 = .ok (.iconst 0, 1) := by decide +kernel
theorem dX12_runs_43 : decode cX12_runs 43 = .ok (.istore_n 3, 1) := by decide +kernel
theorem dX12_runs_44 : decode cX12_runs 44 = .ok (.iload_n 3, 1) := by decide +kernel
theorem dX12_runs_45 : decode cX12_runs 45 = .ok (.aload_n 0, 1) := by decide +kernel
theorem dX12_runs_46 : decode cX12_runs 46 = .ok (.getfield 243, 3) := by decide +kernel
theorem dX12_runs_49 : decode cX12_runs 49 = .ok (.if_icmp .ge 16, 3) := by decide +kernel
theorem dX12_runs_52 : decode cX12_runs 52 = .ok (.aload_n 0, 1) := by decide +kernel
theorem dX12_runs_53 : decode cX12_runs 53 = .ok (.getfield 114, 3) := by decide +kernel
theorem dX12_runs_56 : decode cX12_runs 56 = .ok (.iload_n 3, 1) := by decide +kernel
theorem dX12_runs_57 : decode cX12_runs 57 = .ok (.iconst (-1), 1) := by decide +kernel
theorem dX12_runs_58 : decode cX12_runs 58 = .ok (.iastore, 1) := by decide +kernel
theorem dX12_runs_59 : decode cX12_runs 59 = .ok (.iinc 3 1, 3) := by decide +kernel
theorem dX12_runs_62 : decode cX12_runs 62 = .ok (.goto (-18), 3) := by decide +kernel
theorem dX12_runs_65 : decode cX12_runs 65 = .ok (.iconst 0, 1) := by decide +kernel
theorem dX12_runs_66 : decode cX12_runs 66 = .ok (.istore_n 3, 1) := by decide +kernel
theorem dX12_runs_67 : decode cX12_runs 67 = .ok (.iload_n 3, 1) := by decide +kernel
theorem dX12_runs_68 : decode cX12_runs 68 = .ok (.iload_n 1, 1) := by decide +kernel
theorem dX12_runs_69 : decode cX12_runs 69 = .ok (.if_icmp .gt 255, 3) := by decide +kernel
theorem dX12_runs_72 : decode cX12_runs 72 = .ok (.iconst 0, 1) := by decide +kernel
theorem dX12_runs_73 : decode cX12_runs 73 = .ok (.istore 4, 2) := by decide +kernel
theorem dX12_runs_75 : decode cX12_runs 75 = .ok (.iload 4, 2) := by decide +kernel
theorem dX12_runs_77 : decode cX12_runs 77 = .ok (.aload_n 0, 1) := by decide +kernel
theorem dX12_runs_78 : decode cX12_runs 78 = .ok (.getfield 243, 3) := by decide +kernel
theorem dX12_runs_81 : decode cX12_runs 81 = .ok (.if_icmp .ge 60, 3) := by decide +kernel
theorem dX12_runs_84 : decode cX12_runs 84 = .ok (.aload_n 0, 1) := by decide +kernel
theorem dX12_runs_85 : decode cX12_runs 85 = .ok (.getfield 114, 3) := by decide +kernel
theorem dX12_runs_88 : decode cX12_runs 88 = .ok (.iload 4, 2) := by decide +kernel
theorem dX12_runs_90 : decode cX12_runs 90 = .ok (.iaload, 1) := by decide +kernel
theorem dX12_runs_91 : decode cX12_runs 91 = .ok (.istore 5, 2) := by decide +kernel
theorem dX12_runs_93 : decode cX12_runs 93 = .ok (.iload 5, 2) := by decide +kernel
theorem dX12_runs_95 : decode cX12_runs 95 = .ok (.iconst (-1), 1) := by decide +kernel
theorem dX12_runs_96 : decode cX12_runs 96 = .ok (.if_icmp .eq 39, 3) := by decide +kernel
theorem dX12_runs_99 : decode cX12_runs 99 = .ok (.aload_n 0, 1) := by decide +kernel
theorem dX12_runs_100 : decode cX12_runs 100 = .ok (.getfield 105, 3) := by decide +kernel
theorem dX12_runs_103 : decode cX12_runs 103 = .ok (.iload 5, 2) := by decide +kernel
theorem dX12_runs_105 : decode cX12_runs 105 = .ok (.iaload, 1) := by decide +kernel
theorem dX12_runs_106 : decode cX12_runs 106 = .ok (.iload_n 3, 1) := by decide +kernel
theorem dX12_runs_107 : decode cX12_runs 107 = .ok (.if_icmp .eq 6, 3) := by decide +kernel
theorem dX12_runs_110 : decode cX12_runs 110 = .ok (.goto 25, 3) := by decide +kernel
theorem dX12_runs_113 : decode cX12_runs 113 = .ok (.aload_n 0, 1) := by decide +kernel
theorem dX12_runs_114 : decode cX12_runs 114 = .ok (.getfield 114, 3) := by decide +kernel
theorem dX12_runs_117 : decode cX12_runs 117 = .ok (.iload 4, 2) := by decide +kernel
theorem dX12_runs_119 : decode cX12_runs 119 = .ok (.iconst (-1), 1) := by decide +kernel
theorem dX12_runs_120 : decode cX12_runs 120 = .ok (.iastore, 1) := by decide +kernel
theorem dX12_runs_121 : decode cX12_runs 121 = .ok (.aload_n 0, 1) := by decide +kernel
theorem dX12_runs_122 : decode cX12_runs 122 = .ok (.iload 5, 2) := by decide +kernel
theorem dX12_runs_124 : decode cX12_runs 124 = .ok (.aload_n 0, 1) := by decide +kernel
theorem dX12_runs_125 : decode cX12_runs 125 = .ok (.getfield 54, 3) := by decide +kernel
theorem dX12_runs_128 : decode cX12_runs 128 = .ok (.iload 4, 2) := by decide +kernel
theorem dX12_runs_130 : decode cX12_runs 130 = .ok (.iaload, 1) := by decide +kernel
theorem dX12_runs_131 : decode cX12_runs 131 = .ok (.iload_n 3, 1) := by decide +kernel
theorem dX12_runs_132 : decode cX12_runs 132 = .ok (.invokevirtual 365, 3) := by decide +kernel
theorem dX12_runs_135 : decode cX12_runs 135 = .ok (.iinc 4 1, 3) := by decide +kernel
theorem dX12_runs_138 : decode cX12_runs 138 = .ok (.goto (-63), 3) := by decide +kernel
theorem dX12_runs_141 : decode cX12_runs 141 = .ok (.iconst 0, 1) := by decide +kernel
theorem dX12_runs_142 : decode cX12_runs 142 = .ok (.istore 4, 2) := by decide +kernel
theorem dX12_runs_144 : decode cX12_runs 144 = .ok (.iload 4, 2) := by decide +kernel
theorem dX12_runs_146 : decode cX12_runs 146 = .ok (.aload_n 0, 1) := by decide +kernel
theorem dX12_runs_147 : decode cX12_runs 147 = .ok (.getfield 359, 3) := by decide +kernel
theorem dX12_runs_150 : decode cX12_runs 150 = .ok (.if_icmp .ge 34, 3) := by decide +kernel
theorem dX12_runs_153 : decode cX12_runs 153 = .ok (.aload_n 0, 1) := by decide +kernel
theorem dX12_runs_154 : decode cX12_runs 154 = .ok (.getfield 87, 3) := by decide +kernel
theorem dX12_runs_157 : decode cX12_runs 157 = .ok (.iload 4, 2) := by decide +kernel
theorem dX12_runs_159 : decode cX12_runs 159 = .ok (.iaload, 1) := by decide +kernel
theorem dX12_runs_160 : decode cX12_runs 160 = .ok (.iload_n 3, 1) := by decide +kernel
theorem dX12_runs_161 : decode cX12_runs 161 = .ok (.if_icmp .ne 17, 3) := by decide +kernel
theorem dX12_runs_164 : decode cX12_runs 164 = .ok (.aload_n 0, 1) := by decide +kernel
theorem dX12_runs_165 : decode cX12_runs 165 = .ok (.iload 4, 2) := by decide +kernel
theorem dX12_runs_167 : decode cX12_runs 167 = .ok (.aload_n 0, 1) := by decide +kernel
theorem dX12_runs_168 : decode cX12_runs 168 = .ok (.getfield 81, 3) := by decide +kernel
theorem dX12_runs_171 : decode cX12_runs 171 = .ok (.iload 4, 2) := by decide +kernel
theorem dX12_runs_173 : decode cX12_runs 173 = .ok (.iaload, 1) := by decide +kernel
theorem dX12_runs_174 : decode cX12_runs 174 = .ok (.iload_n 3, 1) := by decide +kernel
theorem dX12_runs_175 : decode cX12_runs 175 = .ok (.invokevirtual 365, 3) := by decide +kernel
theorem dX12_runs_178 : decode cX12_runs 178 = .ok (.iinc 4 1, 3) := by decide +kernel
theorem dX12_runs_181 : decode cX12_runs 181 = .ok (.goto (-37), 3) := by decide +kernel
theorem dX12_runs_184 : decode cX12_runs 184 = .ok (.iconst 0, 1) := by decide +kernel
theorem dX12_runs_185 : decode cX12_runs 185 = .ok (.istore 4, 2) := by decide +kernel
theorem dX12_runs_187 : decode cX12_runs 187 = .ok (.iload 4, 2) := by decide +kernel
theorem dX12_runs_189 : decode cX12_runs 189 = .ok (.aload_n 0, 1) := by decide +kernel
theorem dX12_runs_190 : decode cX12_runs 190 = .ok (.getfield 243, 3) := by decide +kernel
theorem dX12_runs_193 : decode cX12_runs 193 = .ok (.if_icmp .ge 125, 3) := by decide +kernel
theorem dX12_runs_196 : decode cX12_runs 196 = .ok (.aload_n 0, 1) := by decide +kernel
theorem dX12_runs_197 : decode cX12_runs 197 = .ok (.getfield 114, 3) := by decide +kernel
theorem dX12_runs_200 : decode cX12_runs 200 = .ok (.iload 4, 2) := by decide +kernel
theorem dX12_runs_202 : decode cX12_runs 202 = .ok (.iaload, 1) := by decide +kernel
theorem dX12_runs_203 : decode cX12_runs 203 = .ok (.iconst (-1), 1) := by decide +kernel
theorem dX12_runs_204 : decode cX12_runs 204 = .ok (.if_icmp .eq 6, 3) := by decide +kernel
theorem dX12_runs_207 : decode cX12_runs 207 = .ok (.goto 105, 3) := by decide +kernel
theorem dX12_runs_210 : decode cX12_runs 210 = .ok (.aload_n 0, 1) := by decide +kernel
theorem dX12_runs_211 : decode cX12_runs 211 = .ok (.iload 4, 2) := by decide +kernel
theorem dX12_runs_213 : decode cX12_runs 213 = .ok (.iload_n 3, 1) := by decide +kernel
theorem dX12_runs_214 : decode cX12_runs 214 = .ok (.invokevirtual 369, 3) := by decide +kernel
theorem dX12_runs_217 : decode cX12_runs 217 = .ok (.istore 5, 2) := by decide +kernel
theorem dX12_runs_219 : decode cX12_runs 219 = .ok (.iload 5, 2) := by decide +kernel
theorem dX12_runs_221 : decode cX12_runs 221 = .ok (.iconst (-1), 1) := by decide +kernel
theorem dX12_runs_222 : decode cX12_runs 222 = .ok (.if_icmp .ne 6, 3) := by decide +kernel
theorem dX12_runs_225 : decode cX12_runs 225 = .ok (.goto 87, 3) := by decide +kernel
theorem dX12_runs_228 : decode cX12_runs 228 = .ok (.aload_n 0, 1) := by decide +kernel
theorem dX12_runs_229 : decode cX12_runs 229 = .ok (.getfield 114, 3) := by decide +kernel
theorem dX12_runs_232 : decode cX12_runs 232 = .ok (.iload 4, 2) := by decide +kernel
theorem dX12_runs_234 : decode cX12_runs 234 = .ok (.iload 5, 2) := by decide +kernel
theorem dX12_runs_236 : decode cX12_runs 236 = .ok (.iastore, 1) := by decide +kernel
theorem dX12_runs_237 : decode cX12_runs 237 = .ok (.aload_n 0, 1) := by decide +kernel
theorem dX12_runs_238 : decode cX12_runs 238 = .ok (.getfield 99, 3) := by decide +kernel
theorem dX12_runs_241 : decode cX12_runs 241 = .ok (.iload 5, 2) := by decide +kernel
theorem dX12_runs_243 : decode cX12_runs 243 = .ok (.bipush 10, 2) := by decide +kernel
theorem dX12_runs_245 : decode cX12_runs 245 = .ok (.iload 4, 2) := by decide +kernel
theorem dX12_runs_247 : decode cX12_runs 247 = .ok (.iadd, 1) := by decide +kernel
theorem dX12_runs_248 : decode cX12_runs 248 = .ok (.iastore, 1) := by decide +kernel
theorem dX12_runs_249 : decode cX12_runs 249 = .ok (.aload_n 0, 1) := by decide +kernel
theorem dX12_runs_250 : decode cX12_runs 250 = .ok (.getfield 105, 3) := by decide +kernel
theorem dX12_runs_253 : decode cX12_runs 253 = .ok (.iload 5, 2) := by decide +kernel
theorem dX12_runs_255 : decode cX12_runs 255 = .ok (.iload_n 3, 1) := by decide +kernel
theorem dX12_runs_256 : decode cX12_runs 256 = .ok (.aload_n 0, 1) := by decide +kernel
theorem dX12_runs_257 : decode cX12_runs 257 = .ok (.getfield 90, 3) := by decide +kernel
theorem dX12_runs_260 : decode cX12_runs 260 = .ok (.iload 5, 2) := by decide +kernel
theorem dX12_runs_262 : decode cX12_runs 262 = .ok (.iaload, 1) := by decide +kernel
theorem dX12_runs_263 : decode cX12_runs 263 = .ok (.iadd, 1) := by decide +kernel
theorem dX12_runs_264 : decode cX12_runs 264 = .ok (.iastore, 1) := by decide +kernel
theorem dX12_runs_265 : decode cX12_runs 265 = .ok (.aload_n 0, 1) := by decide +kernel
theorem dX12_runs_266 : decode cX12_runs 266 = .ok (.getfield 111, 3) := by decide +kernel
theorem dX12_runs_269 : decode cX12_runs 269 = .ok (.iload 5, 2) := by decide +kernel
theorem dX12_runs_271 : decode cX12_runs 271 = .ok (.dup2, 1) := by decide +kernel
theorem dX12_runs_272 : decode cX12_runs 272 = .ok (.iaload, 1) := by decide +kernel
theorem dX12_runs_273 : decode cX12_runs 273 = .ok (.aload_n 0, 1) := by decide +kernel
theorem dX12_runs_274 : decode cX12_runs 274 = .ok (.getfield 90, 3) := by decide +kernel
theorem dX12_runs_277 : decode cX12_runs 277 = .ok (.iload 5, 2) := by decide +kernel
theorem dX12_runs_279 : decode cX12_runs 279 = .ok (.iaload, 1) := by decide +kernel
theorem dX12_runs_280 : decode cX12_runs 280 = .ok (.iadd, 1) := by decide +kernel
theorem dX12_runs_281 : decode cX12_runs 281 = .ok (.iastore, 1) := by decide +kernel
theorem dX12_runs_282 : decode cX12_runs 282 = .ok (.iload 4, 2) := by decide +kernel
theorem dX12_runs_284 : decode cX12_runs 284 = .ok (.iload_n 2, 1) := by decide +kernel
theorem dX12_runs_285 : decode cX12_runs 285 = .ok (.if_icmp .eq 6, 3) := by decide +kernel
theorem dX12_runs_288 : decode cX12_runs 288 = .ok (.goto 24, 3) := by decide +kernel
theorem dX12_runs_291 : decode cX12_runs 291 = .ok (.aload_n 0, 1) := by decide +kernel
theorem dX12_runs_292 : decode cX12_runs 292 = .ok (.getfield 117, 3) := by decide +kernel
theorem dX12_runs_295 : decode cX12_runs 295 = .ok (.aload_n 0, 1) := by decide +kernel
theorem dX12_runs_296 : decode cX12_runs 296 = .ok (.getfield 362, 3) := by decide +kernel
theorem dX12_runs_299 : decode cX12_runs 299 = .ok (.iload 5, 2) := by decide +kernel
theorem dX12_runs_301 : decode cX12_runs 301 = .ok (.iastore, 1) := by decide +kernel
theorem dX12_runs_302 : decode cX12_runs 302 = .ok (.aload_n 0, 1) := by decide +kernel
theorem dX12_runs_303 : decode cX12_runs 303 = .ok (.dup, 1) := by decide +kernel
theorem dX12_runs_304 : decode cX12_runs 304 = .ok (.getfield 362, 3) := by decide +kernel
theorem dX12_runs_307 : decode cX12_runs 307 = .ok (.iconst 1, 1) := by decide +kernel
theorem dX12_runs_308 : decode cX12_runs 308 = .ok (.iadd, 1) := by decide +kernel
theorem dX12_runs_309 : decode cX12_runs 309 = .ok (.putfield 362, 3) := by decide +kernel
theorem dX12_runs_312 : decode cX12_runs 312 = .ok (.iinc 4 1, 3) := by decide +kernel
theorem dX12_runs_315 : decode cX12_runs 315 = .ok (.goto (-128), 3) := by decide +kernel
theorem dX12_runs_318 : decode cX12_runs 318 = .ok (.iinc 3 1, 3) := by decide +kernel
theorem dX12_runs_321 : decode cX12_runs 321 = .ok (.goto (-254), 3) := by decide +kernel
theorem dX12_runs_324 : decode cX12_runs 324 = .ok (.return_, 1) := by decide +kernel
theorem dX12_sent_0 : decode cX12_sent 0 = .ok (.iload_n 1, 1) := by decide +kernel
theorem dX12_sent_1 : decode cX12_sent 1 = .ok (.i2l, 1) := by decide +kernel
theorem dX12_sent_2 : decode cX12_sent 2 = .ok (.lconst 0, 1) := by decide +kernel
theorem dX12_sent_3 : decode cX12_sent 3 = .ok (.aload_n 0, 1) := by decide +kernel
theorem dX12_sent_4 : decode cX12_sent 4 = .ok (.getfield 359, 3) := by decide +kernel
theorem dX12_sent_7 : decode cX12_sent 7 = .ok (.iconst 1, 1) := by decide +kernel
theorem dX12_sent_8 : decode cX12_sent 8 = .ok (.isub, 1) := by decide +kernel
theorem dX12_sent_9 : decode cX12_sent 9 = .ok (.i2l, 1) := by decide +kernel
theorem dX12_sent_10 : decode cX12_sent 10 = .ok (.invokestatic 155, 3) := by decide +kernel
theorem dX12_sent_13 : decode cX12_sent 13 = .ok (.ifCond .eq 32, 3) := by decide +kernel
theorem dX12_sent_16 : decode cX12_sent 16 = .ok (.iload_n 2, 1) := by decide +kernel
theorem dX12_sent_17 : decode cX12_sent 17 = .ok (.i2l, 1) := by decide +kernel
theorem dX12_sent_18 : decode cX12_sent 18 = .ok (.lconst 0, 1) := by decide +kernel
theorem dX12_sent_19 : decode cX12_sent 19 = .ok (.ldc2_w 372, 3) := by decide +kernel
theorem dX12_sent_22 : decode cX12_sent 22 = .ok (.invokestatic 155, 3) := by decide +kernel
theorem dX12_sent_25 : decode cX12_sent 25 = .ok (.ifCond .eq 20, 3) := by decide +kernel
theorem dX12_sent_28 : decode cX12_sent 28 = .ok (.iload_n 2, 1) := by decide +kernel
theorem dX12_sent_29 : decode cX12_sent 29 = .ok (.iconst 2, 1) := by decide +kernel
theorem dX12_sent_30 : decode cX12_sent 30 = .ok (.if_icmp .ne 17, 3) := by decide +kernel
theorem dX12_sent_33 : decode cX12_sent 33 = .ok (.iload_n 3, 1) := by decide +kernel
theorem dX12_sent_34 : decode cX12_sent 34 = .ok (.i2l, 1) := by decide +kernel
theorem dX12_sent_35 : decode cX12_sent 35 = .ok (.lconst 0, 1) := by decide +kernel
theorem dX12_sent_36 : decode cX12_sent 36 = .ok (.ldc2_w 374, 3) := by decide +kernel
theorem dX12_sent_39 : decode cX12_sent 39 = .ok (.invokestatic 155, 3) := by decide +kernel
theorem dX12_sent_42 : decode cX12_sent 42 = .ok (.ifCond .ne 5, 3) := by decide +kernel
theorem dX12_sent_45 : decode cX12_sent 45 = .ok (.iconst (-1), 1) := by decide +kernel
theorem dX12_sent_46 : decode cX12_sent 46 = .ok (.ireturn, 1) := by decide +kernel
theorem dX12_sent_47 : decode cX12_sent 47 = .ok (.aload_n 0, 1) := by decide +kernel
theorem dX12_sent_48 : decode cX12_sent 48 = .ok (.iload_n 2, 1) := by decide +kernel
theorem dX12_sent_49 : decode cX12_sent 49 = .ok (.iconst 2, 1) := by decide +kernel
theorem dX12_sent_50 : decode cX12_sent 50 = .ok (.if_icmp .ne 7, 3) := by decide +kernel
theorem dX12_sent_53 : decode cX12_sent 53 = .ok (.iload_n 3, 1) := by decide +kernel
theorem dX12_sent_54 : decode cX12_sent 54 = .ok (.goto 6, 3) := by decide +kernel
theorem dX12_sent_57 : decode cX12_sent 57 = .ok (.sipush 8000, 3) := by decide +kernel
theorem dX12_sent_60 : decode cX12_sent 60 = .ok (.iconst (-1), 1) := by decide +kernel
theorem dX12_sent_61 : decode cX12_sent 61 = .ok (.invokevirtual 376, 3) := by decide +kernel
theorem dX12_sent_64 : decode cX12_sent 64 = .ok (.iload_n 2, 1) := by decide +kernel
theorem dX12_sent_65 : decode cX12_sent 65 = .ok (.iconst 2, 1) := by decide +kernel
theorem dX12_sent_66 : decode cX12_sent 66 = .ok (.if_icmp .ne 12, 3) := by decide +kernel
theorem dX12_sent_69 : decode cX12_sent 69 = .ok (.aload_n 0, 1) := by decide +kernel
theorem dX12_sent_70 : decode cX12_sent 70 = .ok (.getfield 99, 3) := by decide +kernel
theorem dX12_sent_73 : decode cX12_sent 73 = .ok (.iload_n 1, 1) := by decide +kernel
theorem dX12_sent_74 : decode cX12_sent 74 = .ok (.iaload, 1) := by decide +kernel
theorem dX12_sent_75 : decode cX12_sent 75 = .ok (.goto 36, 3) := by decide +kernel
theorem dX12_sent_78 : decode cX12_sent 78 = .ok (.iload_n 2, 1) := by decide +kernel
theorem dX12_sent_79 : decode cX12_sent 79 = .ok (.ifCond .ne 12, 3) := by decide +kernel
theorem dX12_sent_82 : decode cX12_sent 82 = .ok (.aload_n 0, 1) := by decide +kernel
theorem dX12_sent_83 : decode cX12_sent 83 = .ok (.getfield 108, 3) := by decide +kernel
theorem dX12_sent_86 : decode cX12_sent 86 = .ok (.iload_n 1, 1) := by decide +kernel
theorem dX12_sent_87 : decode cX12_sent 87 = .ok (.iaload, 1) := by decide +kernel
theorem dX12_sent_88 : decode cX12_sent 88 = .ok (.goto 23, 3) := by decide +kernel
theorem dX12_sent_91 : decode cX12_sent 91 = .ok (.aload_n 0, 1) := by decide +kernel
theorem dX12_sent_92 : decode cX12_sent 92 = .ok (.getfield 108, 3) := by decide +kernel
theorem dX12_sent_95 : decode cX12_sent 95 = .ok (.iload_n 1, 1) := by decide +kernel
theorem dX12_sent_96 : decode cX12_sent 96 = .ok (.iaload, 1) := by decide +kernel
theorem dX12_sent_97 : decode cX12_sent 97 = .ok (.aload_n 0, 1) := by decide +kernel
theorem dX12_sent_98 : decode cX12_sent 98 = .ok (.getfield 87, 3) := by decide +kernel
theorem dX12_sent_101 : decode cX12_sent 101 = .ok (.iload_n 1, 1) := by decide +kernel
theorem dX12_sent_102 : decode cX12_sent 102 = .ok (.iaload, 1) := by decide +kernel
theorem dX12_sent_103 : decode cX12_sent 103 = .ok (.isub, 1) := by decide +kernel
theorem dX12_sent_104 : decode cX12_sent 104 = .ok (.aload_n 0, 1) := by decide +kernel
theorem dX12_sent_105 : decode cX12_sent 105 = .ok (.getfield 111, 3) := by decide +kernel
theorem dX12_sent_108 : decode cX12_sent 108 = .ok (.iload_n 1, 1) := by decide +kernel
theorem dX12_sent_109 : decode cX12_sent 109 = .ok (.iaload, 1) := by decide +kernel
theorem dX12_sent_110 : decode cX12_sent 110 = .ok (.isub, 1) := by decide +kernel
theorem dX12_sent_111 : decode cX12_sent 111 = .ok (.ireturn, 1) := by decide +kernel
theorem dX12_tap_0 : decode cX12_tap 0 = .ok (.aload_n 0, 1) := by decide +kernel
theorem dX12_tap_1 : decode cX12_tap 1 = .ok (.iload_n 1, 1) := by decide +kernel
theorem dX12_tap_2 : decode cX12_tap 2 = .ok (.invokevirtual 251, 3) := by decide +kernel
theorem dX12_tap_5 : decode cX12_tap 5 = .ok (.ifCond .ne 5, 3) := by decide +kernel
theorem dX12_tap_8 : decode cX12_tap 8 = .ok (.iconst (-1), 1) := by decide +kernel
theorem dX12_tap_9 : decode cX12_tap 9 = .ok (.ireturn, 1) := by decide +kernel
theorem dX12_tap_10 : decode cX12_tap 10 = .ok (.aload_n 0, 1) := by decide +kernel
theorem dX12_tap_11 : decode cX12_tap 11 = .ok (.sipush 8000, 3) := by decide +kernel
theorem dX12_tap_14 : decode cX12_tap 14 = .ok (.iload_n 1, 1) := by decide +kernel
theorem dX12_tap_15 : decode cX12_tap 15 = .ok (.invokevirtual 376, 3) := by decide +kernel
theorem dX12_tap_18 : decode cX12_tap 18 = .ok (.iload_n 2, 1) := by decide +kernel
theorem dX12_tap_19 : decode cX12_tap 19 = .ok (.iconst (-1), 1) := by decide +kernel
theorem dX12_tap_20 : decode cX12_tap 20 = .ok (.if_icmp .ne 10, 3) := by decide +kernel
theorem dX12_tap_23 : decode cX12_tap 23 = .ok (.aload_n 0, 1) := by decide +kernel
theorem dX12_tap_24 : decode cX12_tap 24 = .ok (.getfield 362, 3) := by decide +kernel
theorem dX12_tap_27 : decode cX12_tap 27 = .ok (.goto 29, 3) := by decide +kernel
theorem dX12_tap_30 : decode cX12_tap 30 = .ok (.iload_n 2, 1) := by decide +kernel
theorem dX12_tap_31 : decode cX12_tap 31 = .ok (.i2l, 1) := by decide +kernel
theorem dX12_tap_32 : decode cX12_tap 32 = .ok (.lconst 0, 1) := by decide +kernel
theorem dX12_tap_33 : decode cX12_tap 33 = .ok (.aload_n 0, 1) := by decide +kernel
theorem dX12_tap_34 : decode cX12_tap 34 = .ok (.getfield 362, 3) := by decide +kernel
theorem dX12_tap_37 : decode cX12_tap 37 = .ok (.iconst 1, 1) := by decide +kernel
theorem dX12_tap_38 : decode cX12_tap 38 = .ok (.isub, 1) := by decide +kernel
theorem dX12_tap_39 : decode cX12_tap 39 = .ok (.i2l, 1) := by decide +kernel
theorem dX12_tap_40 : decode cX12_tap 40 = .ok (.invokestatic 155, 3) := by decide +kernel
theorem dX12_tap_43 : decode cX12_tap 43 = .ok (.ifCond .eq 12, 3) := by decide +kernel
theorem dX12_tap_46 : decode cX12_tap 46 = .ok (.aload_n 0, 1) := by decide +kernel
theorem dX12_tap_47 : decode cX12_tap 47 = .ok (.getfield 117, 3) := by decide +kernel
theorem dX12_tap_50 : decode cX12_tap 50 = .ok (.iload_n 2, 1) := by decide +kernel
theorem dX12_tap_51 : decode cX12_tap 51 = .ok (.iaload, 1) := by decide +kernel
theorem dX12_tap_52 : decode cX12_tap 52 = .ok (.goto 4, 3) := by decide +kernel
theorem dX12_tap_55 : decode cX12_tap 55 = .ok (.iconst (-1), 1) := by decide +kernel
theorem dX12_tap_56 : decode cX12_tap 56 = .ok (.ireturn, 1) := by decide +kernel
theorem dX12_clock_0 : decode cX12_clock 0 = .ok (.iload_n 1, 1) := by decide +kernel
theorem dX12_clock_1 : decode cX12_clock 1 = .ok (.invokestatic 236, 3) := by decide +kernel
theorem dX12_clock_4 : decode cX12_clock 4 = .ok (.ifCond .eq 30, 3) := by decide +kernel
theorem dX12_clock_7 : decode cX12_clock 7 = .ok (.iload_n 2, 1) := by decide +kernel
theorem dX12_clock_8 : decode cX12_clock 8 = .ok (.i2l, 1) := by decide +kernel
theorem dX12_clock_9 : decode cX12_clock 9 = .ok (.ldc2_w 379, 3) := by decide +kernel
theorem dX12_clock_12 : decode cX12_clock 12 = .ok (.ldc2_w 357, 3) := by decide +kernel
theorem dX12_clock_15 : decode cX12_clock 15 = .ok (.invokestatic 155, 3) := by decide +kernel
theorem dX12_clock_18 : decode cX12_clock 18 = .ok (.ifCond .eq 16, 3) := by decide +kernel
theorem dX12_clock_21 : decode cX12_clock 21 = .ok (.iload_n 3, 1) := by decide +kernel
theorem dX12_clock_22 : decode cX12_clock 22 = .ok (.i2l, 1) := by decide +kernel
theorem dX12_clock_23 : decode cX12_clock 23 = .ok (.iload_n 2, 1) := by decide +kernel
theorem dX12_clock_24 : decode cX12_clock 24 = .ok (.i2l, 1) := by decide +kernel
theorem dX12_clock_25 : decode cX12_clock 25 = .ok (.ldc2_w 357, 3) := by decide +kernel
theorem dX12_clock_28 : decode cX12_clock 28 = .ok (.invokestatic 155, 3) := by decide +kernel
theorem dX12_clock_31 : decode cX12_clock 31 = .ok (.ifCond .ne 5, 3) := by decide +kernel
theorem dX12_clock_34 : decode cX12_clock 34 = .ok (.iconst 0, 1) := by decide +kernel
theorem dX12_clock_35 : decode cX12_clock 35 = .ok (.ireturn, 1) := by decide +kernel
theorem dX12_clock_36 : decode cX12_clock 36 = .ok (.aload_n 0, 1) := by decide +kernel
theorem dX12_clock_37 : decode cX12_clock 37 = .ok (.getfield 123, 3) := by decide +kernel
theorem dX12_clock_40 : decode cX12_clock 40 = .ok (.iload_n 1, 1) := by decide +kernel
theorem dX12_clock_41 : decode cX12_clock 41 = .ok (.iload_n 2, 1) := by decide +kernel
theorem dX12_clock_42 : decode cX12_clock 42 = .ok (.iastore, 1) := by decide +kernel
theorem dX12_clock_43 : decode cX12_clock 43 = .ok (.aload_n 0, 1) := by decide +kernel
theorem dX12_clock_44 : decode cX12_clock 44 = .ok (.getfield 126, 3) := by decide +kernel
theorem dX12_clock_47 : decode cX12_clock 47 = .ok (.iload_n 1, 1) := by decide +kernel
theorem dX12_clock_48 : decode cX12_clock 48 = .ok (.iload_n 3, 1) := by decide +kernel
theorem dX12_clock_49 : decode cX12_clock 49 = .ok (.iastore, 1) := by decide +kernel
theorem dX12_clock_50 : decode cX12_clock 50 = .ok (.iconst 1, 1) := by decide +kernel
theorem dX12_clock_51 : decode cX12_clock 51 = .ok (.ireturn, 1) := by decide +kernel
theorem dX12_event_0 : decode cX12_event 0 = .ok (.iload_n 1, 1) := by decide +kernel
theorem dX12_event_1 : decode cX12_event 1 = .ok (.invokestatic 236, 3) := by decide +kernel
theorem dX12_event_4 : decode cX12_event 4 = .ok (.ifCond .eq 24, 3) := by decide +kernel
theorem dX12_event_7 : decode cX12_event 7 = .ok (.iload_n 2, 1) := by decide +kernel
theorem dX12_event_8 : decode cX12_event 8 = .ok (.i2l, 1) := by decide +kernel
theorem dX12_event_9 : decode cX12_event 9 = .ok (.lconst 0, 1) := by decide +kernel
theorem dX12_event_10 : decode cX12_event 10 = .ok (.ldc2_w 258, 3) := by decide +kernel
theorem dX12_event_13 : decode cX12_event 13 = .ok (.invokestatic 155, 3) := by decide +kernel
theorem dX12_event_16 : decode cX12_event 16 = .ok (.ifCond .eq 12, 3) := by decide +kernel
theorem dX12_event_19 : decode cX12_event 19 = .ok (.aload_n 0, 1) := by decide +kernel
theorem dX12_event_20 : decode cX12_event 20 = .ok (.getfield 381, 3) := by decide +kernel
theorem dX12_event_23 : decode cX12_event 23 = .ok (.bipush 12, 2) := by decide +kernel
theorem dX12_event_25 : decode cX12_event 25 = .ok (.if_icmp .ne 5, 3) := by decide +kernel
theorem dX12_event_28 : decode cX12_event 28 = .ok (.iconst (-1), 1) := by decide +kernel
theorem dX12_event_29 : decode cX12_event 29 = .ok (.ireturn, 1) := by decide +kernel
theorem dX12_event_30 : decode cX12_event 30 = .ok (.aload_n 0, 1) := by decide +kernel
theorem dX12_event_31 : decode cX12_event 31 = .ok (.getfield 129, 3) := by decide +kernel
theorem dX12_event_34 : decode cX12_event 34 = .ok (.aload_n 0, 1) := by decide +kernel
theorem dX12_event_35 : decode cX12_event 35 = .ok (.getfield 381, 3) := by decide +kernel
theorem dX12_event_38 : decode cX12_event 38 = .ok (.iload_n 1, 1) := by decide +kernel
theorem dX12_event_39 : decode cX12_event 39 = .ok (.iastore, 1) := by decide +kernel
theorem dX12_event_40 : decode cX12_event 40 = .ok (.aload_n 0, 1) := by decide +kernel
theorem dX12_event_41 : decode cX12_event 41 = .ok (.getfield 132, 3) := by decide +kernel
theorem dX12_event_44 : decode cX12_event 44 = .ok (.aload_n 0, 1) := by decide +kernel
theorem dX12_event_45 : decode cX12_event 45 = .ok (.getfield 381, 3) := by decide +kernel
theorem dX12_event_48 : decode cX12_event 48 = .ok (.iload_n 2, 1) := by decide +kernel
theorem dX12_event_49 : decode cX12_event 49 = .ok (.iastore, 1) := by decide +kernel
theorem dX12_event_50 : decode cX12_event 50 = .ok (.aload_n 0, 1) := by decide +kernel
theorem dX12_event_51 : decode cX12_event 51 = .ok (.dup, 1) := by decide +kernel
theorem dX12_event_52 : decode cX12_event 52 = .ok (.getfield 381, 3) := by decide +kernel
theorem dX12_event_55 : decode cX12_event 55 = .ok (.iconst 1, 1) := by decide +kernel
theorem dX12_event_56 : decode cX12_event 56 = .ok (.iadd, 1) := by decide +kernel
theorem dX12_event_57 : decode cX12_event 57 = .ok (.putfield 381, 3) := by decide +kernel
theorem dX12_event_60 : decode cX12_event 60 = .ok (.aload_n 0, 1) := by decide +kernel
theorem dX12_event_61 : decode cX12_event 61 = .ok (.getfield 381, 3) := by decide +kernel
theorem dX12_event_64 : decode cX12_event 64 = .ok (.iconst 1, 1) := by decide +kernel
theorem dX12_event_65 : decode cX12_event 65 = .ok (.isub, 1) := by decide +kernel
theorem dX12_event_66 : decode cX12_event 66 = .ok (.ireturn, 1) := by decide +kernel
theorem dX12_isEvent_0 : decode cX12_isEvent 0 = .ok (.iload_n 1, 1) := by decide +kernel
theorem dX12_isEvent_1 : decode cX12_isEvent 1 = .ok (.i2l, 1) := by decide +kernel
theorem dX12_isEvent_2 : decode cX12_isEvent 2 = .ok (.lconst 0, 1) := by decide +kernel
theorem dX12_isEvent_3 : decode cX12_isEvent 3 = .ok (.aload_n 0, 1) := by decide +kernel
theorem dX12_isEvent_4 : decode cX12_isEvent 4 = .ok (.getfield 381, 3) := by decide +kernel
theorem dX12_isEvent_7 : decode cX12_isEvent 7 = .ok (.iconst 1, 1) := by decide +kernel
theorem dX12_isEvent_8 : decode cX12_isEvent 8 = .ok (.isub, 1) := by decide +kernel
theorem dX12_isEvent_9 : decode cX12_isEvent 9 = .ok (.i2l, 1) := by decide +kernel
theorem dX12_isEvent_10 : decode cX12_isEvent 10 = .ok (.invokestatic 155, 3) := by decide +kernel
theorem dX12_isEvent_13 : decode cX12_isEvent 13 = .ok (.ireturn, 1) := by decide +kernel
theorem dX12_fact_0 : decode cX12_fact 0 = .ok (.aload_n 0, 1) := by decide +kernel
theorem dX12_fact_1 : decode cX12_fact 1 = .ok (.iload_n 1, 1) := by decide +kernel
theorem dX12_fact_2 : decode cX12_fact 2 = .ok (.invokevirtual 384, 3) := by decide +kernel
theorem dX12_fact_5 : decode cX12_fact 5 = .ok (.ifCond .eq 39, 3) := by decide +kernel
theorem dX12_fact_8 : decode cX12_fact 8 = .ok (.aload_n 0, 1) := by decide +kernel
theorem dX12_fact_9 : decode cX12_fact 9 = .ok (.iload_n 2, 1) := by decide +kernel
theorem dX12_fact_10 : decode cX12_fact 10 = .ok (.invokevirtual 384, 3) := by decide +kernel
theorem dX12_fact_13 : decode cX12_fact 13 = .ok (.ifCond .eq 31, 3) := by decide +kernel
theorem dX12_fact_16 : decode cX12_fact 16 = .ok (.iload_n 1, 1) := by decide +kernel
theorem dX12_fact_17 : decode cX12_fact 17 = .ok (.iload_n 2, 1) := by decide +kernel
theorem dX12_fact_18 : decode cX12_fact 18 = .ok (.if_icmp .eq 26, 3) := by decide +kernel
theorem dX12_fact_21 : decode cX12_fact 21 = .ok (.iload_n 3, 1) := by decide +kernel
theorem dX12_fact_22 : decode cX12_fact 22 = .ok (.i2l, 1) := by decide +kernel
theorem dX12_fact_23 : decode cX12_fact 23 = .ok (.ldc2_w 387, 3) := by decide +kernel
theorem dX12_fact_26 : decode cX12_fact 26 = .ok (.ldc2_w 239, 3) := by decide +kernel
theorem dX12_fact_29 : decode cX12_fact 29 = .ok (.invokestatic 155, 3) := by decide +kernel
theorem dX12_fact_32 : decode cX12_fact 32 = .ok (.ifCond .eq 12, 3) := by decide +kernel
theorem dX12_fact_35 : decode cX12_fact 35 = .ok (.aload_n 0, 1) := by decide +kernel
theorem dX12_fact_36 : decode cX12_fact 36 = .ok (.getfield 389, 3) := by decide +kernel
theorem dX12_fact_39 : decode cX12_fact 39 = .ok (.bipush 12, 2) := by decide +kernel
theorem dX12_fact_41 : decode cX12_fact 41 = .ok (.if_icmp .ne 5, 3) := by decide +kernel
theorem dX12_fact_44 : decode cX12_fact 44 = .ok (.iconst (-1), 1) := by decide +kernel
theorem dX12_fact_45 : decode cX12_fact 45 = .ok (.ireturn, 1) := by decide +kernel
theorem dX12_fact_46 : decode cX12_fact 46 = .ok (.aload_n 0, 1) := by decide +kernel
theorem dX12_fact_47 : decode cX12_fact 47 = .ok (.getfield 135, 3) := by decide +kernel
theorem dX12_fact_50 : decode cX12_fact 50 = .ok (.aload_n 0, 1) := by decide +kernel
theorem dX12_fact_51 : decode cX12_fact 51 = .ok (.getfield 389, 3) := by decide +kernel
theorem dX12_fact_54 : decode cX12_fact 54 = .ok (.iload_n 1, 1) := by decide +kernel
theorem dX12_fact_55 : decode cX12_fact 55 = .ok (.iastore, 1) := by decide +kernel
theorem dX12_fact_56 : decode cX12_fact 56 = .ok (.aload_n 0, 1) := by decide +kernel
theorem dX12_fact_57 : decode cX12_fact 57 = .ok (.getfield 138, 3) := by decide +kernel
theorem dX12_fact_60 : decode cX12_fact 60 = .ok (.aload_n 0, 1) := by decide +kernel
theorem dX12_fact_61 : decode cX12_fact 61 = .ok (.getfield 389, 3) := by decide +kernel
theorem dX12_fact_64 : decode cX12_fact 64 = .ok (.iload_n 2, 1) := by decide +kernel
theorem dX12_fact_65 : decode cX12_fact 65 = .ok (.iastore, 1) := by decide +kernel
theorem dX12_fact_66 : decode cX12_fact 66 = .ok (.aload_n 0, 1) := by decide +kernel
theorem dX12_fact_67 : decode cX12_fact 67 = .ok (.getfield 141, 3) := by decide +kernel
theorem dX12_fact_70 : decode cX12_fact 70 = .ok (.aload_n 0, 1) := by decide +kernel
theorem dX12_fact_71 : decode cX12_fact 71 = .ok (.getfield 389, 3) := by decide +kernel
theorem dX12_fact_74 : decode cX12_fact 74 = .ok (.iload_n 3, 1) := by decide +kernel
theorem dX12_fact_75 : decode cX12_fact 75 = .ok (.iastore, 1) := by decide +kernel
theorem dX12_fact_76 : decode cX12_fact 76 = .ok (.aload_n 0, 1) := by decide +kernel
theorem dX12_fact_77 : decode cX12_fact 77 = .ok (.dup, 1) := by decide +kernel
theorem dX12_fact_78 : decode cX12_fact 78 = .ok (.getfield 389, 3) := by decide +kernel
theorem dX12_fact_81 : decode cX12_fact 81 = .ok (.iconst 1, 1) := by decide +kernel
theorem dX12_fact_82 : decode cX12_fact 82 = .ok (.iadd, 1) := by decide +kernel
theorem dX12_fact_83 : decode cX12_fact 83 = .ok (.putfield 389, 3) := by decide +kernel
theorem dX12_fact_86 : decode cX12_fact 86 = .ok (.aload_n 0, 1) := by decide +kernel
theorem dX12_fact_87 : decode cX12_fact 87 = .ok (.getfield 389, 3) := by decide +kernel
theorem dX12_fact_90 : decode cX12_fact 90 = .ok (.ireturn, 1) := by decide +kernel
theorem dX12_undo_0 : decode cX12_undo 0 = .ok (.aload_n 0, 1) := by decide +kernel
theorem dX12_undo_1 : decode cX12_undo 1 = .ok (.getfield 389, 3) := by decide +kernel
theorem dX12_undo_4 : decode cX12_undo 4 = .ok (.ifCond .ne 5, 3) := by decide +kernel
theorem dX12_undo_7 : decode cX12_undo 7 = .ok (.iconst (-1), 1) := by decide +kernel
theorem dX12_undo_8 : decode cX12_undo 8 = .ok (.ireturn, 1) := by decide +kernel
theorem dX12_undo_9 : decode cX12_undo 9 = .ok (.aload_n 0, 1) := by decide +kernel
theorem dX12_undo_10 : decode cX12_undo 10 = .ok (.dup, 1) := by decide +kernel
theorem dX12_undo_11 : decode cX12_undo 11 = .ok (.getfield 389, 3) := by decide +kernel
theorem dX12_undo_14 : decode cX12_undo 14 = .ok (.iconst 1, 1) := by decide +kernel
theorem dX12_undo_15 : decode cX12_undo 15 = .ok (.isub, 1) := by decide +kernel
theorem dX12_undo_16 : decode cX12_undo 16 = .ok (.putfield 389, 3) := by decide +kernel
theorem dX12_undo_19 : decode cX12_undo 19 = .ok (.aload_n 0, 1) := by decide +kernel
theorem dX12_undo_20 : decode cX12_undo 20 = .ok (.getfield 389, 3) := by decide +kernel
theorem dX12_undo_23 : decode cX12_undo 23 = .ok (.ireturn, 1) := by decide +kernel
theorem dX12_bounds_0 : decode cX12_bounds 0 = .ok (.aload_n 0, 1) := by decide +kernel
theorem dX12_bounds_1 : decode cX12_bounds 1 = .ok (.getfield 144, 3) := by decide +kernel
theorem dX12_bounds_4 : decode cX12_bounds 4 = .ok (.bipush 7, 2) := by decide +kernel
theorem dX12_bounds_6 : decode cX12_bounds 6 = .ok (.iload_n 1, 1) := by decide +kernel
theorem dX12_bounds_7 : decode cX12_bounds 7 = .ok (.imul, 1) := by decide +kernel
theorem dX12_bounds_8 : decode cX12_bounds 8 = .ok (.iload_n 2, 1) := by decide +kernel
theorem dX12_bounds_9 : decode cX12_bounds 9 = .ok (.iadd, 1) := by decide +kernel
theorem dX12_bounds_10 : decode cX12_bounds 10 = .ok (.aload_n 0, 1) := by decide +kernel
theorem dX12_bounds_11 : decode cX12_bounds 11 = .ok (.getfield 144, 3) := by decide +kernel
theorem dX12_bounds_14 : decode cX12_bounds 14 = .ok (.bipush 7, 2) := by decide +kernel
theorem dX12_bounds_16 : decode cX12_bounds 16 = .ok (.iload_n 1, 1) := by decide +kernel
theorem dX12_bounds_17 : decode cX12_bounds 17 = .ok (.imul, 1) := by decide +kernel
theorem dX12_bounds_18 : decode cX12_bounds 18 = .ok (.iload_n 2, 1) := by decide +kernel
theorem dX12_bounds_19 : decode cX12_bounds 19 = .ok (.iadd, 1) := by decide +kernel
theorem dX12_bounds_20 : decode cX12_bounds 20 = .ok (.iaload, 1) := by decide +kernel
theorem dX12_bounds_21 : decode cX12_bounds 21 = .ok (.iload_n 3, 1) := by decide +kernel
theorem dX12_bounds_22 : decode cX12_bounds 22 = .ok (.invokestatic 301, 3) := by decide +kernel
theorem dX12_bounds_25 : decode cX12_bounds 25 = .ok (.iastore, 1) := by decide +kernel
theorem dX12_bounds_26 : decode cX12_bounds 26 = .ok (.return_, 1) := by decide +kernel
theorem dX12_canBe_0 : decode cX12_canBe 0 = .ok (.iconst 0, 1) := by decide +kernel
theorem dX12_canBe_1 : decode cX12_canBe 1 = .ok (.istore_n 1, 1) := by decide +kernel
theorem dX12_canBe_2 : decode cX12_canBe 2 = .ok (.iload_n 1, 1) := by decide +kernel
theorem dX12_canBe_3 : decode cX12_canBe 3 = .ok (.bipush 49, 2) := by decide +kernel
theorem dX12_canBe_5 : decode cX12_canBe 5 = .ok (.if_icmp .ge 29, 3) := by decide +kernel
theorem dX12_canBe_8 : decode cX12_canBe 8 = .ok (.aload_n 0, 1) := by decide +kernel
theorem dX12_canBe_9 : decode cX12_canBe 9 = .ok (.getfield 144, 3) := by decide +kernel
theorem dX12_canBe_12 : decode cX12_canBe 12 = .ok (.iload_n 1, 1) := by decide +kernel
theorem dX12_canBe_13 : decode cX12_canBe 13 = .ok (.iload_n 1, 1) := by decide +kernel
theorem dX12_canBe_14 : decode cX12_canBe 14 = .ok (.bipush 8, 2) := by decide +kernel
theorem dX12_canBe_16 : decode cX12_canBe 16 = .ok (.irem, 1) := by decide +kernel
theorem dX12_canBe_17 : decode cX12_canBe 17 = .ok (.ifCond .ne 7, 3) := by decide +kernel
theorem dX12_canBe_20 : decode cX12_canBe 20 = .ok (.iconst 0, 1) := by decide +kernel
theorem dX12_canBe_21 : decode cX12_canBe 21 = .ok (.goto 6, 3) := by decide +kernel
theorem dX12_canBe_24 : decode cX12_canBe 24 = .ok (.ldc_w 392, 3) := by decide +kernel
theorem dX12_canBe_27 : decode cX12_canBe 27 = .ok (.iastore, 1) := by decide +kernel
theorem dX12_canBe_28 : decode cX12_canBe 28 = .ok (.iinc 1 1, 3) := by decide +kernel
theorem dX12_canBe_31 : decode cX12_canBe 31 = .ok (.goto (-29), 3) := by decide +kernel
theorem dX12_canBe_34 : decode cX12_canBe 34 = .ok (.iconst 0, 1) := by decide +kernel
theorem dX12_canBe_35 : decode cX12_canBe 35 = .ok (.istore_n 1, 1) := by decide +kernel
theorem dX12_canBe_36 : decode cX12_canBe 36 = .ok (.iload_n 1, 1) := by decide +kernel
theorem dX12_canBe_37 : decode cX12_canBe 37 = .ok (.bipush 6, 2) := by decide +kernel
theorem dX12_canBe_39 : decode cX12_canBe 39 = .ok (.if_icmp .ge 36, 3) := by decide +kernel
theorem dX12_canBe_42 : decode cX12_canBe 42 = .ok (.aload_n 0, 1) := by decide +kernel
theorem dX12_canBe_43 : decode cX12_canBe 43 = .ok (.iload_n 1, 1) := by decide +kernel
theorem dX12_canBe_44 : decode cX12_canBe 44 = .ok (.bipush 6, 2) := by decide +kernel
theorem dX12_canBe_46 : decode cX12_canBe 46 = .ok (.aload_n 0, 1) := by decide +kernel
theorem dX12_canBe_47 : decode cX12_canBe 47 = .ok (.getfield 126, 3) := by decide +kernel
theorem dX12_canBe_50 : decode cX12_canBe 50 = .ok (.iload_n 1, 1) := by decide +kernel
theorem dX12_canBe_51 : decode cX12_canBe 51 = .ok (.iaload, 1) := by decide +kernel
theorem dX12_canBe_52 : decode cX12_canBe 52 = .ok (.invokevirtual 393, 3) := by decide +kernel
theorem dX12_canBe_55 : decode cX12_canBe 55 = .ok (.aload_n 0, 1) := by decide +kernel
theorem dX12_canBe_56 : decode cX12_canBe 56 = .ok (.bipush 6, 2) := by decide +kernel
theorem dX12_canBe_58 : decode cX12_canBe 58 = .ok (.iload_n 1, 1) := by decide +kernel
theorem dX12_canBe_59 : decode cX12_canBe 59 = .ok (.aload_n 0, 1) := by decide +kernel
theorem dX12_canBe_60 : decode cX12_canBe 60 = .ok (.getfield 123, 3) := by decide +kernel
theorem dX12_canBe_63 : decode cX12_canBe 63 = .ok (.iload_n 1, 1) := by decide +kernel
theorem dX12_canBe_64 : decode cX12_canBe 64 = .ok (.iaload, 1) := by decide +kernel
theorem dX12_canBe_65 : decode cX12_canBe 65 = .ok (.ineg, 1) := by decide +kernel
theorem dX12_canBe_66 : decode cX12_canBe 66 = .ok (.invokevirtual 393, 3) := by decide +kernel
theorem dX12_canBe_69 : decode cX12_canBe 69 = .ok (.iinc 1 1, 3) := by decide +kernel
theorem dX12_canBe_72 : decode cX12_canBe 72 = .ok (.goto (-36), 3) := by decide +kernel
theorem dX12_canBe_75 : decode cX12_canBe 75 = .ok (.iconst 0, 1) := by decide +kernel
theorem dX12_canBe_76 : decode cX12_canBe 76 = .ok (.istore_n 1, 1) := by decide +kernel
theorem dX12_canBe_77 : decode cX12_canBe 77 = .ok (.iload_n 1, 1) := by decide +kernel
theorem dX12_canBe_78 : decode cX12_canBe 78 = .ok (.aload_n 0, 1) := by decide +kernel
theorem dX12_canBe_79 : decode cX12_canBe 79 = .ok (.getfield 389, 3) := by decide +kernel
theorem dX12_canBe_82 : decode cX12_canBe 82 = .ok (.if_icmp .ge 65, 3) := by decide +kernel
theorem dX12_canBe_85 : decode cX12_canBe 85 = .ok (.aload_n 0, 1) := by decide +kernel
theorem dX12_canBe_86 : decode cX12_canBe 86 = .ok (.aload_n 0, 1) := by decide +kernel
theorem dX12_canBe_87 : decode cX12_canBe 87 = .ok (.getfield 129, 3) := by decide +kernel
theorem dX12_canBe_90 : decode cX12_canBe 90 = .ok (.aload_n 0, 1) := by decide +kernel
theorem dX12_canBe_91 : decode cX12_canBe 91 = .ok (.getfield 135, 3) := by decide +kernel
theorem dX12_canBe_94 : decode cX12_canBe 94 = .ok (.iload_n 1, 1) := by decide +kernel
theorem dX12_canBe_95 : decode cX12_canBe 95 = .ok (.iaload, 1) := by decide +kernel
theorem dX12_canBe_96 : decode cX12_canBe 96 = .ok (.iaload, 1) := by decide +kernel
theorem dX12_canBe_97 : decode cX12_canBe 97 = .ok (.aload_n 0, 1) := by decide +kernel
theorem dX12_canBe_98 : decode cX12_canBe 98 = .ok (.getfield 129, 3) := by decide +kernel
theorem dX12_canBe_101 : decode cX12_canBe 101 = .ok (.aload_n 0, 1) := by decide +kernel
theorem dX12_canBe_102 : decode cX12_canBe 102 = .ok (.getfield 138, 3) := by decide +kernel
theorem dX12_canBe_105 : decode cX12_canBe 105 = .ok (.iload_n 1, 1) := by decide +kernel
theorem dX12_canBe_106 : decode cX12_canBe 106 = .ok (.iaload, 1) := by decide +kernel
theorem dX12_canBe_107 : decode cX12_canBe 107 = .ok (.iaload, 1) := by decide +kernel
theorem dX12_canBe_108 : decode cX12_canBe 108 = .ok (.aload_n 0, 1) := by decide +kernel
theorem dX12_canBe_109 : decode cX12_canBe 109 = .ok (.getfield 132, 3) := by decide +kernel
theorem dX12_canBe_112 : decode cX12_canBe 112 = .ok (.aload_n 0, 1) := by decide +kernel
theorem dX12_canBe_113 : decode cX12_canBe 113 = .ok (.getfield 135, 3) := by decide +kernel
theorem dX12_canBe_116 : decode cX12_canBe 116 = .ok (.iload_n 1, 1) := by decide +kernel
theorem dX12_canBe_117 : decode cX12_canBe 117 = .ok (.iaload, 1) := by decide +kernel
theorem dX12_canBe_118 : decode cX12_canBe 118 = .ok (.iaload, 1) := by decide +kernel
theorem dX12_canBe_119 : decode cX12_canBe 119 = .ok (.aload_n 0, 1) := by decide +kernel
theorem dX12_canBe_120 : decode cX12_canBe 120 = .ok (.getfield 132, 3) := by decide +kernel
theorem dX12_canBe_123 : decode cX12_canBe 123 = .ok (.aload_n 0, 1) := by decide +kernel
theorem dX12_canBe_124 : decode cX12_canBe 124 = .ok (.getfield 138, 3) := by decide +kernel
theorem dX12_canBe_127 : decode cX12_canBe 127 = .ok (.iload_n 1, 1) := by decide +kernel
theorem dX12_canBe_128 : decode cX12_canBe 128 = .ok (.iaload, 1) := by decide +kernel
theorem dX12_canBe_129 : decode cX12_canBe 129 = .ok (.iaload, 1) := by decide +kernel
theorem dX12_canBe_130 : decode cX12_canBe 130 = .ok (.isub, 1) := by decide +kernel
theorem dX12_canBe_131 : decode cX12_canBe 131 = .ok (.aload_n 0, 1) := by decide +kernel
theorem dX12_canBe_132 : decode cX12_canBe 132 = .ok (.getfield 141, 3) := by decide +kernel
theorem dX12_canBe_135 : decode cX12_canBe 135 = .ok (.iload_n 1, 1) := by decide +kernel
theorem dX12_canBe_136 : decode cX12_canBe 136 = .ok (.iaload, 1) := by decide +kernel
theorem dX12_canBe_137 : decode cX12_canBe 137 = .ok (.isub, 1) := by decide +kernel
theorem dX12_canBe_138 : decode cX12_canBe 138 = .ok (.invokevirtual 393, 3) := by decide +kernel
theorem dX12_canBe_141 : decode cX12_canBe 141 = .ok (.iinc 1 1, 3) := by decide +kernel
theorem dX12_canBe_144 : decode cX12_canBe 144 = .ok (.goto (-67), 3) := by decide +kernel
theorem dX12_canBe_147 : decode cX12_canBe 147 = .ok (.iconst 0, 1) := by decide +kernel
theorem dX12_canBe_148 : decode cX12_canBe 148 = .ok (.istore_n 1, 1) := by decide +kernel
theorem dX12_canBe_149 : decode cX12_canBe 149 = .ok (.iload_n 1, 1) := by decide +kernel
theorem dX12_canBe_150 : decode cX12_canBe 150 = .ok (.bipush 7, 2) := by decide +kernel
theorem dX12_canBe_152 : decode cX12_canBe 152 = .ok (.if_icmp .ge 66, 3) := by decide +kernel
theorem dX12_canBe_155 : decode cX12_canBe 155 = .ok (.iconst 0, 1) := by decide +kernel
theorem dX12_canBe_156 : decode cX12_canBe 156 = .ok (.istore_n 2, 1) := by decide +kernel
theorem dX12_canBe_157 : decode cX12_canBe 157 = .ok (.iload_n 2, 1) := by decide +kernel
theorem dX12_canBe_158 : decode cX12_canBe 158 = .ok (.bipush 7, 2) := by decide +kernel
theorem dX12_canBe_160 : decode cX12_canBe 160 = .ok (.if_icmp .ge 52, 3) := by decide +kernel
theorem dX12_canBe_163 : decode cX12_canBe 163 = .ok (.iconst 0, 1) := by decide +kernel
theorem dX12_canBe_164 : decode cX12_canBe 164 = .ok (.istore_n 3, 1) := by decide +kernel
theorem dX12_canBe_165 : decode cX12_canBe 165 = .ok (.iload_n 3, 1) := by decide +kernel
theorem dX12_canBe_166 : decode cX12_canBe 166 = .ok (.bipush 7, 2) := by decide +kernel
theorem dX12_canBe_168 : decode cX12_canBe 168 = .ok (.if_icmp .ge 38, 3) := by decide +kernel
theorem dX12_canBe_171 : decode cX12_canBe 171 = .ok (.aload_n 0, 1) := by decide +kernel
theorem dX12_canBe_172 : decode cX12_canBe 172 = .ok (.iload_n 2, 1) := by decide +kernel
theorem dX12_canBe_173 : decode cX12_canBe 173 = .ok (.iload_n 3, 1) := by decide +kernel
theorem dX12_canBe_174 : decode cX12_canBe 174 = .ok (.aload_n 0, 1) := by decide +kernel
theorem dX12_canBe_175 : decode cX12_canBe 175 = .ok (.getfield 144, 3) := by decide +kernel
theorem dX12_canBe_178 : decode cX12_canBe 178 = .ok (.bipush 7, 2) := by decide +kernel
theorem dX12_canBe_180 : decode cX12_canBe 180 = .ok (.iload_n 2, 1) := by decide +kernel
theorem dX12_canBe_181 : decode cX12_canBe 181 = .ok (.imul, 1) := by decide +kernel
theorem dX12_canBe_182 : decode cX12_canBe 182 = .ok (.iload_n 1, 1) := by decide +kernel
theorem dX12_canBe_183 : decode cX12_canBe 183 = .ok (.iadd, 1) := by decide +kernel
theorem dX12_canBe_184 : decode cX12_canBe 184 = .ok (.iaload, 1) := by decide +kernel
theorem dX12_canBe_185 : decode cX12_canBe 185 = .ok (.aload_n 0, 1) := by decide +kernel
theorem dX12_canBe_186 : decode cX12_canBe 186 = .ok (.getfield 144, 3) := by decide +kernel
theorem dX12_canBe_189 : decode cX12_canBe 189 = .ok (.bipush 7, 2) := by decide +kernel
theorem dX12_canBe_191 : decode cX12_canBe 191 = .ok (.iload_n 1, 1) := by decide +kernel
theorem dX12_canBe_192 : decode cX12_canBe 192 = .ok (.imul, 1) := by decide +kernel
theorem dX12_canBe_193 : decode cX12_canBe 193 = .ok (.iload_n 3, 1) := by decide +kernel
theorem dX12_canBe_194 : decode cX12_canBe 194 = .ok (.iadd, 1) := by decide +kernel
theorem dX12_canBe_195 : decode cX12_canBe 195 = .ok (.iaload, 1) := by decide +kernel
theorem dX12_canBe_196 : decode cX12_canBe 196 = .ok (.iadd, 1) := by decide +kernel
theorem dX12_canBe_197 : decode cX12_canBe 197 = .ok (.invokevirtual 393, 3) := by decide +kernel
theorem dX12_canBe_200 : decode cX12_canBe 200 = .ok (.iinc 3 1, 3) := by decide +kernel
theorem dX12_canBe_203 : decode cX12_canBe 203 = .ok (.goto (-38), 3) := by decide +kernel
theorem dX12_canBe_206 : decode cX12_canBe 206 = .ok (.iinc 2 1, 3) := by decide +kernel
theorem dX12_canBe_209 : decode cX12_canBe 209 = .ok (.goto (-52), 3) := by decide +kernel
theorem dX12_canBe_212 : decode cX12_canBe 212 = .ok (.iinc 1 1, 3) := by decide +kernel
theorem dX12_canBe_215 : decode cX12_canBe 215 = .ok (.goto (-66), 3) := by decide +kernel
theorem dX12_canBe_218 : decode cX12_canBe 218 = .ok (.iconst 0, 1) := by decide +kernel
theorem dX12_canBe_219 : decode cX12_canBe 219 = .ok (.istore_n 1, 1) := by decide +kernel
theorem dX12_canBe_220 : decode cX12_canBe 220 = .ok (.iload_n 1, 1) := by decide +kernel
theorem dX12_canBe_221 : decode cX12_canBe 221 = .ok (.bipush 7, 2) := by decide +kernel
theorem dX12_canBe_223 : decode cX12_canBe 223 = .ok (.if_icmp .ge 23, 3) := by decide +kernel
theorem dX12_canBe_226 : decode cX12_canBe 226 = .ok (.aload_n 0, 1) := by decide +kernel
theorem dX12_canBe_227 : decode cX12_canBe 227 = .ok (.getfield 144, 3) := by decide +kernel
theorem dX12_canBe_230 : decode cX12_canBe 230 = .ok (.bipush 8, 2) := by decide +kernel
theorem dX12_canBe_232 : decode cX12_canBe 232 = .ok (.iload_n 1, 1) := by decide +kernel
theorem dX12_canBe_233 : decode cX12_canBe 233 = .ok (.imul, 1) := by decide +kernel
theorem dX12_canBe_234 : decode cX12_canBe 234 = .ok (.iaload, 1) := by decide +kernel
theorem dX12_canBe_235 : decode cX12_canBe 235 = .ok (.ifCond .ge 5, 3) := by decide +kernel
theorem dX12_canBe_238 : decode cX12_canBe 238 = .ok (.iconst 0, 1) := by decide +kernel
theorem dX12_canBe_239 : decode cX12_canBe 239 = .ok (.ireturn, 1) := by decide +kernel
theorem dX12_canBe_240 : decode cX12_canBe 240 = .ok (.iinc 1 1, 3) := by decide +kernel
theorem dX12_canBe_243 : decode cX12_canBe 243 = .ok (.goto (-23), 3) := by decide +kernel
theorem dX12_canBe_246 : decode cX12_canBe 246 = .ok (.iconst 1, 1) := by decide +kernel
theorem dX12_canBe_247 : decode cX12_canBe 247 = .ok (.ireturn, 1) := by decide +kernel
theorem dX12_apart_0 : decode cX12_apart 0 = .ok (.aload_n 0, 1) := by decide +kernel
theorem dX12_apart_1 : decode cX12_apart 1 = .ok (.iload_n 1, 1) := by decide +kernel
theorem dX12_apart_2 : decode cX12_apart 2 = .ok (.invokevirtual 384, 3) := by decide +kernel
theorem dX12_apart_5 : decode cX12_apart 5 = .ok (.ifCond .eq 28, 3) := by decide +kernel
theorem dX12_apart_8 : decode cX12_apart 8 = .ok (.aload_n 0, 1) := by decide +kernel
theorem dX12_apart_9 : decode cX12_apart 9 = .ok (.iload_n 2, 1) := by decide +kernel
theorem dX12_apart_10 : decode cX12_apart 10 = .ok (.invokevirtual 384, 3) := by decide +kernel
theorem dX12_apart_13 : decode cX12_apart 13 = .ok (.ifCond .eq 20, 3) := by decide +kernel
theorem dX12_apart_16 : decode cX12_apart 16 = .ok (.iload_n 3, 1) := by decide +kernel
theorem dX12_apart_17 : decode cX12_apart 17 = .ok (.i2l, 1) := by decide +kernel
theorem dX12_apart_18 : decode cX12_apart 18 = .ok (.lconst 0, 1) := by decide +kernel
theorem dX12_apart_19 : decode cX12_apart 19 = .ok (.lconst 1, 1) := by decide +kernel
theorem dX12_apart_20 : decode cX12_apart 20 = .ok (.invokestatic 155, 3) := by decide +kernel
theorem dX12_apart_23 : decode cX12_apart 23 = .ok (.ifCond .eq 10, 3) := by decide +kernel
theorem dX12_apart_26 : decode cX12_apart 26 = .ok (.aload_n 0, 1) := by decide +kernel
theorem dX12_apart_27 : decode cX12_apart 27 = .ok (.invokevirtual 396, 3) := by decide +kernel
theorem dX12_apart_30 : decode cX12_apart 30 = .ok (.ifCond .ne 7, 3) := by decide +kernel
theorem dX12_apart_33 : decode cX12_apart 33 = .ok (.ldc_w 399, 3) := by decide +kernel
theorem dX12_apart_36 : decode cX12_apart 36 = .ok (.ireturn, 1) := by decide +kernel
theorem dX12_apart_37 : decode cX12_apart 37 = .ok (.aload_n 0, 1) := by decide +kernel
theorem dX12_apart_38 : decode cX12_apart 38 = .ok (.getfield 129, 3) := by decide +kernel
theorem dX12_apart_41 : decode cX12_apart 41 = .ok (.iload_n 1, 1) := by decide +kernel
theorem dX12_apart_42 : decode cX12_apart 42 = .ok (.iaload, 1) := by decide +kernel
theorem dX12_apart_43 : decode cX12_apart 43 = .ok (.istore 4, 2) := by decide +kernel
theorem dX12_apart_45 : decode cX12_apart 45 = .ok (.aload_n 0, 1) := by decide +kernel
theorem dX12_apart_46 : decode cX12_apart 46 = .ok (.getfield 129, 3) := by decide +kernel
theorem dX12_apart_49 : decode cX12_apart 49 = .ok (.iload_n 2, 1) := by decide +kernel
theorem dX12_apart_50 : decode cX12_apart 50 = .ok (.iaload, 1) := by decide +kernel
theorem dX12_apart_51 : decode cX12_apart 51 = .ok (.istore 5, 2) := by decide +kernel
theorem dX12_apart_53 : decode cX12_apart 53 = .ok (.aload_n 0, 1) := by decide +kernel
theorem dX12_apart_54 : decode cX12_apart 54 = .ok (.getfield 132, 3) := by decide +kernel
theorem dX12_apart_57 : decode cX12_apart 57 = .ok (.iload_n 2, 1) := by decide +kernel
theorem dX12_apart_58 : decode cX12_apart 58 = .ok (.iaload, 1) := by decide +kernel
theorem dX12_apart_59 : decode cX12_apart 59 = .ok (.aload_n 0, 1) := by decide +kernel
theorem dX12_apart_60 : decode cX12_apart 60 = .ok (.getfield 132, 3) := by decide +kernel
theorem dX12_apart_63 : decode cX12_apart 63 = .ok (.iload_n 1, 1) := by decide +kernel
theorem dX12_apart_64 : decode cX12_apart 64 = .ok (.iaload, 1) := by decide +kernel
theorem dX12_apart_65 : decode cX12_apart 65 = .ok (.isub, 1) := by decide +kernel
theorem dX12_apart_66 : decode cX12_apart 66 = .ok (.istore 6, 2) := by decide +kernel
theorem dX12_apart_68 : decode cX12_apart 68 = .ok (.iload_n 3, 1) := by decide +kernel
theorem dX12_apart_69 : decode cX12_apart 69 = .ok (.ifCond .ne 22, 3) := by decide +kernel
theorem dX12_apart_72 : decode cX12_apart 72 = .ok (.iload 6, 2) := by decide +kernel
theorem dX12_apart_74 : decode cX12_apart 74 = .ok (.aload_n 0, 1) := by decide +kernel
theorem dX12_apart_75 : decode cX12_apart 75 = .ok (.getfield 144, 3) := by decide +kernel
theorem dX12_apart_78 : decode cX12_apart 78 = .ok (.bipush 7, 2) := by decide +kernel
theorem dX12_apart_80 : decode cX12_apart 80 = .ok (.iload 5, 2) := by decide +kernel
theorem dX12_apart_82 : decode cX12_apart 82 = .ok (.imul, 1) := by decide +kernel
theorem dX12_apart_83 : decode cX12_apart 83 = .ok (.iload 4, 2) := by decide +kernel
theorem dX12_apart_85 : decode cX12_apart 85 = .ok (.iadd, 1) := by decide +kernel
theorem dX12_apart_86 : decode cX12_apart 86 = .ok (.iaload, 1) := by decide +kernel
theorem dX12_apart_87 : decode cX12_apart 87 = .ok (.isub, 1) := by decide +kernel
theorem dX12_apart_88 : decode cX12_apart 88 = .ok (.goto 19, 3) := by decide +kernel
theorem dX12_apart_91 : decode cX12_apart 91 = .ok (.iload 6, 2) := by decide +kernel
theorem dX12_apart_93 : decode cX12_apart 93 = .ok (.aload_n 0, 1) := by decide +kernel
theorem dX12_apart_94 : decode cX12_apart 94 = .ok (.getfield 144, 3) := by decide +kernel
theorem dX12_apart_97 : decode cX12_apart 97 = .ok (.bipush 7, 2) := by decide +kernel
theorem dX12_apart_99 : decode cX12_apart 99 = .ok (.iload 4, 2) := by decide +kernel
theorem dX12_apart_101 : decode cX12_apart 101 = .ok (.imul, 1) := by decide +kernel
theorem dX12_apart_102 : decode cX12_apart 102 = .ok (.iload 5, 2) := by decide +kernel
theorem dX12_apart_104 : decode cX12_apart 104 = .ok (.iadd, 1) := by decide +kernel
theorem dX12_apart_105 : decode cX12_apart 105 = .ok (.iaload, 1) := by decide +kernel
theorem dX12_apart_106 : decode cX12_apart 106 = .ok (.iadd, 1) := by decide +kernel
theorem dX12_apart_107 : decode cX12_apart 107 = .ok (.ireturn, 1) := by decide +kernel
theorem dX12_first_0 : decode cX12_first 0 = .ok (.aload_n 0, 1) := by decide +kernel
theorem dX12_first_1 : decode cX12_first 1 = .ok (.iload_n 1, 1) := by decide +kernel
theorem dX12_first_2 : decode cX12_first 2 = .ok (.invokevirtual 384, 3) := by decide +kernel
theorem dX12_first_5 : decode cX12_first 5 = .ok (.ifCond .eq 18, 3) := by decide +kernel
theorem dX12_first_8 : decode cX12_first 8 = .ok (.aload_n 0, 1) := by decide +kernel
theorem dX12_first_9 : decode cX12_first 9 = .ok (.iload_n 2, 1) := by decide +kernel
theorem dX12_first_10 : decode cX12_first 10 = .ok (.invokevirtual 384, 3) := by decide +kernel
theorem dX12_first_13 : decode cX12_first 13 = .ok (.ifCond .eq 10, 3) := by decide +kernel
theorem dX12_first_16 : decode cX12_first 16 = .ok (.aload_n 0, 1) := by decide +kernel
theorem dX12_first_17 : decode cX12_first 17 = .ok (.invokevirtual 396, 3) := by decide +kernel
theorem dX12_first_20 : decode cX12_first 20 = .ok (.ifCond .ne 5, 3) := by decide +kernel
theorem dX12_first_23 : decode cX12_first 23 = .ok (.iconst (-1), 1) := by decide +kernel
theorem dX12_first_24 : decode cX12_first 24 = .ok (.ireturn, 1) := by decide +kernel
theorem dX12_first_25 : decode cX12_first 25 = .ok (.aload_n 0, 1) := by decide +kernel
theorem dX12_first_26 : decode cX12_first 26 = .ok (.iload_n 1, 1) := by decide +kernel
theorem dX12_first_27 : decode cX12_first 27 = .ok (.iload_n 2, 1) := by decide +kernel
theorem dX12_first_28 : decode cX12_first 28 = .ok (.iconst 0, 1) := by decide +kernel
theorem dX12_first_29 : decode cX12_first 29 = .ok (.invokevirtual 400, 3) := by decide +kernel
theorem dX12_first_32 : decode cX12_first 32 = .ok (.istore_n 3, 1) := by decide +kernel
theorem dX12_first_33 : decode cX12_first 33 = .ok (.aload_n 0, 1) := by decide +kernel
theorem dX12_first_34 : decode cX12_first 34 = .ok (.iload_n 1, 1) := by decide +kernel
theorem dX12_first_35 : decode cX12_first 35 = .ok (.iload_n 2, 1) := by decide +kernel
theorem dX12_first_36 : decode cX12_first 36 = .ok (.iconst 1, 1) := by decide +kernel
theorem dX12_first_37 : decode cX12_first 37 = .ok (.invokevirtual 400, 3) := by decide +kernel
theorem dX12_first_40 : decode cX12_first 40 = .ok (.istore 4, 2) := by decide +kernel
theorem dX12_first_42 : decode cX12_first 42 = .ok (.iload_n 3, 1) := by decide +kernel
theorem dX12_first_43 : decode cX12_first 43 = .ok (.ifCond .le 7, 3) := by decide +kernel
theorem dX12_first_46 : decode cX12_first 46 = .ok (.iconst 1, 1) := by decide +kernel
theorem dX12_first_47 : decode cX12_first 47 = .ok (.goto 26, 3) := by decide +kernel
theorem dX12_first_50 : decode cX12_first 50 = .ok (.iload 4, 2) := by decide +kernel
theorem dX12_first_52 : decode cX12_first 52 = .ok (.ifCond .ge 7, 3) := by decide +kernel
theorem dX12_first_55 : decode cX12_first 55 = .ok (.iconst 2, 1) := by decide +kernel
theorem dX12_first_56 : decode cX12_first 56 = .ok (.goto 17, 3) := by decide +kernel
theorem dX12_first_59 : decode cX12_first 59 = .ok (.iload_n 3, 1) := by decide +kernel
theorem dX12_first_60 : decode cX12_first 60 = .ok (.ifCond .ne 12, 3) := by decide +kernel
theorem dX12_first_63 : decode cX12_first 63 = .ok (.iload 4, 2) := by decide +kernel
theorem dX12_first_65 : decode cX12_first 65 = .ok (.ifCond .ne 7, 3) := by decide +kernel
theorem dX12_first_68 : decode cX12_first 68 = .ok (.iconst 0, 1) := by decide +kernel
theorem dX12_first_69 : decode cX12_first 69 = .ok (.goto 4, 3) := by decide +kernel
theorem dX12_first_72 : decode cX12_first 72 = .ok (.iconst (-1), 1) := by decide +kernel
theorem dX12_first_73 : decode cX12_first 73 = .ok (.ireturn, 1) := by decide +kernel
theorem dX12_count_0 : decode cX12_count 0 = .ok (.iload_n 1, 1) := by decide +kernel
theorem dX12_count_1 : decode cX12_count 1 = .ok (.tableswitch 109 0 9 #[55, 62, 69, 74, 79, 84, 89, 94, 99, 104], 55) := by decide +kernel
theorem dX12_count_56 : decode cX12_count 56 = .ok (.aload_n 0, 1) := by decide +kernel
theorem dX12_count_57 : decode cX12_count 57 = .ok (.getfield 26, 3) := by decide +kernel
theorem dX12_count_60 : decode cX12_count 60 = .ok (.iconst 0, 1) := by decide +kernel
theorem dX12_count_61 : decode cX12_count 61 = .ok (.iaload, 1) := by decide +kernel
theorem dX12_count_62 : decode cX12_count 62 = .ok (.ireturn, 1) := by decide +kernel
theorem dX12_count_63 : decode cX12_count 63 = .ok (.aload_n 0, 1) := by decide +kernel
theorem dX12_count_64 : decode cX12_count 64 = .ok (.getfield 30, 3) := by decide +kernel
theorem dX12_count_67 : decode cX12_count 67 = .ok (.iconst 0, 1) := by decide +kernel
theorem dX12_count_68 : decode cX12_count 68 = .ok (.iaload, 1) := by decide +kernel
theorem dX12_count_69 : decode cX12_count 69 = .ok (.ireturn, 1) := by decide +kernel
theorem dX12_count_70 : decode cX12_count 70 = .ok (.aload_n 0, 1) := by decide +kernel
theorem dX12_count_71 : decode cX12_count 71 = .ok (.getfield 224, 3) := by decide +kernel
theorem dX12_count_74 : decode cX12_count 74 = .ok (.ireturn, 1) := by decide +kernel
theorem dX12_count_75 : decode cX12_count 75 = .ok (.aload_n 0, 1) := by decide +kernel
theorem dX12_count_76 : decode cX12_count 76 = .ok (.getfield 243, 3) := by decide +kernel
theorem dX12_count_79 : decode cX12_count 79 = .ok (.ireturn, 1) := by decide +kernel
theorem dX12_count_80 : decode cX12_count 80 = .ok (.aload_n 0, 1) := by decide +kernel
theorem dX12_count_81 : decode cX12_count 81 = .ok (.getfield 260, 3) := by decide +kernel
theorem dX12_count_84 : decode cX12_count 84 = .ok (.ireturn, 1) := by decide +kernel
theorem dX12_count_85 : decode cX12_count 85 = .ok (.aload_n 0, 1) := by decide +kernel
theorem dX12_count_86 : decode cX12_count 86 = .ok (.getfield 359, 3) := by decide +kernel
theorem dX12_count_89 : decode cX12_count 89 = .ok (.ireturn, 1) := by decide +kernel
theorem dX12_count_90 : decode cX12_count 90 = .ok (.aload_n 0, 1) := by decide +kernel
theorem dX12_count_91 : decode cX12_count 91 = .ok (.getfield 381, 3) := by decide +kernel
theorem dX12_count_94 : decode cX12_count 94 = .ok (.ireturn, 1) := by decide +kernel
theorem dX12_count_95 : decode cX12_count 95 = .ok (.aload_n 0, 1) := by decide +kernel
theorem dX12_count_96 : decode cX12_count 96 = .ok (.getfield 389, 3) := by decide +kernel
theorem dX12_count_99 : decode cX12_count 99 = .ok (.ireturn, 1) := by decide +kernel
theorem dX12_count_100 : decode cX12_count 100 = .ok (.aload_n 0, 1) := by decide +kernel
theorem dX12_count_101 : decode cX12_count 101 = .ok (.getfield 147, 3) := by decide +kernel
theorem dX12_count_104 : decode cX12_count 104 = .ok (.ireturn, 1) := by decide +kernel
theorem dX12_count_105 : decode cX12_count 105 = .ok (.aload_n 0, 1) := by decide +kernel
theorem dX12_count_106 : decode cX12_count 106 = .ok (.getfield 248, 3) := by decide +kernel
theorem dX12_count_109 : decode cX12_count 109 = .ok (.ireturn, 1) := by decide +kernel
theorem dX12_count_110 : decode cX12_count 110 = .ok (.iconst (-1), 1) := by decide +kernel
theorem dX12_count_111 : decode cX12_count 111 = .ok (.ireturn, 1) := by decide +kernel
