theorem d_Mo_init_0 : decode prog_13_method_2_code 0 = .ok (.aload_n 0, 1) := by decide +kernel
theorem d_Mo_init_1 : decode prog_13_method_2_code 1 = .ok (.invokespecial 7, 3) := by decide +kernel
theorem d_Mo_init_4 : decode prog_13_method_2_code 4 = .ok (.aload_n 0, 1) := by decide +kernel
theorem d_Mo_init_5 : decode prog_13_method_2_code 5 = .ok (.sipush 2000, 3) := by decide +kernel
theorem d_Mo_init_8 : decode prog_13_method_2_code 8 = .ok (.newarray .byte, 2) := by decide +kernel
theorem d_Mo_init_10 : decode prog_13_method_2_code 10 = .ok (.putfield 13, 3) := by decide +kernel
theorem d_Mo_init_13 : decode prog_13_method_2_code 13 = .ok (.aload_n 0, 1) := by decide +kernel
theorem d_Mo_init_14 : decode prog_13_method_2_code 14 = .ok (.sipush 2000, 3) := by decide +kernel
theorem d_Mo_init_17 : decode prog_13_method_2_code 17 = .ok (.newarray .byte, 2) := by decide +kernel
theorem d_Mo_init_19 : decode prog_13_method_2_code 19 = .ok (.putfield 17, 3) := by decide +kernel
theorem d_Mo_init_22 : decode prog_13_method_2_code 22 = .ok (.aload_n 0, 1) := by decide +kernel
theorem d_Mo_init_23 : decode prog_13_method_2_code 23 = .ok (.sipush 403, 3) := by decide +kernel
theorem d_Mo_init_26 : decode prog_13_method_2_code 26 = .ok (.newarray .int, 2) := by decide +kernel
theorem d_Mo_init_28 : decode prog_13_method_2_code 28 = .ok (.putfield 20, 3) := by decide +kernel
theorem d_Mo_init_31 : decode prog_13_method_2_code 31 = .ok (.aload_n 0, 1) := by decide +kernel
theorem d_Mo_init_32 : decode prog_13_method_2_code 32 = .ok (.sipush 403, 3) := by decide +kernel
theorem d_Mo_init_35 : decode prog_13_method_2_code 35 = .ok (.newarray .int, 2) := by decide +kernel
theorem d_Mo_init_37 : decode prog_13_method_2_code 37 = .ok (.putfield 24, 3) := by decide +kernel
theorem d_Mo_init_40 : decode prog_13_method_2_code 40 = .ok (.aload_n 0, 1) := by decide +kernel
theorem d_Mo_init_41 : decode prog_13_method_2_code 41 = .ok (.sipush 403, 3) := by decide +kernel
theorem d_Mo_init_44 : decode prog_13_method_2_code 44 = .ok (.newarray .int, 2) := by decide +kernel
theorem d_Mo_init_46 : decode prog_13_method_2_code 46 = .ok (.putfield 27, 3) := by decide +kernel
theorem d_Mo_init_49 : decode prog_13_method_2_code 49 = .ok (.aload_n 0, 1) := by decide +kernel
theorem d_Mo_init_50 : decode prog_13_method_2_code 50 = .ok (.sipush 403, 3) := by decide +kernel
theorem d_Mo_init_53 : decode prog_13_method_2_code 53 = .ok (.newarray .long, 2) := by decide +kernel
theorem d_Mo_init_55 : decode prog_13_method_2_code 55 = .ok (.putfield 30, 3) := by decide +kernel
theorem d_Mo_init_58 : decode prog_13_method_2_code 58 = .ok (.aload_n 0, 1) := by decide +kernel
theorem d_Mo_init_59 : decode prog_13_method_2_code 59 = .ok (.bipush 14, 2) := by decide +kernel
theorem d_Mo_init_61 : decode prog_13_method_2_code 61 = .ok (.newarray .long, 2) := by decide +kernel
theorem d_Mo_init_63 : decode prog_13_method_2_code 63 = .ok (.putfield 34, 3) := by decide +kernel
theorem d_Mo_init_66 : decode prog_13_method_2_code 66 = .ok (.aload_n 0, 1) := by decide +kernel
theorem d_Mo_init_67 : decode prog_13_method_2_code 67 = .ok (.iconst (-1), 1) := by decide +kernel
theorem d_Mo_init_68 : decode prog_13_method_2_code 68 = .ok (.putfield 37, 3) := by decide +kernel
theorem d_Mo_init_71 : decode prog_13_method_2_code 71 = .ok (.aload_n 0, 1) := by decide +kernel
theorem d_Mo_init_72 : decode prog_13_method_2_code 72 = .ok (.iconst 2, 1) := by decide +kernel
theorem d_Mo_init_73 : decode prog_13_method_2_code 73 = .ok (.newarray .int, 2) := by decide +kernel
theorem d_Mo_init_75 : decode prog_13_method_2_code 75 = .ok (.putfield 40, 3) := by decide +kernel
theorem d_Mo_init_78 : decode prog_13_method_2_code 78 = .ok (.aload_n 0, 1) := by decide +kernel
theorem d_Mo_init_79 : decode prog_13_method_2_code 79 = .ok (.iconst 2, 1) := by decide +kernel
theorem d_Mo_init_80 : decode prog_13_method_2_code 80 = .ok (.newarray .int, 2) := by decide +kernel
theorem d_Mo_init_82 : decode prog_13_method_2_code 82 = .ok (.putfield 43, 3) := by decide +kernel
theorem d_Mo_init_85 : decode prog_13_method_2_code 85 = .ok (.aload_n 0, 1) := by decide +kernel
theorem d_Mo_init_86 : decode prog_13_method_2_code 86 = .ok (.bipush 14, 2) := by decide +kernel
theorem d_Mo_init_88 : decode prog_13_method_2_code 88 = .ok (.newarray .long, 2) := by decide +kernel
theorem d_Mo_init_90 : decode prog_13_method_2_code 90 = .ok (.putfield 46, 3) := by decide +kernel
theorem d_Mo_init_93 : decode prog_13_method_2_code 93 = .ok (.aload_n 0, 1) := by decide +kernel
theorem d_Mo_init_94 : decode prog_13_method_2_code 94 = .ok (.bipush 32, 2) := by decide +kernel
theorem d_Mo_init_96 : decode prog_13_method_2_code 96 = .ok (.newarray .int, 2) := by decide +kernel
theorem d_Mo_init_98 : decode prog_13_method_2_code 98 = .ok (.putfield 49, 3) := by decide +kernel
theorem d_Mo_init_101 : decode prog_13_method_2_code 101 = .ok (.aload_n 0, 1) := by decide +kernel
theorem d_Mo_init_102 : decode prog_13_method_2_code 102 = .ok (.bipush 32, 2) := by decide +kernel
theorem d_Mo_init_104 : decode prog_13_method_2_code 104 = .ok (.newarray .int, 2) := by decide +kernel
theorem d_Mo_init_106 : decode prog_13_method_2_code 106 = .ok (.putfield 52, 3) := by decide +kernel
theorem d_Mo_init_109 : decode prog_13_method_2_code 109 = .ok (.aload_n 0, 1) := by decide +kernel
theorem d_Mo_init_110 : decode prog_13_method_2_code 110 = .ok (.bipush 32, 2) := by decide +kernel
theorem d_Mo_init_112 : decode prog_13_method_2_code 112 = .ok (.newarray .int, 2) := by decide +kernel
theorem d_Mo_init_114 : decode prog_13_method_2_code 114 = .ok (.putfield 55, 3) := by decide +kernel
theorem d_Mo_init_117 : decode prog_13_method_2_code 117 = .ok (.aload_n 0, 1) := by decide +kernel
theorem d_Mo_init_118 : decode prog_13_method_2_code 118 = .ok (.bipush 98, 2) := by decide +kernel
theorem d_Mo_init_120 : decode prog_13_method_2_code 120 = .ok (.newarray .int, 2) := by decide +kernel
theorem d_Mo_init_122 : decode prog_13_method_2_code 122 = .ok (.putfield 58, 3) := by decide +kernel
theorem d_Mo_init_125 : decode prog_13_method_2_code 125 = .ok (.aload_n 0, 1) := by decide +kernel
theorem d_Mo_init_126 : decode prog_13_method_2_code 126 = .ok (.iconst 2, 1) := by decide +kernel
theorem d_Mo_init_127 : decode prog_13_method_2_code 127 = .ok (.newarray .boolean, 2) := by decide +kernel
theorem d_Mo_init_129 : decode prog_13_method_2_code 129 = .ok (.putfield 61, 3) := by decide +kernel
theorem d_Mo_init_132 : decode prog_13_method_2_code 132 = .ok (.aload_n 0, 1) := by decide +kernel
theorem d_Mo_init_133 : decode prog_13_method_2_code 133 = .ok (.bipush 18, 2) := by decide +kernel
theorem d_Mo_init_135 : decode prog_13_method_2_code 135 = .ok (.newarray .int, 2) := by decide +kernel
theorem d_Mo_init_137 : decode prog_13_method_2_code 137 = .ok (.putfield 65, 3) := by decide +kernel
theorem d_Mo_init_140 : decode prog_13_method_2_code 140 = .ok (.aload_n 0, 1) := by decide +kernel
theorem d_Mo_init_141 : decode prog_13_method_2_code 141 = .ok (.sipush 643, 3) := by decide +kernel
theorem d_Mo_init_144 : decode prog_13_method_2_code 144 = .ok (.newarray .int, 2) := by decide +kernel
theorem d_Mo_init_146 : decode prog_13_method_2_code 146 = .ok (.putfield 68, 3) := by decide +kernel
theorem d_Mo_init_149 : decode prog_13_method_2_code 149 = .ok (.aload_n 0, 1) := by decide +kernel
theorem d_Mo_init_150 : decode prog_13_method_2_code 150 = .ok (.sipush 643, 3) := by decide +kernel
theorem d_Mo_init_153 : decode prog_13_method_2_code 153 = .ok (.newarray .int, 2) := by decide +kernel
theorem d_Mo_init_155 : decode prog_13_method_2_code 155 = .ok (.putfield 71, 3) := by decide +kernel
theorem d_Mo_init_158 : decode prog_13_method_2_code 158 = .ok (.aload_n 0, 1) := by decide +kernel
theorem d_Mo_init_159 : decode prog_13_method_2_code 159 = .ok (.sipush 400, 3) := by decide +kernel
theorem d_Mo_init_162 : decode prog_13_method_2_code 162 = .ok (.newarray .int, 2) := by decide +kernel
theorem d_Mo_init_164 : decode prog_13_method_2_code 164 = .ok (.putfield 74, 3) := by decide +kernel
theorem d_Mo_init_167 : decode prog_13_method_2_code 167 = .ok (.aload_n 0, 1) := by decide +kernel
theorem d_Mo_init_168 : decode prog_13_method_2_code 168 = .ok (.bipush 20, 2) := by decide +kernel
theorem d_Mo_init_170 : decode prog_13_method_2_code 170 = .ok (.newarray .int, 2) := by decide +kernel
theorem d_Mo_init_172 : decode prog_13_method_2_code 172 = .ok (.putfield 77, 3) := by decide +kernel
theorem d_Mo_init_175 : decode prog_13_method_2_code 175 = .ok (.aload_n 0, 1) := by decide +kernel
theorem d_Mo_init_176 : decode prog_13_method_2_code 176 = .ok (.sipush 12860, 3) := by decide +kernel
theorem d_Mo_init_179 : decode prog_13_method_2_code 179 = .ok (.newarray .int, 2) := by decide +kernel
theorem d_Mo_init_181 : decode prog_13_method_2_code 181 = .ok (.putfield 80, 3) := by decide +kernel
theorem d_Mo_init_184 : decode prog_13_method_2_code 184 = .ok (.aload_n 0, 1) := by decide +kernel
theorem d_Mo_init_185 : decode prog_13_method_2_code 185 = .ok (.sipush 1929, 3) := by decide +kernel
theorem d_Mo_init_188 : decode prog_13_method_2_code 188 = .ok (.newarray .int, 2) := by decide +kernel
theorem d_Mo_init_190 : decode prog_13_method_2_code 190 = .ok (.putfield 83, 3) := by decide +kernel
theorem d_Mo_init_193 : decode prog_13_method_2_code 193 = .ok (.aload_n 0, 1) := by decide +kernel
theorem d_Mo_init_194 : decode prog_13_method_2_code 194 = .ok (.iconst 3, 1) := by decide +kernel
theorem d_Mo_init_195 : decode prog_13_method_2_code 195 = .ok (.newarray .boolean, 2) := by decide +kernel
theorem d_Mo_init_197 : decode prog_13_method_2_code 197 = .ok (.putfield 86, 3) := by decide +kernel
theorem d_Mo_init_200 : decode prog_13_method_2_code 200 = .ok (.aload_n 0, 1) := by decide +kernel
theorem d_Mo_init_201 : decode prog_13_method_2_code 201 = .ok (.bipush 7, 2) := by decide +kernel
theorem d_Mo_init_203 : decode prog_13_method_2_code 203 = .ok (.newarray .int, 2) := by decide +kernel
theorem d_Mo_init_205 : decode prog_13_method_2_code 205 = .ok (.putfield 89, 3) := by decide +kernel
theorem d_Mo_init_208 : decode prog_13_method_2_code 208 = .ok (.aload_n 0, 1) := by decide +kernel
theorem d_Mo_init_209 : decode prog_13_method_2_code 209 = .ok (.getfield 34, 3) := by decide +kernel
theorem d_Mo_init_212 : decode prog_13_method_2_code 212 = .ok (.iconst 0, 1) := by decide +kernel
theorem d_Mo_init_213 : decode prog_13_method_2_code 213 = .ok (.bipush 112, 2) := by decide +kernel
theorem d_Mo_init_215 : decode prog_13_method_2_code 215 = .ok (.bipush 111, 2) := by decide +kernel
theorem d_Mo_init_217 : decode prog_13_method_2_code 217 = .ok (.bipush 115, 2) := by decide +kernel
theorem d_Mo_init_219 : decode prog_13_method_2_code 219 = .ok (.bipush 116, 2) := by decide +kernel
theorem d_Mo_init_221 : decode prog_13_method_2_code 221 = .ok (.iconst 0, 1) := by decide +kernel
theorem d_Mo_init_222 : decode prog_13_method_2_code 222 = .ok (.iconst 0, 1) := by decide +kernel
theorem d_Mo_init_223 : decode prog_13_method_2_code 223 = .ok (.iconst 0, 1) := by decide +kernel
theorem d_Mo_init_224 : decode prog_13_method_2_code 224 = .ok (.invokestatic 92, 3) := by decide +kernel
theorem d_Mo_init_227 : decode prog_13_method_2_code 227 = .ok (.lastore, 1) := by decide +kernel
theorem d_Mo_init_228 : decode prog_13_method_2_code 228 = .ok (.aload_n 0, 1) := by decide +kernel
theorem d_Mo_init_229 : decode prog_13_method_2_code 229 = .ok (.getfield 34, 3) := by decide +kernel
theorem d_Mo_init_232 : decode prog_13_method_2_code 232 = .ok (.iconst 1, 1) := by decide +kernel
theorem d_Mo_init_233 : decode prog_13_method_2_code 233 = .ok (.bipush 108, 2) := by decide +kernel
theorem d_Mo_init_235 : decode prog_13_method_2_code 235 = .ok (.bipush 105, 2) := by decide +kernel
theorem d_Mo_init_237 : decode prog_13_method_2_code 237 = .ok (.bipush 110, 2) := by decide +kernel
theorem d_Mo_init_239 : decode prog_13_method_2_code 239 = .ok (.bipush 107, 2) := by decide +kernel
theorem d_Mo_init_241 : decode prog_13_method_2_code 241 = .ok (.iconst 0, 1) := by decide +kernel
theorem d_Mo_init_242 : decode prog_13_method_2_code 242 = .ok (.iconst 0, 1) := by decide +kernel
theorem d_Mo_init_243 : decode prog_13_method_2_code 243 = .ok (.iconst 0, 1) := by decide +kernel
theorem d_Mo_init_244 : decode prog_13_method_2_code 244 = .ok (.invokestatic 92, 3) := by decide +kernel
theorem d_Mo_init_247 : decode prog_13_method_2_code 247 = .ok (.lastore, 1) := by decide +kernel
theorem d_Mo_init_248 : decode prog_13_method_2_code 248 = .ok (.aload_n 0, 1) := by decide +kernel
theorem d_Mo_init_249 : decode prog_13_method_2_code 249 = .ok (.getfield 34, 3) := by decide +kernel
theorem d_Mo_init_252 : decode prog_13_method_2_code 252 = .ok (.iconst 2, 1) := by decide +kernel
theorem d_Mo_init_253 : decode prog_13_method_2_code 253 = .ok (.bipush 102, 2) := by decide +kernel
theorem d_Mo_init_255 : decode prog_13_method_2_code 255 = .ok (.bipush 105, 2) := by decide +kernel
theorem d_Mo_init_257 : decode prog_13_method_2_code 257 = .ok (.bipush 114, 2) := by decide +kernel
theorem d_Mo_init_259 : decode prog_13_method_2_code 259 = .ok (.bipush 115, 2) := by decide +kernel
theorem d_Mo_init_261 : decode prog_13_method_2_code 261 = .ok (.bipush 116, 2) := by decide +kernel
theorem d_Mo_init_263 : decode prog_13_method_2_code 263 = .ok (.iconst 0, 1) := by decide +kernel
theorem d_Mo_init_264 : decode prog_13_method_2_code 264 = .ok (.iconst 0, 1) := by decide +kernel
theorem d_Mo_init_265 : decode prog_13_method_2_code 265 = .ok (.invokestatic 92, 3) := by decide +kernel
theorem d_Mo_init_268 : decode prog_13_method_2_code 268 = .ok (.lastore, 1) := by decide +kernel
theorem d_Mo_init_269 : decode prog_13_method_2_code 269 = .ok (.aload_n 0, 1) := by decide +kernel
theorem d_Mo_init_270 : decode prog_13_method_2_code 270 = .ok (.getfield 34, 3) := by decide +kernel
theorem d_Mo_init_273 : decode prog_13_method_2_code 273 = .ok (.iconst 3, 1) := by decide +kernel
theorem d_Mo_init_274 : decode prog_13_method_2_code 274 = .ok (.bipush 116, 2) := by decide +kernel
theorem d_Mo_init_276 : decode prog_13_method_2_code 276 = .ok (.bipush 119, 2) := by decide +kernel
theorem d_Mo_init_278 : decode prog_13_method_2_code 278 = .ok (.bipush 105, 2) := by decide +kernel
theorem d_Mo_init_280 : decode prog_13_method_2_code 280 = .ok (.bipush 99, 2) := by decide +kernel
theorem d_Mo_init_282 : decode prog_13_method_2_code 282 = .ok (.bipush 101, 2) := by decide +kernel
theorem d_Mo_init_284 : decode prog_13_method_2_code 284 = .ok (.iconst 0, 1) := by decide +kernel
theorem d_Mo_init_285 : decode prog_13_method_2_code 285 = .ok (.iconst 0, 1) := by decide +kernel
theorem d_Mo_init_286 : decode prog_13_method_2_code 286 = .ok (.invokestatic 92, 3) := by decide +kernel
theorem d_Mo_init_289 : decode prog_13_method_2_code 289 = .ok (.lastore, 1) := by decide +kernel
theorem d_Mo_init_290 : decode prog_13_method_2_code 290 = .ok (.aload_n 0, 1) := by decide +kernel
theorem d_Mo_init_291 : decode prog_13_method_2_code 291 = .ok (.getfield 34, 3) := by decide +kernel
theorem d_Mo_init_294 : decode prog_13_method_2_code 294 = .ok (.iconst 4, 1) := by decide +kernel
theorem d_Mo_init_295 : decode prog_13_method_2_code 295 = .ok (.bipush 101, 2) := by decide +kernel
theorem d_Mo_init_297 : decode prog_13_method_2_code 297 = .ok (.bipush 110, 2) := by decide +kernel
theorem d_Mo_init_299 : decode prog_13_method_2_code 299 = .ok (.bipush 111, 2) := by decide +kernel
theorem d_Mo_init_301 : decode prog_13_method_2_code 301 = .ok (.bipush 117, 2) := by decide +kernel
theorem d_Mo_init_303 : decode prog_13_method_2_code 303 = .ok (.bipush 103, 2) := by decide +kernel
theorem d_Mo_init_305 : decode prog_13_method_2_code 305 = .ok (.bipush 104, 2) := by decide +kernel
theorem d_Mo_init_307 : decode prog_13_method_2_code 307 = .ok (.iconst 0, 1) := by decide +kernel
theorem d_Mo_init_308 : decode prog_13_method_2_code 308 = .ok (.invokestatic 92, 3) := by decide +kernel
theorem d_Mo_init_311 : decode prog_13_method_2_code 311 = .ok (.lastore, 1) := by decide +kernel
theorem d_Mo_init_312 : decode prog_13_method_2_code 312 = .ok (.aload_n 0, 1) := by decide +kernel
theorem d_Mo_init_313 : decode prog_13_method_2_code 313 = .ok (.getfield 34, 3) := by decide +kernel
theorem d_Mo_init_316 : decode prog_13_method_2_code 316 = .ok (.iconst 5, 1) := by decide +kernel
theorem d_Mo_init_317 : decode prog_13_method_2_code 317 = .ok (.bipush 97, 2) := by decide +kernel
theorem d_Mo_init_319 : decode prog_13_method_2_code 319 = .ok (.bipush 112, 2) := by decide +kernel
theorem d_Mo_init_321 : decode prog_13_method_2_code 321 = .ok (.bipush 97, 2) := by decide +kernel
theorem d_Mo_init_323 : decode prog_13_method_2_code 323 = .ok (.bipush 114, 2) := by decide +kernel
theorem d_Mo_init_325 : decode prog_13_method_2_code 325 = .ok (.bipush 116, 2) := by decide +kernel
theorem d_Mo_init_327 : decode prog_13_method_2_code 327 = .ok (.iconst 0, 1) := by decide +kernel
theorem d_Mo_init_328 : decode prog_13_method_2_code 328 = .ok (.iconst 0, 1) := by decide +kernel
theorem d_Mo_init_329 : decode prog_13_method_2_code 329 = .ok (.invokestatic 92, 3) := by decide +kernel
theorem d_Mo_init_332 : decode prog_13_method_2_code 332 = .ok (.lastore, 1) := by decide +kernel
theorem d_Mo_init_333 : decode prog_13_method_2_code 333 = .ok (.aload_n 0, 1) := by decide +kernel
theorem d_Mo_init_334 : decode prog_13_method_2_code 334 = .ok (.getfield 34, 3) := by decide +kernel
theorem d_Mo_init_337 : decode prog_13_method_2_code 337 = .ok (.bipush 6, 2) := by decide +kernel
theorem d_Mo_init_339 : decode prog_13_method_2_code 339 = .ok (.bipush 114, 2) := by decide +kernel
theorem d_Mo_init_341 : decode prog_13_method_2_code 341 = .ok (.bipush 105, 2) := by decide +kernel
theorem d_Mo_init_343 : decode prog_13_method_2_code 343 = .ok (.bipush 115, 2) := by decide +kernel
theorem d_Mo_init_345 : decode prog_13_method_2_code 345 = .ok (.bipush 101, 2) := by decide +kernel
theorem d_Mo_init_347 : decode prog_13_method_2_code 347 = .ok (.iconst 0, 1) := by decide +kernel
theorem d_Mo_init_348 : decode prog_13_method_2_code 348 = .ok (.iconst 0, 1) := by decide +kernel
theorem d_Mo_init_349 : decode prog_13_method_2_code 349 = .ok (.iconst 0, 1) := by decide +kernel
theorem d_Mo_init_350 : decode prog_13_method_2_code 350 = .ok (.invokestatic 92, 3) := by decide +kernel
theorem d_Mo_init_353 : decode prog_13_method_2_code 353 = .ok (.lastore, 1) := by decide +kernel
theorem d_Mo_init_354 : decode prog_13_method_2_code 354 = .ok (.aload_n 0, 1) := by decide +kernel
theorem d_Mo_init_355 : decode prog_13_method_2_code 355 = .ok (.getfield 34, 3) := by decide +kernel
theorem d_Mo_init_358 : decode prog_13_method_2_code 358 = .ok (.bipush 7, 2) := by decide +kernel
theorem d_Mo_init_360 : decode prog_13_method_2_code 360 = .ok (.bipush 114, 2) := by decide +kernel
theorem d_Mo_init_362 : decode prog_13_method_2_code 362 = .ok (.bipush 101, 2) := by decide +kernel
theorem d_Mo_init_364 : decode prog_13_method_2_code 364 = .ok (.bipush 115, 2) := by decide +kernel
theorem d_Mo_init_366 : decode prog_13_method_2_code 366 = .ok (.bipush 116, 2) := by decide +kernel
theorem d_Mo_init_368 : decode prog_13_method_2_code 368 = .ok (.iconst 0, 1) := by decide +kernel
theorem d_Mo_init_369 : decode prog_13_method_2_code 369 = .ok (.iconst 0, 1) := by decide +kernel
theorem d_Mo_init_370 : decode prog_13_method_2_code 370 = .ok (.iconst 0, 1) := by decide +kernel
theorem d_Mo_init_371 : decode prog_13_method_2_code 371 = .ok (.invokestatic 92, 3) := by decide +kernel
theorem d_Mo_init_374 : decode prog_13_method_2_code 374 = .ok (.lastore, 1) := by decide +kernel
theorem d_Mo_init_375 : decode prog_13_method_2_code 375 = .ok (.aload_n 0, 1) := by decide +kernel
theorem d_Mo_init_376 : decode prog_13_method_2_code 376 = .ok (.getfield 34, 3) := by decide +kernel
theorem d_Mo_init_379 : decode prog_13_method_2_code 379 = .ok (.bipush 8, 2) := by decide +kernel
theorem d_Mo_init_381 : decode prog_13_method_2_code 381 = .ok (.bipush 102, 2) := by decide +kernel
theorem d_Mo_init_383 : decode prog_13_method_2_code 383 = .ok (.bipush 114, 2) := by decide +kernel
theorem d_Mo_init_385 : decode prog_13_method_2_code 385 = .ok (.bipush 101, 2) := by decide +kernel
theorem d_Mo_init_387 : decode prog_13_method_2_code 387 = .ok (.bipush 115, 2) := by decide +kernel
theorem d_Mo_init_389 : decode prog_13_method_2_code 389 = .ok (.bipush 104, 2) := by decide +kernel
theorem d_Mo_init_391 : decode prog_13_method_2_code 391 = .ok (.iconst 0, 1) := by decide +kernel
theorem d_Mo_init_392 : decode prog_13_method_2_code 392 = .ok (.iconst 0, 1) := by decide +kernel
theorem d_Mo_init_393 : decode prog_13_method_2_code 393 = .ok (.invokestatic 92, 3) := by decide +kernel
theorem d_Mo_init_396 : decode prog_13_method_2_code 396 = .ok (.lastore, 1) := by decide +kernel
theorem d_Mo_init_397 : decode prog_13_method_2_code 397 = .ok (.aload_n 0, 1) := by decide +kernel
theorem d_Mo_init_398 : decode prog_13_method_2_code 398 = .ok (.getfield 34, 3) := by decide +kernel
theorem d_Mo_init_401 : decode prog_13_method_2_code 401 = .ok (.bipush 9, 2) := by decide +kernel
theorem d_Mo_init_403 : decode prog_13_method_2_code 403 = .ok (.bipush 110, 2) := by decide +kernel
theorem d_Mo_init_405 : decode prog_13_method_2_code 405 = .ok (.bipush 111, 2) := by decide +kernel
theorem d_Mo_init_407 : decode prog_13_method_2_code 407 = .ok (.bipush 105, 2) := by decide +kernel
theorem d_Mo_init_409 : decode prog_13_method_2_code 409 = .ok (.bipush 115, 2) := by decide +kernel
theorem d_Mo_init_411 : decode prog_13_method_2_code 411 = .ok (.bipush 101, 2) := by decide +kernel
theorem d_Mo_init_413 : decode prog_13_method_2_code 413 = .ok (.iconst 0, 1) := by decide +kernel
theorem d_Mo_init_414 : decode prog_13_method_2_code 414 = .ok (.iconst 0, 1) := by decide +kernel
theorem d_Mo_init_415 : decode prog_13_method_2_code 415 = .ok (.invokestatic 92, 3) := by decide +kernel
theorem d_Mo_init_418 : decode prog_13_method_2_code 418 = .ok (.lastore, 1) := by decide +kernel
theorem d_Mo_init_419 : decode prog_13_method_2_code 419 = .ok (.aload_n 0, 1) := by decide +kernel
theorem d_Mo_init_420 : decode prog_13_method_2_code 420 = .ok (.getfield 34, 3) := by decide +kernel
theorem d_Mo_init_423 : decode prog_13_method_2_code 423 = .ok (.bipush 10, 2) := by decide +kernel
theorem d_Mo_init_425 : decode prog_13_method_2_code 425 = .ok (.bipush 115, 2) := by decide +kernel
theorem d_Mo_init_427 : decode prog_13_method_2_code 427 = .ok (.bipush 101, 2) := by decide +kernel
theorem d_Mo_init_429 : decode prog_13_method_2_code 429 = .ok (.bipush 101, 2) := by decide +kernel
theorem d_Mo_init_431 : decode prog_13_method_2_code 431 = .ok (.bipush 100, 2) := by decide +kernel
theorem d_Mo_init_433 : decode prog_13_method_2_code 433 = .ok (.iconst 0, 1) := by decide +kernel
theorem d_Mo_init_434 : decode prog_13_method_2_code 434 = .ok (.iconst 0, 1) := by decide +kernel
theorem d_Mo_init_435 : decode prog_13_method_2_code 435 = .ok (.iconst 0, 1) := by decide +kernel
theorem d_Mo_init_436 : decode prog_13_method_2_code 436 = .ok (.invokestatic 92, 3) := by decide +kernel
theorem d_Mo_init_439 : decode prog_13_method_2_code 439 = .ok (.lastore, 1) := by decide +kernel
theorem d_Mo_init_440 : decode prog_13_method_2_code 440 = .ok (.aload_n 0, 1) := by decide +kernel
theorem d_Mo_init_441 : decode prog_13_method_2_code 441 = .ok (.getfield 34, 3) := by decide +kernel
theorem d_Mo_init_444 : decode prog_13_method_2_code 444 = .ok (.bipush 11, 2) := by decide +kernel
theorem d_Mo_init_446 : decode prog_13_method_2_code 446 = .ok (.bipush 103, 2) := by decide +kernel
theorem d_Mo_init_448 : decode prog_13_method_2_code 448 = .ok (.bipush 111, 2) := by decide +kernel
theorem d_Mo_init_450 : decode prog_13_method_2_code 450 = .ok (.bipush 97, 2) := by decide +kernel
theorem d_Mo_init_452 : decode prog_13_method_2_code 452 = .ok (.bipush 108, 2) := by decide +kernel
theorem d_Mo_init_454 : decode prog_13_method_2_code 454 = .ok (.iconst 0, 1) := by decide +kernel
theorem d_Mo_init_455 : decode prog_13_method_2_code 455 = .ok (.iconst 0, 1) := by decide +kernel
theorem d_Mo_init_456 : decode prog_13_method_2_code 456 = .ok (.iconst 0, 1) := by decide +kernel
theorem d_Mo_init_457 : decode prog_13_method_2_code 457 = .ok (.invokestatic 92, 3) := by decide +kernel
theorem d_Mo_init_460 : decode prog_13_method_2_code 460 = .ok (.lastore, 1) := by decide +kernel
theorem d_Mo_init_461 : decode prog_13_method_2_code 461 = .ok (.aload_n 0, 1) := by decide +kernel
theorem d_Mo_init_462 : decode prog_13_method_2_code 462 = .ok (.getfield 34, 3) := by decide +kernel
theorem d_Mo_init_465 : decode prog_13_method_2_code 465 = .ok (.bipush 12, 2) := by decide +kernel
theorem d_Mo_init_467 : decode prog_13_method_2_code 467 = .ok (.bipush 104, 2) := by decide +kernel
theorem d_Mo_init_469 : decode prog_13_method_2_code 469 = .ok (.bipush 111, 2) := by decide +kernel
theorem d_Mo_init_471 : decode prog_13_method_2_code 471 = .ok (.bipush 112, 2) := by decide +kernel
theorem d_Mo_init_473 : decode prog_13_method_2_code 473 = .ok (.bipush 115, 2) := by decide +kernel
theorem d_Mo_init_475 : decode prog_13_method_2_code 475 = .ok (.iconst 0, 1) := by decide +kernel
theorem d_Mo_init_476 : decode prog_13_method_2_code 476 = .ok (.iconst 0, 1) := by decide +kernel
theorem d_Mo_init_477 : decode prog_13_method_2_code 477 = .ok (.iconst 0, 1) := by decide +kernel
theorem d_Mo_init_478 : decode prog_13_method_2_code 478 = .ok (.invokestatic 92, 3) := by decide +kernel
theorem d_Mo_init_481 : decode prog_13_method_2_code 481 = .ok (.lastore, 1) := by decide +kernel
theorem d_Mo_init_482 : decode prog_13_method_2_code 482 = .ok (.aload_n 0, 1) := by decide +kernel
theorem d_Mo_init_483 : decode prog_13_method_2_code 483 = .ok (.getfield 34, 3) := by decide +kernel
theorem d_Mo_init_486 : decode prog_13_method_2_code 486 = .ok (.bipush 13, 2) := by decide +kernel
theorem d_Mo_init_488 : decode prog_13_method_2_code 488 = .ok (.bipush 99, 2) := by decide +kernel
theorem d_Mo_init_490 : decode prog_13_method_2_code 490 = .ok (.bipush 111, 2) := by decide +kernel
theorem d_Mo_init_492 : decode prog_13_method_2_code 492 = .ok (.bipush 115, 2) := by decide +kernel
theorem d_Mo_init_494 : decode prog_13_method_2_code 494 = .ok (.bipush 116, 2) := by decide +kernel
theorem d_Mo_init_496 : decode prog_13_method_2_code 496 = .ok (.bipush 115, 2) := by decide +kernel
theorem d_Mo_init_498 : decode prog_13_method_2_code 498 = .ok (.iconst 0, 1) := by decide +kernel
theorem d_Mo_init_499 : decode prog_13_method_2_code 499 = .ok (.iconst 0, 1) := by decide +kernel
theorem d_Mo_init_500 : decode prog_13_method_2_code 500 = .ok (.invokestatic 92, 3) := by decide +kernel
theorem d_Mo_init_503 : decode prog_13_method_2_code 503 = .ok (.lastore, 1) := by decide +kernel
theorem d_Mo_init_504 : decode prog_13_method_2_code 504 = .ok (.aload_n 0, 1) := by decide +kernel
theorem d_Mo_init_505 : decode prog_13_method_2_code 505 = .ok (.iconst 0, 1) := by decide +kernel
theorem d_Mo_init_506 : decode prog_13_method_2_code 506 = .ok (.invokevirtual 96, 3) := by decide +kernel
theorem d_Mo_init_509 : decode prog_13_method_2_code 509 = .ok (.aload_n 0, 1) := by decide +kernel
theorem d_Mo_init_510 : decode prog_13_method_2_code 510 = .ok (.iconst 1, 1) := by decide +kernel
theorem d_Mo_init_511 : decode prog_13_method_2_code 511 = .ok (.invokevirtual 96, 3) := by decide +kernel
theorem d_Mo_init_514 : decode prog_13_method_2_code 514 = .ok (.aload_n 0, 1) := by decide +kernel
theorem d_Mo_init_515 : decode prog_13_method_2_code 515 = .ok (.invokevirtual 100, 3) := by decide +kernel
theorem d_Mo_init_518 : decode prog_13_method_2_code 518 = .ok (.aload_n 0, 1) := by decide +kernel
theorem d_Mo_init_519 : decode prog_13_method_2_code 519 = .ok (.invokevirtual 103, 3) := by decide +kernel
theorem d_Mo_init_522 : decode prog_13_method_2_code 522 = .ok (.return_, 1) := by decide +kernel
def y_Mo_init : MethodName := ⟨"SensorTreeModel", "<init>", "()V"⟩
theorem hy_Mo_init : y_Mo_init.cls ≠ "java/lang/invoke/MethodHandle" ∧ y_Mo_init.cls ≠ "java/lang/invoke/VarHandle" ∧ (parseMethodDescriptor y_Mo_init.desc).map (fun d => d.parameters.length) = some 0 := by decide +kernel
abbrev rm_Mo_init : Room := { frames := 5, cells := 24, slots := 22363, locals := 109 }
def md_fs (s0 : Nat) : List Value := [.int 0, .ref (s0 + 0), .int 0, .ref (s0 + 1), .int 0, .ref (s0 + 2), .ref (s0 + 3), .ref (s0 + 4), .ref (s0 + 5), .ref (s0 + 6), .int 0, .int 0, .int 0, .int 0, .int 0, .int 0, .int (-1), .int 0, .int 0, .ref (s0 + 7), .ref (s0 + 8), .ref (s0 + 9), .ref (s0 + 10), .ref (s0 + 11), .ref (s0 + 12), .ref (s0 + 13), .ref (s0 + 14), .ref (s0 + 15), .ref (s0 + 16), .ref (s0 + 17), .ref (s0 + 18), .int 0, .ref (s0 + 19), .int 0, .int 0, .ref (s0 + 20), .int 0, .int 0, .ref (s0 + 21), .ref (s0 + 22), .ref (s0 + 23)]
def md_es (K : sx_K) : List va_E := [.inl (K.2.1 1, 2000, .inl (fun _ => 0)), .inl (K.2.1 1, 2000, .inl (fun _ => 0)), .inl (K.2.1 0, 403, .inl (fun _ => 0)), .inl (K.2.1 0, 403, .inl (fun _ => 0)), .inl (K.2.1 0, 403, .inl (fun _ => 0)), .inl (K.2.1 3, 403, .inr (.inl (fun _ => 0))), .inl (K.2.1 3, 14, .inr (.inl (fun _ => 0))), .inl (K.2.1 0, 2, .inl (fun _ => 0)), .inl (K.2.1 0, 2, .inl (fun _ => 0)), .inl (K.2.1 3, 14, .inr (.inl (fun _ => 0))), .inl (K.2.1 0, 32, .inl (fun _ => 0)), .inl (K.2.1 0, 32, .inl (fun _ => 0)), .inl (K.2.1 0, 32, .inl (fun _ => 0)), .inl (K.2.1 0, 98, .inl (fun _ => 0)), .inl (K.2.1 2, 2, .inl (fun _ => 0)), .inl (K.2.1 0, 18, .inl (fun _ => 0)), .inl (K.2.1 0, 643, .inl (fun _ => 0)), .inl (K.2.1 0, 643, .inl (fun _ => 0)), .inl (K.2.1 0, 400, .inl (fun _ => 0)), .inl (K.2.1 0, 20, .inl (fun _ => 0)), .inl (K.2.1 0, 12860, .inl (fun _ => 0)), .inl (K.2.1 0, 1929, .inl (fun _ => 0)), .inl (K.2.1 2, 3, .inl (fun _ => 0)), .inl (K.2.1 0, 7, .inl (fun _ => 0))]
theorem lc_2000 : (Jvm.Cond.methodLink "SensorTreeModel" (7 : Nat) ({ cls := "java/lang/Object", name := "<init>", desc := "()V" } : Jvm.MethodName)) ∈ lw_g := lw_at 1072 (by decide +kernel) (by decide +kernel)
theorem lc_2001 : (Jvm.Cond.arrayClass Jvm.ClassFile.FieldType.long) ∈ lw_g := lw_at 1242 (by decide +kernel) (by decide +kernel)
set_option maxHeartbeats 4000000 in
set_option maxRecDepth 100000 in
theorem md_head {l : Launch} {K : sx_K} {Y : sx_T} {h0 s0 : Nat} (hC : ct_C Y K prog_13_method_2_code 1 "SensorTreeModel" none rm_Mo_init l) (hin : (sx_h Y).name = "<init>") (kk : sx_GA (ct_X Y 24 22363) (ct_A h0 s0) 1 208 [(0, .ref h0)] [] (ct_W K h0 s0 (.inr (11, md_fs s0)) (md_es K))) : sx_GA (ct_X Y 0 0) (ct_A h0 s0) 1 0 [(0, .ref h0)] [] (ct_W K h0 s0 (.inr (11, [.int 0, .null, .int 0, .null, .int 0, .null, .null, .null, .null, .null, .int 0, .int 0, .int 0, .int 0, .int 0, .int 0, .int 0, .int 0, .int 0, .null, .null, .null, .null, .null, .null, .null, .null, .null, .null, .null, .null, .int 0, .null, .int 0, .int 0, .null, .int 0, .int 0, .null, .null, .null])) []) := by
  refine sx_aload_n (pc2 := 1) (ct_at (a := 0) (c := 0) hC ⟨Nat.le_of_ble_eq_true rfl, Nat.le_of_ble_eq_true rfl⟩) 0 d_Mo_init_0 rfl rfl rfl ?_
  refine ct_obj (pc2 := 4) hC lc_2000 lc_1 lc_2 ⟨Nat.le_of_ble_eq_true rfl, Nat.le_of_ble_eq_true rfl⟩ d_Mo_init_1 rfl ?_
  refine sx_aload_n (pc2 := 5) (ct_at (a := 0) (c := 0) hC ⟨Nat.le_of_ble_eq_true rfl, Nat.le_of_ble_eq_true rfl⟩) 0 d_Mo_init_4 rfl rfl rfl ?_
  refine sx_sipush (v := 2000) (pc2 := 8) (ct_at (a := 0) (c := 0) hC ⟨Nat.le_of_ble_eq_true rfl, Nat.le_of_ble_eq_true rfl⟩) d_Mo_init_5 (by decide) rfl ?_
  refine ct_newa (t0 := 1) (atype := .byte) (N := 2000) (a2 := 1) (c2 := 2000) (a0 := (2000, .inl (fun _ => 0))) (pc2 := 10) hC 0 lc_3 rfl rfl (fun _ => rfl) (by decide) (by decide) (Nat.le_of_ble_eq_true rfl) ⟨rfl, rfl⟩ ⟨Nat.le_of_ble_eq_true rfl, Nat.le_of_ble_eq_true rfl⟩ d_Mo_init_8 rfl rfl (es2 := [.inl (K.2.1 1, 2000, .inl (fun _ => 0))]) rfl ?_
  refine ct_put (pc2 := 13) hC kx_y11 kx_i11 kx_o11 kx_n11 rfl 1 (by decide) lk_747 rfl (Or.inr ⟨hin, rfl⟩) (kx_o11 1 (by decide)) rfl rfl (Nat.le_of_ble_eq_true rfl) d_Mo_init_10 rfl (fs2 := [.int 0, .ref (s0 + 0), .int 0, .null, .int 0, .null, .null, .null, .null, .null, .int 0, .int 0, .int 0, .int 0, .int 0, .int 0, .int 0, .int 0, .int 0, .null, .null, .null, .null, .null, .null, .null, .null, .null, .null, .null, .null, .int 0, .null, .int 0, .int 0, .null, .int 0, .int 0, .null, .null, .null]) rfl ?_
  refine sx_aload_n (pc2 := 14) (ct_at (a := 1) (c := 2000) hC ⟨Nat.le_of_ble_eq_true rfl, Nat.le_of_ble_eq_true rfl⟩) 0 d_Mo_init_13 rfl rfl rfl ?_
  refine sx_sipush (v := 2000) (pc2 := 17) (ct_at (a := 1) (c := 2000) hC ⟨Nat.le_of_ble_eq_true rfl, Nat.le_of_ble_eq_true rfl⟩) d_Mo_init_14 (by decide) rfl ?_
  refine ct_newa (t0 := 1) (atype := .byte) (N := 2000) (a2 := 2) (c2 := 4000) (a0 := (2000, .inl (fun _ => 0))) (pc2 := 19) hC 1 lc_3 rfl rfl (fun _ => rfl) (by decide) (by decide) (Nat.le_of_ble_eq_true rfl) ⟨rfl, rfl⟩ ⟨Nat.le_of_ble_eq_true rfl, Nat.le_of_ble_eq_true rfl⟩ d_Mo_init_17 rfl rfl (es2 := [.inl (K.2.1 1, 2000, .inl (fun _ => 0)), .inl (K.2.1 1, 2000, .inl (fun _ => 0))]) rfl ?_
  refine ct_put (pc2 := 22) hC kx_y11 kx_i11 kx_o11 kx_n11 rfl 3 (by decide) lk_748 rfl (Or.inr ⟨hin, rfl⟩) (kx_o11 3 (by decide)) rfl rfl (Nat.le_of_ble_eq_true rfl) d_Mo_init_19 rfl (fs2 := [.int 0, .ref (s0 + 0), .int 0, .ref (s0 + 1), .int 0, .null, .null, .null, .null, .null, .int 0, .int 0, .int 0, .int 0, .int 0, .int 0, .int 0, .int 0, .int 0, .null, .null, .null, .null, .null, .null, .null, .null, .null, .null, .null, .null, .int 0, .null, .int 0, .int 0, .null, .int 0, .int 0, .null, .null, .null]) rfl ?_
  refine sx_aload_n (pc2 := 23) (ct_at (a := 2) (c := 4000) hC ⟨Nat.le_of_ble_eq_true rfl, Nat.le_of_ble_eq_true rfl⟩) 0 d_Mo_init_22 rfl rfl rfl ?_
  refine sx_sipush (v := 403) (pc2 := 26) (ct_at (a := 2) (c := 4000) hC ⟨Nat.le_of_ble_eq_true rfl, Nat.le_of_ble_eq_true rfl⟩) d_Mo_init_23 (by decide) rfl ?_
  refine ct_newa (t0 := 0) (atype := .int) (N := 403) (a2 := 3) (c2 := 4403) (a0 := (403, .inl (fun _ => 0))) (pc2 := 28) hC 2 lc_5 rfl rfl (fun _ => rfl) (by decide) (by decide) (Nat.le_of_ble_eq_true rfl) ⟨rfl, rfl⟩ ⟨Nat.le_of_ble_eq_true rfl, Nat.le_of_ble_eq_true rfl⟩ d_Mo_init_26 rfl rfl (es2 := [.inl (K.2.1 1, 2000, .inl (fun _ => 0)), .inl (K.2.1 1, 2000, .inl (fun _ => 0)), .inl (K.2.1 0, 403, .inl (fun _ => 0))]) rfl ?_
  refine ct_put (pc2 := 31) hC kx_y11 kx_i11 kx_o11 kx_n11 rfl 5 (by decide) lk_749 rfl (Or.inr ⟨hin, rfl⟩) (kx_o11 5 (by decide)) rfl rfl (Nat.le_of_ble_eq_true rfl) d_Mo_init_28 rfl (fs2 := [.int 0, .ref (s0 + 0), .int 0, .ref (s0 + 1), .int 0, .ref (s0 + 2), .null, .null, .null, .null, .int 0, .int 0, .int 0, .int 0, .int 0, .int 0, .int 0, .int 0, .int 0, .null, .null, .null, .null, .null, .null, .null, .null, .null, .null, .null, .null, .int 0, .null, .int 0, .int 0, .null, .int 0, .int 0, .null, .null, .null]) rfl ?_
  refine sx_aload_n (pc2 := 32) (ct_at (a := 3) (c := 4403) hC ⟨Nat.le_of_ble_eq_true rfl, Nat.le_of_ble_eq_true rfl⟩) 0 d_Mo_init_31 rfl rfl rfl ?_
  refine sx_sipush (v := 403) (pc2 := 35) (ct_at (a := 3) (c := 4403) hC ⟨Nat.le_of_ble_eq_true rfl, Nat.le_of_ble_eq_true rfl⟩) d_Mo_init_32 (by decide) rfl ?_
  refine ct_newa (t0 := 0) (atype := .int) (N := 403) (a2 := 4) (c2 := 4806) (a0 := (403, .inl (fun _ => 0))) (pc2 := 37) hC 3 lc_5 rfl rfl (fun _ => rfl) (by decide) (by decide) (Nat.le_of_ble_eq_true rfl) ⟨rfl, rfl⟩ ⟨Nat.le_of_ble_eq_true rfl, Nat.le_of_ble_eq_true rfl⟩ d_Mo_init_35 rfl rfl (es2 := [.inl (K.2.1 1, 2000, .inl (fun _ => 0)), .inl (K.2.1 1, 2000, .inl (fun _ => 0)), .inl (K.2.1 0, 403, .inl (fun _ => 0)), .inl (K.2.1 0, 403, .inl (fun _ => 0))]) rfl ?_
  refine ct_put (pc2 := 40) hC kx_y11 kx_i11 kx_o11 kx_n11 rfl 6 (by decide) lk_750 rfl (Or.inr ⟨hin, rfl⟩) (kx_o11 6 (by decide)) rfl rfl (Nat.le_of_ble_eq_true rfl) d_Mo_init_37 rfl (fs2 := [.int 0, .ref (s0 + 0), .int 0, .ref (s0 + 1), .int 0, .ref (s0 + 2), .ref (s0 + 3), .null, .null, .null, .int 0, .int 0, .int 0, .int 0, .int 0, .int 0, .int 0, .int 0, .int 0, .null, .null, .null, .null, .null, .null, .null, .null, .null, .null, .null, .null, .int 0, .null, .int 0, .int 0, .null, .int 0, .int 0, .null, .null, .null]) rfl ?_
  refine sx_aload_n (pc2 := 41) (ct_at (a := 4) (c := 4806) hC ⟨Nat.le_of_ble_eq_true rfl, Nat.le_of_ble_eq_true rfl⟩) 0 d_Mo_init_40 rfl rfl rfl ?_
  refine sx_sipush (v := 403) (pc2 := 44) (ct_at (a := 4) (c := 4806) hC ⟨Nat.le_of_ble_eq_true rfl, Nat.le_of_ble_eq_true rfl⟩) d_Mo_init_41 (by decide) rfl ?_
  refine ct_newa (t0 := 0) (atype := .int) (N := 403) (a2 := 5) (c2 := 5209) (a0 := (403, .inl (fun _ => 0))) (pc2 := 46) hC 4 lc_5 rfl rfl (fun _ => rfl) (by decide) (by decide) (Nat.le_of_ble_eq_true rfl) ⟨rfl, rfl⟩ ⟨Nat.le_of_ble_eq_true rfl, Nat.le_of_ble_eq_true rfl⟩ d_Mo_init_44 rfl rfl (es2 := [.inl (K.2.1 1, 2000, .inl (fun _ => 0)), .inl (K.2.1 1, 2000, .inl (fun _ => 0)), .inl (K.2.1 0, 403, .inl (fun _ => 0)), .inl (K.2.1 0, 403, .inl (fun _ => 0)), .inl (K.2.1 0, 403, .inl (fun _ => 0))]) rfl ?_
  refine ct_put (pc2 := 49) hC kx_y11 kx_i11 kx_o11 kx_n11 rfl 7 (by decide) lk_751 rfl (Or.inr ⟨hin, rfl⟩) (kx_o11 7 (by decide)) rfl rfl (Nat.le_of_ble_eq_true rfl) d_Mo_init_46 rfl (fs2 := [.int 0, .ref (s0 + 0), .int 0, .ref (s0 + 1), .int 0, .ref (s0 + 2), .ref (s0 + 3), .ref (s0 + 4), .null, .null, .int 0, .int 0, .int 0, .int 0, .int 0, .int 0, .int 0, .int 0, .int 0, .null, .null, .null, .null, .null, .null, .null, .null, .null, .null, .null, .null, .int 0, .null, .int 0, .int 0, .null, .int 0, .int 0, .null, .null, .null]) rfl ?_
  refine sx_aload_n (pc2 := 50) (ct_at (a := 5) (c := 5209) hC ⟨Nat.le_of_ble_eq_true rfl, Nat.le_of_ble_eq_true rfl⟩) 0 d_Mo_init_49 rfl rfl rfl ?_
  refine sx_sipush (v := 403) (pc2 := 53) (ct_at (a := 5) (c := 5209) hC ⟨Nat.le_of_ble_eq_true rfl, Nat.le_of_ble_eq_true rfl⟩) d_Mo_init_50 (by decide) rfl ?_
  refine ct_newa (t0 := 3) (atype := .long) (N := 403) (a2 := 6) (c2 := 5612) (a0 := (403, .inr (.inl (fun _ => 0)))) (pc2 := 55) hC 5 lc_2001 rfl rfl (fun _ => rfl) (by decide) (by decide) (Nat.le_of_ble_eq_true rfl) ⟨rfl, rfl⟩ ⟨Nat.le_of_ble_eq_true rfl, Nat.le_of_ble_eq_true rfl⟩ d_Mo_init_53 rfl rfl (es2 := [.inl (K.2.1 1, 2000, .inl (fun _ => 0)), .inl (K.2.1 1, 2000, .inl (fun _ => 0)), .inl (K.2.1 0, 403, .inl (fun _ => 0)), .inl (K.2.1 0, 403, .inl (fun _ => 0)), .inl (K.2.1 0, 403, .inl (fun _ => 0)), .inl (K.2.1 3, 403, .inr (.inl (fun _ => 0)))]) rfl ?_
  refine ct_put (pc2 := 58) hC kx_y11 kx_i11 kx_o11 kx_n11 rfl 8 (by decide) lk_752 rfl (Or.inr ⟨hin, rfl⟩) (kx_o11 8 (by decide)) rfl rfl (Nat.le_of_ble_eq_true rfl) d_Mo_init_55 rfl (fs2 := [.int 0, .ref (s0 + 0), .int 0, .ref (s0 + 1), .int 0, .ref (s0 + 2), .ref (s0 + 3), .ref (s0 + 4), .ref (s0 + 5), .null, .int 0, .int 0, .int 0, .int 0, .int 0, .int 0, .int 0, .int 0, .int 0, .null, .null, .null, .null, .null, .null, .null, .null, .null, .null, .null, .null, .int 0, .null, .int 0, .int 0, .null, .int 0, .int 0, .null, .null, .null]) rfl ?_
  refine sx_aload_n (pc2 := 59) (ct_at (a := 6) (c := 5612) hC ⟨Nat.le_of_ble_eq_true rfl, Nat.le_of_ble_eq_true rfl⟩) 0 d_Mo_init_58 rfl rfl rfl ?_
  refine sx_bipush (v := 14) (pc2 := 61) (ct_at (a := 6) (c := 5612) hC ⟨Nat.le_of_ble_eq_true rfl, Nat.le_of_ble_eq_true rfl⟩) d_Mo_init_59 (by decide) rfl ?_
  refine ct_newa (t0 := 3) (atype := .long) (N := 14) (a2 := 7) (c2 := 5626) (a0 := (14, .inr (.inl (fun _ => 0)))) (pc2 := 63) hC 6 lc_2001 rfl rfl (fun _ => rfl) (by decide) (by decide) (Nat.le_of_ble_eq_true rfl) ⟨rfl, rfl⟩ ⟨Nat.le_of_ble_eq_true rfl, Nat.le_of_ble_eq_true rfl⟩ d_Mo_init_61 rfl rfl (es2 := [.inl (K.2.1 1, 2000, .inl (fun _ => 0)), .inl (K.2.1 1, 2000, .inl (fun _ => 0)), .inl (K.2.1 0, 403, .inl (fun _ => 0)), .inl (K.2.1 0, 403, .inl (fun _ => 0)), .inl (K.2.1 0, 403, .inl (fun _ => 0)), .inl (K.2.1 3, 403, .inr (.inl (fun _ => 0))), .inl (K.2.1 3, 14, .inr (.inl (fun _ => 0)))]) rfl ?_
  refine ct_put (pc2 := 66) hC kx_y11 kx_i11 kx_o11 kx_n11 rfl 9 (by decide) lk_753 rfl (Or.inr ⟨hin, rfl⟩) (kx_o11 9 (by decide)) rfl rfl (Nat.le_of_ble_eq_true rfl) d_Mo_init_63 rfl (fs2 := [.int 0, .ref (s0 + 0), .int 0, .ref (s0 + 1), .int 0, .ref (s0 + 2), .ref (s0 + 3), .ref (s0 + 4), .ref (s0 + 5), .ref (s0 + 6), .int 0, .int 0, .int 0, .int 0, .int 0, .int 0, .int 0, .int 0, .int 0, .null, .null, .null, .null, .null, .null, .null, .null, .null, .null, .null, .null, .int 0, .null, .int 0, .int 0, .null, .int 0, .int 0, .null, .null, .null]) rfl ?_
  refine sx_aload_n (pc2 := 67) (ct_at (a := 7) (c := 5626) hC ⟨Nat.le_of_ble_eq_true rfl, Nat.le_of_ble_eq_true rfl⟩) 0 d_Mo_init_66 rfl rfl rfl ?_
  refine sx_iconst (v := (-1)) (pc2 := 68) (ct_at (a := 7) (c := 5626) hC ⟨Nat.le_of_ble_eq_true rfl, Nat.le_of_ble_eq_true rfl⟩) d_Mo_init_67 (by decide) rfl ?_
  refine ct_put (pc2 := 71) hC kx_y11 kx_i11 kx_o11 kx_n11 rfl 16 (by decide) lk_754 rfl (Or.inl rfl) (kx_o11 16 (by decide)) rfl rfl (Nat.le_of_ble_eq_true rfl) d_Mo_init_68 rfl (fs2 := [.int 0, .ref (s0 + 0), .int 0, .ref (s0 + 1), .int 0, .ref (s0 + 2), .ref (s0 + 3), .ref (s0 + 4), .ref (s0 + 5), .ref (s0 + 6), .int 0, .int 0, .int 0, .int 0, .int 0, .int 0, .int (-1), .int 0, .int 0, .null, .null, .null, .null, .null, .null, .null, .null, .null, .null, .null, .null, .int 0, .null, .int 0, .int 0, .null, .int 0, .int 0, .null, .null, .null]) rfl ?_
  refine sx_aload_n (pc2 := 72) (ct_at (a := 7) (c := 5626) hC ⟨Nat.le_of_ble_eq_true rfl, Nat.le_of_ble_eq_true rfl⟩) 0 d_Mo_init_71 rfl rfl rfl ?_
  refine sx_iconst (v := 2) (pc2 := 73) (ct_at (a := 7) (c := 5626) hC ⟨Nat.le_of_ble_eq_true rfl, Nat.le_of_ble_eq_true rfl⟩) d_Mo_init_72 (by decide) rfl ?_
  refine ct_newa (t0 := 0) (atype := .int) (N := 2) (a2 := 8) (c2 := 5628) (a0 := (2, .inl (fun _ => 0))) (pc2 := 75) hC 7 lc_5 rfl rfl (fun _ => rfl) (by decide) (by decide) (Nat.le_of_ble_eq_true rfl) ⟨rfl, rfl⟩ ⟨Nat.le_of_ble_eq_true rfl, Nat.le_of_ble_eq_true rfl⟩ d_Mo_init_73 rfl rfl (es2 := [.inl (K.2.1 1, 2000, .inl (fun _ => 0)), .inl (K.2.1 1, 2000, .inl (fun _ => 0)), .inl (K.2.1 0, 403, .inl (fun _ => 0)), .inl (K.2.1 0, 403, .inl (fun _ => 0)), .inl (K.2.1 0, 403, .inl (fun _ => 0)), .inl (K.2.1 3, 403, .inr (.inl (fun _ => 0))), .inl (K.2.1 3, 14, .inr (.inl (fun _ => 0))), .inl (K.2.1 0, 2, .inl (fun _ => 0))]) rfl ?_
  refine ct_put (pc2 := 78) hC kx_y11 kx_i11 kx_o11 kx_n11 rfl 19 (by decide) lk_755 rfl (Or.inr ⟨hin, rfl⟩) (kx_o11 19 (by decide)) rfl rfl (Nat.le_of_ble_eq_true rfl) d_Mo_init_75 rfl (fs2 := [.int 0, .ref (s0 + 0), .int 0, .ref (s0 + 1), .int 0, .ref (s0 + 2), .ref (s0 + 3), .ref (s0 + 4), .ref (s0 + 5), .ref (s0 + 6), .int 0, .int 0, .int 0, .int 0, .int 0, .int 0, .int (-1), .int 0, .int 0, .ref (s0 + 7), .null, .null, .null, .null, .null, .null, .null, .null, .null, .null, .null, .int 0, .null, .int 0, .int 0, .null, .int 0, .int 0, .null, .null, .null]) rfl ?_
  refine sx_aload_n (pc2 := 79) (ct_at (a := 8) (c := 5628) hC ⟨Nat.le_of_ble_eq_true rfl, Nat.le_of_ble_eq_true rfl⟩) 0 d_Mo_init_78 rfl rfl rfl ?_
  refine sx_iconst (v := 2) (pc2 := 80) (ct_at (a := 8) (c := 5628) hC ⟨Nat.le_of_ble_eq_true rfl, Nat.le_of_ble_eq_true rfl⟩) d_Mo_init_79 (by decide) rfl ?_
  refine ct_newa (t0 := 0) (atype := .int) (N := 2) (a2 := 9) (c2 := 5630) (a0 := (2, .inl (fun _ => 0))) (pc2 := 82) hC 8 lc_5 rfl rfl (fun _ => rfl) (by decide) (by decide) (Nat.le_of_ble_eq_true rfl) ⟨rfl, rfl⟩ ⟨Nat.le_of_ble_eq_true rfl, Nat.le_of_ble_eq_true rfl⟩ d_Mo_init_80 rfl rfl (es2 := [.inl (K.2.1 1, 2000, .inl (fun _ => 0)), .inl (K.2.1 1, 2000, .inl (fun _ => 0)), .inl (K.2.1 0, 403, .inl (fun _ => 0)), .inl (K.2.1 0, 403, .inl (fun _ => 0)), .inl (K.2.1 0, 403, .inl (fun _ => 0)), .inl (K.2.1 3, 403, .inr (.inl (fun _ => 0))), .inl (K.2.1 3, 14, .inr (.inl (fun _ => 0))), .inl (K.2.1 0, 2, .inl (fun _ => 0)), .inl (K.2.1 0, 2, .inl (fun _ => 0))]) rfl ?_
  refine ct_put (pc2 := 85) hC kx_y11 kx_i11 kx_o11 kx_n11 rfl 20 (by decide) lk_756 rfl (Or.inr ⟨hin, rfl⟩) (kx_o11 20 (by decide)) rfl rfl (Nat.le_of_ble_eq_true rfl) d_Mo_init_82 rfl (fs2 := [.int 0, .ref (s0 + 0), .int 0, .ref (s0 + 1), .int 0, .ref (s0 + 2), .ref (s0 + 3), .ref (s0 + 4), .ref (s0 + 5), .ref (s0 + 6), .int 0, .int 0, .int 0, .int 0, .int 0, .int 0, .int (-1), .int 0, .int 0, .ref (s0 + 7), .ref (s0 + 8), .null, .null, .null, .null, .null, .null, .null, .null, .null, .null, .int 0, .null, .int 0, .int 0, .null, .int 0, .int 0, .null, .null, .null]) rfl ?_
  refine sx_aload_n (pc2 := 86) (ct_at (a := 9) (c := 5630) hC ⟨Nat.le_of_ble_eq_true rfl, Nat.le_of_ble_eq_true rfl⟩) 0 d_Mo_init_85 rfl rfl rfl ?_
  refine sx_bipush (v := 14) (pc2 := 88) (ct_at (a := 9) (c := 5630) hC ⟨Nat.le_of_ble_eq_true rfl, Nat.le_of_ble_eq_true rfl⟩) d_Mo_init_86 (by decide) rfl ?_
  refine ct_newa (t0 := 3) (atype := .long) (N := 14) (a2 := 10) (c2 := 5644) (a0 := (14, .inr (.inl (fun _ => 0)))) (pc2 := 90) hC 9 lc_2001 rfl rfl (fun _ => rfl) (by decide) (by decide) (Nat.le_of_ble_eq_true rfl) ⟨rfl, rfl⟩ ⟨Nat.le_of_ble_eq_true rfl, Nat.le_of_ble_eq_true rfl⟩ d_Mo_init_88 rfl rfl (es2 := [.inl (K.2.1 1, 2000, .inl (fun _ => 0)), .inl (K.2.1 1, 2000, .inl (fun _ => 0)), .inl (K.2.1 0, 403, .inl (fun _ => 0)), .inl (K.2.1 0, 403, .inl (fun _ => 0)), .inl (K.2.1 0, 403, .inl (fun _ => 0)), .inl (K.2.1 3, 403, .inr (.inl (fun _ => 0))), .inl (K.2.1 3, 14, .inr (.inl (fun _ => 0))), .inl (K.2.1 0, 2, .inl (fun _ => 0)), .inl (K.2.1 0, 2, .inl (fun _ => 0)), .inl (K.2.1 3, 14, .inr (.inl (fun _ => 0)))]) rfl ?_
  refine ct_put (pc2 := 93) hC kx_y11 kx_i11 kx_o11 kx_n11 rfl 21 (by decide) lk_757 rfl (Or.inr ⟨hin, rfl⟩) (kx_o11 21 (by decide)) rfl rfl (Nat.le_of_ble_eq_true rfl) d_Mo_init_90 rfl (fs2 := [.int 0, .ref (s0 + 0), .int 0, .ref (s0 + 1), .int 0, .ref (s0 + 2), .ref (s0 + 3), .ref (s0 + 4), .ref (s0 + 5), .ref (s0 + 6), .int 0, .int 0, .int 0, .int 0, .int 0, .int 0, .int (-1), .int 0, .int 0, .ref (s0 + 7), .ref (s0 + 8), .ref (s0 + 9), .null, .null, .null, .null, .null, .null, .null, .null, .null, .int 0, .null, .int 0, .int 0, .null, .int 0, .int 0, .null, .null, .null]) rfl ?_
  refine sx_aload_n (pc2 := 94) (ct_at (a := 10) (c := 5644) hC ⟨Nat.le_of_ble_eq_true rfl, Nat.le_of_ble_eq_true rfl⟩) 0 d_Mo_init_93 rfl rfl rfl ?_
  refine sx_bipush (v := 32) (pc2 := 96) (ct_at (a := 10) (c := 5644) hC ⟨Nat.le_of_ble_eq_true rfl, Nat.le_of_ble_eq_true rfl⟩) d_Mo_init_94 (by decide) rfl ?_
  refine ct_newa (t0 := 0) (atype := .int) (N := 32) (a2 := 11) (c2 := 5676) (a0 := (32, .inl (fun _ => 0))) (pc2 := 98) hC 10 lc_5 rfl rfl (fun _ => rfl) (by decide) (by decide) (Nat.le_of_ble_eq_true rfl) ⟨rfl, rfl⟩ ⟨Nat.le_of_ble_eq_true rfl, Nat.le_of_ble_eq_true rfl⟩ d_Mo_init_96 rfl rfl (es2 := [.inl (K.2.1 1, 2000, .inl (fun _ => 0)), .inl (K.2.1 1, 2000, .inl (fun _ => 0)), .inl (K.2.1 0, 403, .inl (fun _ => 0)), .inl (K.2.1 0, 403, .inl (fun _ => 0)), .inl (K.2.1 0, 403, .inl (fun _ => 0)), .inl (K.2.1 3, 403, .inr (.inl (fun _ => 0))), .inl (K.2.1 3, 14, .inr (.inl (fun _ => 0))), .inl (K.2.1 0, 2, .inl (fun _ => 0)), .inl (K.2.1 0, 2, .inl (fun _ => 0)), .inl (K.2.1 3, 14, .inr (.inl (fun _ => 0))), .inl (K.2.1 0, 32, .inl (fun _ => 0))]) rfl ?_
  refine ct_put (pc2 := 101) hC kx_y11 kx_i11 kx_o11 kx_n11 rfl 22 (by decide) lk_758 rfl (Or.inr ⟨hin, rfl⟩) (kx_o11 22 (by decide)) rfl rfl (Nat.le_of_ble_eq_true rfl) d_Mo_init_98 rfl (fs2 := [.int 0, .ref (s0 + 0), .int 0, .ref (s0 + 1), .int 0, .ref (s0 + 2), .ref (s0 + 3), .ref (s0 + 4), .ref (s0 + 5), .ref (s0 + 6), .int 0, .int 0, .int 0, .int 0, .int 0, .int 0, .int (-1), .int 0, .int 0, .ref (s0 + 7), .ref (s0 + 8), .ref (s0 + 9), .ref (s0 + 10), .null, .null, .null, .null, .null, .null, .null, .null, .int 0, .null, .int 0, .int 0, .null, .int 0, .int 0, .null, .null, .null]) rfl ?_
  refine sx_aload_n (pc2 := 102) (ct_at (a := 11) (c := 5676) hC ⟨Nat.le_of_ble_eq_true rfl, Nat.le_of_ble_eq_true rfl⟩) 0 d_Mo_init_101 rfl rfl rfl ?_
  refine sx_bipush (v := 32) (pc2 := 104) (ct_at (a := 11) (c := 5676) hC ⟨Nat.le_of_ble_eq_true rfl, Nat.le_of_ble_eq_true rfl⟩) d_Mo_init_102 (by decide) rfl ?_
  refine ct_newa (t0 := 0) (atype := .int) (N := 32) (a2 := 12) (c2 := 5708) (a0 := (32, .inl (fun _ => 0))) (pc2 := 106) hC 11 lc_5 rfl rfl (fun _ => rfl) (by decide) (by decide) (Nat.le_of_ble_eq_true rfl) ⟨rfl, rfl⟩ ⟨Nat.le_of_ble_eq_true rfl, Nat.le_of_ble_eq_true rfl⟩ d_Mo_init_104 rfl rfl (es2 := [.inl (K.2.1 1, 2000, .inl (fun _ => 0)), .inl (K.2.1 1, 2000, .inl (fun _ => 0)), .inl (K.2.1 0, 403, .inl (fun _ => 0)), .inl (K.2.1 0, 403, .inl (fun _ => 0)), .inl (K.2.1 0, 403, .inl (fun _ => 0)), .inl (K.2.1 3, 403, .inr (.inl (fun _ => 0))), .inl (K.2.1 3, 14, .inr (.inl (fun _ => 0))), .inl (K.2.1 0, 2, .inl (fun _ => 0)), .inl (K.2.1 0, 2, .inl (fun _ => 0)), .inl (K.2.1 3, 14, .inr (.inl (fun _ => 0))), .inl (K.2.1 0, 32, .inl (fun _ => 0)), .inl (K.2.1 0, 32, .inl (fun _ => 0))]) rfl ?_
  refine ct_put (pc2 := 109) hC kx_y11 kx_i11 kx_o11 kx_n11 rfl 23 (by decide) lk_759 rfl (Or.inr ⟨hin, rfl⟩) (kx_o11 23 (by decide)) rfl rfl (Nat.le_of_ble_eq_true rfl) d_Mo_init_106 rfl (fs2 := [.int 0, .ref (s0 + 0), .int 0, .ref (s0 + 1), .int 0, .ref (s0 + 2), .ref (s0 + 3), .ref (s0 + 4), .ref (s0 + 5), .ref (s0 + 6), .int 0, .int 0, .int 0, .int 0, .int 0, .int 0, .int (-1), .int 0, .int 0, .ref (s0 + 7), .ref (s0 + 8), .ref (s0 + 9), .ref (s0 + 10), .ref (s0 + 11), .null, .null, .null, .null, .null, .null, .null, .int 0, .null, .int 0, .int 0, .null, .int 0, .int 0, .null, .null, .null]) rfl ?_
  refine sx_aload_n (pc2 := 110) (ct_at (a := 12) (c := 5708) hC ⟨Nat.le_of_ble_eq_true rfl, Nat.le_of_ble_eq_true rfl⟩) 0 d_Mo_init_109 rfl rfl rfl ?_
  refine sx_bipush (v := 32) (pc2 := 112) (ct_at (a := 12) (c := 5708) hC ⟨Nat.le_of_ble_eq_true rfl, Nat.le_of_ble_eq_true rfl⟩) d_Mo_init_110 (by decide) rfl ?_
  refine ct_newa (t0 := 0) (atype := .int) (N := 32) (a2 := 13) (c2 := 5740) (a0 := (32, .inl (fun _ => 0))) (pc2 := 114) hC 12 lc_5 rfl rfl (fun _ => rfl) (by decide) (by decide) (Nat.le_of_ble_eq_true rfl) ⟨rfl, rfl⟩ ⟨Nat.le_of_ble_eq_true rfl, Nat.le_of_ble_eq_true rfl⟩ d_Mo_init_112 rfl rfl (es2 := [.inl (K.2.1 1, 2000, .inl (fun _ => 0)), .inl (K.2.1 1, 2000, .inl (fun _ => 0)), .inl (K.2.1 0, 403, .inl (fun _ => 0)), .inl (K.2.1 0, 403, .inl (fun _ => 0)), .inl (K.2.1 0, 403, .inl (fun _ => 0)), .inl (K.2.1 3, 403, .inr (.inl (fun _ => 0))), .inl (K.2.1 3, 14, .inr (.inl (fun _ => 0))), .inl (K.2.1 0, 2, .inl (fun _ => 0)), .inl (K.2.1 0, 2, .inl (fun _ => 0)), .inl (K.2.1 3, 14, .inr (.inl (fun _ => 0))), .inl (K.2.1 0, 32, .inl (fun _ => 0)), .inl (K.2.1 0, 32, .inl (fun _ => 0)), .inl (K.2.1 0, 32, .inl (fun _ => 0))]) rfl ?_
  refine ct_put (pc2 := 117) hC kx_y11 kx_i11 kx_o11 kx_n11 rfl 24 (by decide) lk_760 rfl (Or.inr ⟨hin, rfl⟩) (kx_o11 24 (by decide)) rfl rfl (Nat.le_of_ble_eq_true rfl) d_Mo_init_114 rfl (fs2 := [.int 0, .ref (s0 + 0), .int 0, .ref (s0 + 1), .int 0, .ref (s0 + 2), .ref (s0 + 3), .ref (s0 + 4), .ref (s0 + 5), .ref (s0 + 6), .int 0, .int 0, .int 0, .int 0, .int 0, .int 0, .int (-1), .int 0, .int 0, .ref (s0 + 7), .ref (s0 + 8), .ref (s0 + 9), .ref (s0 + 10), .ref (s0 + 11), .ref (s0 + 12), .null, .null, .null, .null, .null, .null, .int 0, .null, .int 0, .int 0, .null, .int 0, .int 0, .null, .null, .null]) rfl ?_
  refine sx_aload_n (pc2 := 118) (ct_at (a := 13) (c := 5740) hC ⟨Nat.le_of_ble_eq_true rfl, Nat.le_of_ble_eq_true rfl⟩) 0 d_Mo_init_117 rfl rfl rfl ?_
  refine sx_bipush (v := 98) (pc2 := 120) (ct_at (a := 13) (c := 5740) hC ⟨Nat.le_of_ble_eq_true rfl, Nat.le_of_ble_eq_true rfl⟩) d_Mo_init_118 (by decide) rfl ?_
  refine ct_newa (t0 := 0) (atype := .int) (N := 98) (a2 := 14) (c2 := 5838) (a0 := (98, .inl (fun _ => 0))) (pc2 := 122) hC 13 lc_5 rfl rfl (fun _ => rfl) (by decide) (by decide) (Nat.le_of_ble_eq_true rfl) ⟨rfl, rfl⟩ ⟨Nat.le_of_ble_eq_true rfl, Nat.le_of_ble_eq_true rfl⟩ d_Mo_init_120 rfl rfl (es2 := [.inl (K.2.1 1, 2000, .inl (fun _ => 0)), .inl (K.2.1 1, 2000, .inl (fun _ => 0)), .inl (K.2.1 0, 403, .inl (fun _ => 0)), .inl (K.2.1 0, 403, .inl (fun _ => 0)), .inl (K.2.1 0, 403, .inl (fun _ => 0)), .inl (K.2.1 3, 403, .inr (.inl (fun _ => 0))), .inl (K.2.1 3, 14, .inr (.inl (fun _ => 0))), .inl (K.2.1 0, 2, .inl (fun _ => 0)), .inl (K.2.1 0, 2, .inl (fun _ => 0)), .inl (K.2.1 3, 14, .inr (.inl (fun _ => 0))), .inl (K.2.1 0, 32, .inl (fun _ => 0)), .inl (K.2.1 0, 32, .inl (fun _ => 0)), .inl (K.2.1 0, 32, .inl (fun _ => 0)), .inl (K.2.1 0, 98, .inl (fun _ => 0))]) rfl ?_
  refine ct_put (pc2 := 125) hC kx_y11 kx_i11 kx_o11 kx_n11 rfl 25 (by decide) lk_761 rfl (Or.inr ⟨hin, rfl⟩) (kx_o11 25 (by decide)) rfl rfl (Nat.le_of_ble_eq_true rfl) d_Mo_init_122 rfl (fs2 := [.int 0, .ref (s0 + 0), .int 0, .ref (s0 + 1), .int 0, .ref (s0 + 2), .ref (s0 + 3), .ref (s0 + 4), .ref (s0 + 5), .ref (s0 + 6), .int 0, .int 0, .int 0, .int 0, .int 0, .int 0, .int (-1), .int 0, .int 0, .ref (s0 + 7), .ref (s0 + 8), .ref (s0 + 9), .ref (s0 + 10), .ref (s0 + 11), .ref (s0 + 12), .ref (s0 + 13), .null, .null, .null, .null, .null, .int 0, .null, .int 0, .int 0, .null, .int 0, .int 0, .null, .null, .null]) rfl ?_
  refine sx_aload_n (pc2 := 126) (ct_at (a := 14) (c := 5838) hC ⟨Nat.le_of_ble_eq_true rfl, Nat.le_of_ble_eq_true rfl⟩) 0 d_Mo_init_125 rfl rfl rfl ?_
  refine sx_iconst (v := 2) (pc2 := 127) (ct_at (a := 14) (c := 5838) hC ⟨Nat.le_of_ble_eq_true rfl, Nat.le_of_ble_eq_true rfl⟩) d_Mo_init_126 (by decide) rfl ?_
  refine ct_newa (t0 := 2) (atype := .boolean) (N := 2) (a2 := 15) (c2 := 5840) (a0 := (2, .inl (fun _ => 0))) (pc2 := 129) hC 14 lc_65 rfl rfl (fun _ => rfl) (by decide) (by decide) (Nat.le_of_ble_eq_true rfl) ⟨rfl, rfl⟩ ⟨Nat.le_of_ble_eq_true rfl, Nat.le_of_ble_eq_true rfl⟩ d_Mo_init_127 rfl rfl (es2 := [.inl (K.2.1 1, 2000, .inl (fun _ => 0)), .inl (K.2.1 1, 2000, .inl (fun _ => 0)), .inl (K.2.1 0, 403, .inl (fun _ => 0)), .inl (K.2.1 0, 403, .inl (fun _ => 0)), .inl (K.2.1 0, 403, .inl (fun _ => 0)), .inl (K.2.1 3, 403, .inr (.inl (fun _ => 0))), .inl (K.2.1 3, 14, .inr (.inl (fun _ => 0))), .inl (K.2.1 0, 2, .inl (fun _ => 0)), .inl (K.2.1 0, 2, .inl (fun _ => 0)), .inl (K.2.1 3, 14, .inr (.inl (fun _ => 0))), .inl (K.2.1 0, 32, .inl (fun _ => 0)), .inl (K.2.1 0, 32, .inl (fun _ => 0)), .inl (K.2.1 0, 32, .inl (fun _ => 0)), .inl (K.2.1 0, 98, .inl (fun _ => 0)), .inl (K.2.1 2, 2, .inl (fun _ => 0))]) rfl ?_
  refine ct_put (pc2 := 132) hC kx_y11 kx_i11 kx_o11 kx_n11 rfl 26 (by decide) lk_762 rfl (Or.inr ⟨hin, rfl⟩) (kx_o11 26 (by decide)) rfl rfl (Nat.le_of_ble_eq_true rfl) d_Mo_init_129 rfl (fs2 := [.int 0, .ref (s0 + 0), .int 0, .ref (s0 + 1), .int 0, .ref (s0 + 2), .ref (s0 + 3), .ref (s0 + 4), .ref (s0 + 5), .ref (s0 + 6), .int 0, .int 0, .int 0, .int 0, .int 0, .int 0, .int (-1), .int 0, .int 0, .ref (s0 + 7), .ref (s0 + 8), .ref (s0 + 9), .ref (s0 + 10), .ref (s0 + 11), .ref (s0 + 12), .ref (s0 + 13), .ref (s0 + 14), .null, .null, .null, .null, .int 0, .null, .int 0, .int 0, .null, .int 0, .int 0, .null, .null, .null]) rfl ?_
  refine sx_aload_n (pc2 := 133) (ct_at (a := 15) (c := 5840) hC ⟨Nat.le_of_ble_eq_true rfl, Nat.le_of_ble_eq_true rfl⟩) 0 d_Mo_init_132 rfl rfl rfl ?_
  refine sx_bipush (v := 18) (pc2 := 135) (ct_at (a := 15) (c := 5840) hC ⟨Nat.le_of_ble_eq_true rfl, Nat.le_of_ble_eq_true rfl⟩) d_Mo_init_133 (by decide) rfl ?_
  refine ct_newa (t0 := 0) (atype := .int) (N := 18) (a2 := 16) (c2 := 5858) (a0 := (18, .inl (fun _ => 0))) (pc2 := 137) hC 15 lc_5 rfl rfl (fun _ => rfl) (by decide) (by decide) (Nat.le_of_ble_eq_true rfl) ⟨rfl, rfl⟩ ⟨Nat.le_of_ble_eq_true rfl, Nat.le_of_ble_eq_true rfl⟩ d_Mo_init_135 rfl rfl (es2 := [.inl (K.2.1 1, 2000, .inl (fun _ => 0)), .inl (K.2.1 1, 2000, .inl (fun _ => 0)), .inl (K.2.1 0, 403, .inl (fun _ => 0)), .inl (K.2.1 0, 403, .inl (fun _ => 0)), .inl (K.2.1 0, 403, .inl (fun _ => 0)), .inl (K.2.1 3, 403, .inr (.inl (fun _ => 0))), .inl (K.2.1 3, 14, .inr (.inl (fun _ => 0))), .inl (K.2.1 0, 2, .inl (fun _ => 0)), .inl (K.2.1 0, 2, .inl (fun _ => 0)), .inl (K.2.1 3, 14, .inr (.inl (fun _ => 0))), .inl (K.2.1 0, 32, .inl (fun _ => 0)), .inl (K.2.1 0, 32, .inl (fun _ => 0)), .inl (K.2.1 0, 32, .inl (fun _ => 0)), .inl (K.2.1 0, 98, .inl (fun _ => 0)), .inl (K.2.1 2, 2, .inl (fun _ => 0)), .inl (K.2.1 0, 18, .inl (fun _ => 0))]) rfl ?_
  refine ct_put (pc2 := 140) hC kx_y11 kx_i11 kx_o11 kx_n11 rfl 27 (by decide) lk_763 rfl (Or.inr ⟨hin, rfl⟩) (kx_o11 27 (by decide)) rfl rfl (Nat.le_of_ble_eq_true rfl) d_Mo_init_137 rfl (fs2 := [.int 0, .ref (s0 + 0), .int 0, .ref (s0 + 1), .int 0, .ref (s0 + 2), .ref (s0 + 3), .ref (s0 + 4), .ref (s0 + 5), .ref (s0 + 6), .int 0, .int 0, .int 0, .int 0, .int 0, .int 0, .int (-1), .int 0, .int 0, .ref (s0 + 7), .ref (s0 + 8), .ref (s0 + 9), .ref (s0 + 10), .ref (s0 + 11), .ref (s0 + 12), .ref (s0 + 13), .ref (s0 + 14), .ref (s0 + 15), .null, .null, .null, .int 0, .null, .int 0, .int 0, .null, .int 0, .int 0, .null, .null, .null]) rfl ?_
  refine sx_aload_n (pc2 := 141) (ct_at (a := 16) (c := 5858) hC ⟨Nat.le_of_ble_eq_true rfl, Nat.le_of_ble_eq_true rfl⟩) 0 d_Mo_init_140 rfl rfl rfl ?_
  refine sx_sipush (v := 643) (pc2 := 144) (ct_at (a := 16) (c := 5858) hC ⟨Nat.le_of_ble_eq_true rfl, Nat.le_of_ble_eq_true rfl⟩) d_Mo_init_141 (by decide) rfl ?_
  refine ct_newa (t0 := 0) (atype := .int) (N := 643) (a2 := 17) (c2 := 6501) (a0 := (643, .inl (fun _ => 0))) (pc2 := 146) hC 16 lc_5 rfl rfl (fun _ => rfl) (by decide) (by decide) (Nat.le_of_ble_eq_true rfl) ⟨rfl, rfl⟩ ⟨Nat.le_of_ble_eq_true rfl, Nat.le_of_ble_eq_true rfl⟩ d_Mo_init_144 rfl rfl (es2 := [.inl (K.2.1 1, 2000, .inl (fun _ => 0)), .inl (K.2.1 1, 2000, .inl (fun _ => 0)), .inl (K.2.1 0, 403, .inl (fun _ => 0)), .inl (K.2.1 0, 403, .inl (fun _ => 0)), .inl (K.2.1 0, 403, .inl (fun _ => 0)), .inl (K.2.1 3, 403, .inr (.inl (fun _ => 0))), .inl (K.2.1 3, 14, .inr (.inl (fun _ => 0))), .inl (K.2.1 0, 2, .inl (fun _ => 0)), .inl (K.2.1 0, 2, .inl (fun _ => 0)), .inl (K.2.1 3, 14, .inr (.inl (fun _ => 0))), .inl (K.2.1 0, 32, .inl (fun _ => 0)), .inl (K.2.1 0, 32, .inl (fun _ => 0)), .inl (K.2.1 0, 32, .inl (fun _ => 0)), .inl (K.2.1 0, 98, .inl (fun _ => 0)), .inl (K.2.1 2, 2, .inl (fun _ => 0)), .inl (K.2.1 0, 18, .inl (fun _ => 0)), .inl (K.2.1 0, 643, .inl (fun _ => 0))]) rfl ?_
  refine ct_put (pc2 := 149) hC kx_y11 kx_i11 kx_o11 kx_n11 rfl 28 (by decide) lk_764 rfl (Or.inr ⟨hin, rfl⟩) (kx_o11 28 (by decide)) rfl rfl (Nat.le_of_ble_eq_true rfl) d_Mo_init_146 rfl (fs2 := [.int 0, .ref (s0 + 0), .int 0, .ref (s0 + 1), .int 0, .ref (s0 + 2), .ref (s0 + 3), .ref (s0 + 4), .ref (s0 + 5), .ref (s0 + 6), .int 0, .int 0, .int 0, .int 0, .int 0, .int 0, .int (-1), .int 0, .int 0, .ref (s0 + 7), .ref (s0 + 8), .ref (s0 + 9), .ref (s0 + 10), .ref (s0 + 11), .ref (s0 + 12), .ref (s0 + 13), .ref (s0 + 14), .ref (s0 + 15), .ref (s0 + 16), .null, .null, .int 0, .null, .int 0, .int 0, .null, .int 0, .int 0, .null, .null, .null]) rfl ?_
  refine sx_aload_n (pc2 := 150) (ct_at (a := 17) (c := 6501) hC ⟨Nat.le_of_ble_eq_true rfl, Nat.le_of_ble_eq_true rfl⟩) 0 d_Mo_init_149 rfl rfl rfl ?_
  refine sx_sipush (v := 643) (pc2 := 153) (ct_at (a := 17) (c := 6501) hC ⟨Nat.le_of_ble_eq_true rfl, Nat.le_of_ble_eq_true rfl⟩) d_Mo_init_150 (by decide) rfl ?_
  refine ct_newa (t0 := 0) (atype := .int) (N := 643) (a2 := 18) (c2 := 7144) (a0 := (643, .inl (fun _ => 0))) (pc2 := 155) hC 17 lc_5 rfl rfl (fun _ => rfl) (by decide) (by decide) (Nat.le_of_ble_eq_true rfl) ⟨rfl, rfl⟩ ⟨Nat.le_of_ble_eq_true rfl, Nat.le_of_ble_eq_true rfl⟩ d_Mo_init_153 rfl rfl (es2 := [.inl (K.2.1 1, 2000, .inl (fun _ => 0)), .inl (K.2.1 1, 2000, .inl (fun _ => 0)), .inl (K.2.1 0, 403, .inl (fun _ => 0)), .inl (K.2.1 0, 403, .inl (fun _ => 0)), .inl (K.2.1 0, 403, .inl (fun _ => 0)), .inl (K.2.1 3, 403, .inr (.inl (fun _ => 0))), .inl (K.2.1 3, 14, .inr (.inl (fun _ => 0))), .inl (K.2.1 0, 2, .inl (fun _ => 0)), .inl (K.2.1 0, 2, .inl (fun _ => 0)), .inl (K.2.1 3, 14, .inr (.inl (fun _ => 0))), .inl (K.2.1 0, 32, .inl (fun _ => 0)), .inl (K.2.1 0, 32, .inl (fun _ => 0)), .inl (K.2.1 0, 32, .inl (fun _ => 0)), .inl (K.2.1 0, 98, .inl (fun _ => 0)), .inl (K.2.1 2, 2, .inl (fun _ => 0)), .inl (K.2.1 0, 18, .inl (fun _ => 0)), .inl (K.2.1 0, 643, .inl (fun _ => 0)), .inl (K.2.1 0, 643, .inl (fun _ => 0))]) rfl ?_
  refine ct_put (pc2 := 158) hC kx_y11 kx_i11 kx_o11 kx_n11 rfl 29 (by decide) lk_765 rfl (Or.inr ⟨hin, rfl⟩) (kx_o11 29 (by decide)) rfl rfl (Nat.le_of_ble_eq_true rfl) d_Mo_init_155 rfl (fs2 := [.int 0, .ref (s0 + 0), .int 0, .ref (s0 + 1), .int 0, .ref (s0 + 2), .ref (s0 + 3), .ref (s0 + 4), .ref (s0 + 5), .ref (s0 + 6), .int 0, .int 0, .int 0, .int 0, .int 0, .int 0, .int (-1), .int 0, .int 0, .ref (s0 + 7), .ref (s0 + 8), .ref (s0 + 9), .ref (s0 + 10), .ref (s0 + 11), .ref (s0 + 12), .ref (s0 + 13), .ref (s0 + 14), .ref (s0 + 15), .ref (s0 + 16), .ref (s0 + 17), .null, .int 0, .null, .int 0, .int 0, .null, .int 0, .int 0, .null, .null, .null]) rfl ?_
  refine sx_aload_n (pc2 := 159) (ct_at (a := 18) (c := 7144) hC ⟨Nat.le_of_ble_eq_true rfl, Nat.le_of_ble_eq_true rfl⟩) 0 d_Mo_init_158 rfl rfl rfl ?_
  refine sx_sipush (v := 400) (pc2 := 162) (ct_at (a := 18) (c := 7144) hC ⟨Nat.le_of_ble_eq_true rfl, Nat.le_of_ble_eq_true rfl⟩) d_Mo_init_159 (by decide) rfl ?_
  refine ct_newa (t0 := 0) (atype := .int) (N := 400) (a2 := 19) (c2 := 7544) (a0 := (400, .inl (fun _ => 0))) (pc2 := 164) hC 18 lc_5 rfl rfl (fun _ => rfl) (by decide) (by decide) (Nat.le_of_ble_eq_true rfl) ⟨rfl, rfl⟩ ⟨Nat.le_of_ble_eq_true rfl, Nat.le_of_ble_eq_true rfl⟩ d_Mo_init_162 rfl rfl (es2 := [.inl (K.2.1 1, 2000, .inl (fun _ => 0)), .inl (K.2.1 1, 2000, .inl (fun _ => 0)), .inl (K.2.1 0, 403, .inl (fun _ => 0)), .inl (K.2.1 0, 403, .inl (fun _ => 0)), .inl (K.2.1 0, 403, .inl (fun _ => 0)), .inl (K.2.1 3, 403, .inr (.inl (fun _ => 0))), .inl (K.2.1 3, 14, .inr (.inl (fun _ => 0))), .inl (K.2.1 0, 2, .inl (fun _ => 0)), .inl (K.2.1 0, 2, .inl (fun _ => 0)), .inl (K.2.1 3, 14, .inr (.inl (fun _ => 0))), .inl (K.2.1 0, 32, .inl (fun _ => 0)), .inl (K.2.1 0, 32, .inl (fun _ => 0)), .inl (K.2.1 0, 32, .inl (fun _ => 0)), .inl (K.2.1 0, 98, .inl (fun _ => 0)), .inl (K.2.1 2, 2, .inl (fun _ => 0)), .inl (K.2.1 0, 18, .inl (fun _ => 0)), .inl (K.2.1 0, 643, .inl (fun _ => 0)), .inl (K.2.1 0, 643, .inl (fun _ => 0)), .inl (K.2.1 0, 400, .inl (fun _ => 0))]) rfl ?_
  refine ct_put (pc2 := 167) hC kx_y11 kx_i11 kx_o11 kx_n11 rfl 30 (by decide) lk_766 rfl (Or.inr ⟨hin, rfl⟩) (kx_o11 30 (by decide)) rfl rfl (Nat.le_of_ble_eq_true rfl) d_Mo_init_164 rfl (fs2 := [.int 0, .ref (s0 + 0), .int 0, .ref (s0 + 1), .int 0, .ref (s0 + 2), .ref (s0 + 3), .ref (s0 + 4), .ref (s0 + 5), .ref (s0 + 6), .int 0, .int 0, .int 0, .int 0, .int 0, .int 0, .int (-1), .int 0, .int 0, .ref (s0 + 7), .ref (s0 + 8), .ref (s0 + 9), .ref (s0 + 10), .ref (s0 + 11), .ref (s0 + 12), .ref (s0 + 13), .ref (s0 + 14), .ref (s0 + 15), .ref (s0 + 16), .ref (s0 + 17), .ref (s0 + 18), .int 0, .null, .int 0, .int 0, .null, .int 0, .int 0, .null, .null, .null]) rfl ?_
  refine sx_aload_n (pc2 := 168) (ct_at (a := 19) (c := 7544) hC ⟨Nat.le_of_ble_eq_true rfl, Nat.le_of_ble_eq_true rfl⟩) 0 d_Mo_init_167 rfl rfl rfl ?_
  refine sx_bipush (v := 20) (pc2 := 170) (ct_at (a := 19) (c := 7544) hC ⟨Nat.le_of_ble_eq_true rfl, Nat.le_of_ble_eq_true rfl⟩) d_Mo_init_168 (by decide) rfl ?_
  refine ct_newa (t0 := 0) (atype := .int) (N := 20) (a2 := 20) (c2 := 7564) (a0 := (20, .inl (fun _ => 0))) (pc2 := 172) hC 19 lc_5 rfl rfl (fun _ => rfl) (by decide) (by decide) (Nat.le_of_ble_eq_true rfl) ⟨rfl, rfl⟩ ⟨Nat.le_of_ble_eq_true rfl, Nat.le_of_ble_eq_true rfl⟩ d_Mo_init_170 rfl rfl (es2 := [.inl (K.2.1 1, 2000, .inl (fun _ => 0)), .inl (K.2.1 1, 2000, .inl (fun _ => 0)), .inl (K.2.1 0, 403, .inl (fun _ => 0)), .inl (K.2.1 0, 403, .inl (fun _ => 0)), .inl (K.2.1 0, 403, .inl (fun _ => 0)), .inl (K.2.1 3, 403, .inr (.inl (fun _ => 0))), .inl (K.2.1 3, 14, .inr (.inl (fun _ => 0))), .inl (K.2.1 0, 2, .inl (fun _ => 0)), .inl (K.2.1 0, 2, .inl (fun _ => 0)), .inl (K.2.1 3, 14, .inr (.inl (fun _ => 0))), .inl (K.2.1 0, 32, .inl (fun _ => 0)), .inl (K.2.1 0, 32, .inl (fun _ => 0)), .inl (K.2.1 0, 32, .inl (fun _ => 0)), .inl (K.2.1 0, 98, .inl (fun _ => 0)), .inl (K.2.1 2, 2, .inl (fun _ => 0)), .inl (K.2.1 0, 18, .inl (fun _ => 0)), .inl (K.2.1 0, 643, .inl (fun _ => 0)), .inl (K.2.1 0, 643, .inl (fun _ => 0)), .inl (K.2.1 0, 400, .inl (fun _ => 0)), .inl (K.2.1 0, 20, .inl (fun _ => 0))]) rfl ?_
  refine ct_put (pc2 := 175) hC kx_y11 kx_i11 kx_o11 kx_n11 rfl 32 (by decide) lk_767 rfl (Or.inr ⟨hin, rfl⟩) (kx_o11 32 (by decide)) rfl rfl (Nat.le_of_ble_eq_true rfl) d_Mo_init_172 rfl (fs2 := [.int 0, .ref (s0 + 0), .int 0, .ref (s0 + 1), .int 0, .ref (s0 + 2), .ref (s0 + 3), .ref (s0 + 4), .ref (s0 + 5), .ref (s0 + 6), .int 0, .int 0, .int 0, .int 0, .int 0, .int 0, .int (-1), .int 0, .int 0, .ref (s0 + 7), .ref (s0 + 8), .ref (s0 + 9), .ref (s0 + 10), .ref (s0 + 11), .ref (s0 + 12), .ref (s0 + 13), .ref (s0 + 14), .ref (s0 + 15), .ref (s0 + 16), .ref (s0 + 17), .ref (s0 + 18), .int 0, .ref (s0 + 19), .int 0, .int 0, .null, .int 0, .int 0, .null, .null, .null]) rfl ?_
  refine sx_aload_n (pc2 := 176) (ct_at (a := 20) (c := 7564) hC ⟨Nat.le_of_ble_eq_true rfl, Nat.le_of_ble_eq_true rfl⟩) 0 d_Mo_init_175 rfl rfl rfl ?_
  refine sx_sipush (v := 12860) (pc2 := 179) (ct_at (a := 20) (c := 7564) hC ⟨Nat.le_of_ble_eq_true rfl, Nat.le_of_ble_eq_true rfl⟩) d_Mo_init_176 (by decide) rfl ?_
  refine ct_newa (t0 := 0) (atype := .int) (N := 12860) (a2 := 21) (c2 := 20424) (a0 := (12860, .inl (fun _ => 0))) (pc2 := 181) hC 20 lc_5 rfl rfl (fun _ => rfl) (by decide) (by decide) (Nat.le_of_ble_eq_true rfl) ⟨rfl, rfl⟩ ⟨Nat.le_of_ble_eq_true rfl, Nat.le_of_ble_eq_true rfl⟩ d_Mo_init_179 rfl rfl (es2 := [.inl (K.2.1 1, 2000, .inl (fun _ => 0)), .inl (K.2.1 1, 2000, .inl (fun _ => 0)), .inl (K.2.1 0, 403, .inl (fun _ => 0)), .inl (K.2.1 0, 403, .inl (fun _ => 0)), .inl (K.2.1 0, 403, .inl (fun _ => 0)), .inl (K.2.1 3, 403, .inr (.inl (fun _ => 0))), .inl (K.2.1 3, 14, .inr (.inl (fun _ => 0))), .inl (K.2.1 0, 2, .inl (fun _ => 0)), .inl (K.2.1 0, 2, .inl (fun _ => 0)), .inl (K.2.1 3, 14, .inr (.inl (fun _ => 0))), .inl (K.2.1 0, 32, .inl (fun _ => 0)), .inl (K.2.1 0, 32, .inl (fun _ => 0)), .inl (K.2.1 0, 32, .inl (fun _ => 0)), .inl (K.2.1 0, 98, .inl (fun _ => 0)), .inl (K.2.1 2, 2, .inl (fun _ => 0)), .inl (K.2.1 0, 18, .inl (fun _ => 0)), .inl (K.2.1 0, 643, .inl (fun _ => 0)), .inl (K.2.1 0, 643, .inl (fun _ => 0)), .inl (K.2.1 0, 400, .inl (fun _ => 0)), .inl (K.2.1 0, 20, .inl (fun _ => 0)), .inl (K.2.1 0, 12860, .inl (fun _ => 0))]) rfl ?_
  refine ct_put (pc2 := 184) hC kx_y11 kx_i11 kx_o11 kx_n11 rfl 35 (by decide) lk_768 rfl (Or.inr ⟨hin, rfl⟩) (kx_o11 35 (by decide)) rfl rfl (Nat.le_of_ble_eq_true rfl) d_Mo_init_181 rfl (fs2 := [.int 0, .ref (s0 + 0), .int 0, .ref (s0 + 1), .int 0, .ref (s0 + 2), .ref (s0 + 3), .ref (s0 + 4), .ref (s0 + 5), .ref (s0 + 6), .int 0, .int 0, .int 0, .int 0, .int 0, .int 0, .int (-1), .int 0, .int 0, .ref (s0 + 7), .ref (s0 + 8), .ref (s0 + 9), .ref (s0 + 10), .ref (s0 + 11), .ref (s0 + 12), .ref (s0 + 13), .ref (s0 + 14), .ref (s0 + 15), .ref (s0 + 16), .ref (s0 + 17), .ref (s0 + 18), .int 0, .ref (s0 + 19), .int 0, .int 0, .ref (s0 + 20), .int 0, .int 0, .null, .null, .null]) rfl ?_
  refine sx_aload_n (pc2 := 185) (ct_at (a := 21) (c := 20424) hC ⟨Nat.le_of_ble_eq_true rfl, Nat.le_of_ble_eq_true rfl⟩) 0 d_Mo_init_184 rfl rfl rfl ?_
  refine sx_sipush (v := 1929) (pc2 := 188) (ct_at (a := 21) (c := 20424) hC ⟨Nat.le_of_ble_eq_true rfl, Nat.le_of_ble_eq_true rfl⟩) d_Mo_init_185 (by decide) rfl ?_
  refine ct_newa (t0 := 0) (atype := .int) (N := 1929) (a2 := 22) (c2 := 22353) (a0 := (1929, .inl (fun _ => 0))) (pc2 := 190) hC 21 lc_5 rfl rfl (fun _ => rfl) (by decide) (by decide) (Nat.le_of_ble_eq_true rfl) ⟨rfl, rfl⟩ ⟨Nat.le_of_ble_eq_true rfl, Nat.le_of_ble_eq_true rfl⟩ d_Mo_init_188 rfl rfl (es2 := [.inl (K.2.1 1, 2000, .inl (fun _ => 0)), .inl (K.2.1 1, 2000, .inl (fun _ => 0)), .inl (K.2.1 0, 403, .inl (fun _ => 0)), .inl (K.2.1 0, 403, .inl (fun _ => 0)), .inl (K.2.1 0, 403, .inl (fun _ => 0)), .inl (K.2.1 3, 403, .inr (.inl (fun _ => 0))), .inl (K.2.1 3, 14, .inr (.inl (fun _ => 0))), .inl (K.2.1 0, 2, .inl (fun _ => 0)), .inl (K.2.1 0, 2, .inl (fun _ => 0)), .inl (K.2.1 3, 14, .inr (.inl (fun _ => 0))), .inl (K.2.1 0, 32, .inl (fun _ => 0)), .inl (K.2.1 0, 32, .inl (fun _ => 0)), .inl (K.2.1 0, 32, .inl (fun _ => 0)), .inl (K.2.1 0, 98, .inl (fun _ => 0)), .inl (K.2.1 2, 2, .inl (fun _ => 0)), .inl (K.2.1 0, 18, .inl (fun _ => 0)), .inl (K.2.1 0, 643, .inl (fun _ => 0)), .inl (K.2.1 0, 643, .inl (fun _ => 0)), .inl (K.2.1 0, 400, .inl (fun _ => 0)), .inl (K.2.1 0, 20, .inl (fun _ => 0)), .inl (K.2.1 0, 12860, .inl (fun _ => 0)), .inl (K.2.1 0, 1929, .inl (fun _ => 0))]) rfl ?_
  refine ct_put (pc2 := 193) hC kx_y11 kx_i11 kx_o11 kx_n11 rfl 38 (by decide) lk_769 rfl (Or.inr ⟨hin, rfl⟩) (kx_o11 38 (by decide)) rfl rfl (Nat.le_of_ble_eq_true rfl) d_Mo_init_190 rfl (fs2 := [.int 0, .ref (s0 + 0), .int 0, .ref (s0 + 1), .int 0, .ref (s0 + 2), .ref (s0 + 3), .ref (s0 + 4), .ref (s0 + 5), .ref (s0 + 6), .int 0, .int 0, .int 0, .int 0, .int 0, .int 0, .int (-1), .int 0, .int 0, .ref (s0 + 7), .ref (s0 + 8), .ref (s0 + 9), .ref (s0 + 10), .ref (s0 + 11), .ref (s0 + 12), .ref (s0 + 13), .ref (s0 + 14), .ref (s0 + 15), .ref (s0 + 16), .ref (s0 + 17), .ref (s0 + 18), .int 0, .ref (s0 + 19), .int 0, .int 0, .ref (s0 + 20), .int 0, .int 0, .ref (s0 + 21), .null, .null]) rfl ?_
  refine sx_aload_n (pc2 := 194) (ct_at (a := 22) (c := 22353) hC ⟨Nat.le_of_ble_eq_true rfl, Nat.le_of_ble_eq_true rfl⟩) 0 d_Mo_init_193 rfl rfl rfl ?_
  refine sx_iconst (v := 3) (pc2 := 195) (ct_at (a := 22) (c := 22353) hC ⟨Nat.le_of_ble_eq_true rfl, Nat.le_of_ble_eq_true rfl⟩) d_Mo_init_194 (by decide) rfl ?_
  refine ct_newa (t0 := 2) (atype := .boolean) (N := 3) (a2 := 23) (c2 := 22356) (a0 := (3, .inl (fun _ => 0))) (pc2 := 197) hC 22 lc_65 rfl rfl (fun _ => rfl) (by decide) (by decide) (Nat.le_of_ble_eq_true rfl) ⟨rfl, rfl⟩ ⟨Nat.le_of_ble_eq_true rfl, Nat.le_of_ble_eq_true rfl⟩ d_Mo_init_195 rfl rfl (es2 := [.inl (K.2.1 1, 2000, .inl (fun _ => 0)), .inl (K.2.1 1, 2000, .inl (fun _ => 0)), .inl (K.2.1 0, 403, .inl (fun _ => 0)), .inl (K.2.1 0, 403, .inl (fun _ => 0)), .inl (K.2.1 0, 403, .inl (fun _ => 0)), .inl (K.2.1 3, 403, .inr (.inl (fun _ => 0))), .inl (K.2.1 3, 14, .inr (.inl (fun _ => 0))), .inl (K.2.1 0, 2, .inl (fun _ => 0)), .inl (K.2.1 0, 2, .inl (fun _ => 0)), .inl (K.2.1 3, 14, .inr (.inl (fun _ => 0))), .inl (K.2.1 0, 32, .inl (fun _ => 0)), .inl (K.2.1 0, 32, .inl (fun _ => 0)), .inl (K.2.1 0, 32, .inl (fun _ => 0)), .inl (K.2.1 0, 98, .inl (fun _ => 0)), .inl (K.2.1 2, 2, .inl (fun _ => 0)), .inl (K.2.1 0, 18, .inl (fun _ => 0)), .inl (K.2.1 0, 643, .inl (fun _ => 0)), .inl (K.2.1 0, 643, .inl (fun _ => 0)), .inl (K.2.1 0, 400, .inl (fun _ => 0)), .inl (K.2.1 0, 20, .inl (fun _ => 0)), .inl (K.2.1 0, 12860, .inl (fun _ => 0)), .inl (K.2.1 0, 1929, .inl (fun _ => 0)), .inl (K.2.1 2, 3, .inl (fun _ => 0))]) rfl ?_
  refine ct_put (pc2 := 200) hC kx_y11 kx_i11 kx_o11 kx_n11 rfl 39 (by decide) lk_770 rfl (Or.inr ⟨hin, rfl⟩) (kx_o11 39 (by decide)) rfl rfl (Nat.le_of_ble_eq_true rfl) d_Mo_init_197 rfl (fs2 := [.int 0, .ref (s0 + 0), .int 0, .ref (s0 + 1), .int 0, .ref (s0 + 2), .ref (s0 + 3), .ref (s0 + 4), .ref (s0 + 5), .ref (s0 + 6), .int 0, .int 0, .int 0, .int 0, .int 0, .int 0, .int (-1), .int 0, .int 0, .ref (s0 + 7), .ref (s0 + 8), .ref (s0 + 9), .ref (s0 + 10), .ref (s0 + 11), .ref (s0 + 12), .ref (s0 + 13), .ref (s0 + 14), .ref (s0 + 15), .ref (s0 + 16), .ref (s0 + 17), .ref (s0 + 18), .int 0, .ref (s0 + 19), .int 0, .int 0, .ref (s0 + 20), .int 0, .int 0, .ref (s0 + 21), .ref (s0 + 22), .null]) rfl ?_
  refine sx_aload_n (pc2 := 201) (ct_at (a := 23) (c := 22356) hC ⟨Nat.le_of_ble_eq_true rfl, Nat.le_of_ble_eq_true rfl⟩) 0 d_Mo_init_200 rfl rfl rfl ?_
  refine sx_bipush (v := 7) (pc2 := 203) (ct_at (a := 23) (c := 22356) hC ⟨Nat.le_of_ble_eq_true rfl, Nat.le_of_ble_eq_true rfl⟩) d_Mo_init_201 (by decide) rfl ?_
  refine ct_newa (t0 := 0) (atype := .int) (N := 7) (a2 := 24) (c2 := 22363) (a0 := (7, .inl (fun _ => 0))) (pc2 := 205) hC 23 lc_5 rfl rfl (fun _ => rfl) (by decide) (by decide) (Nat.le_of_ble_eq_true rfl) ⟨rfl, rfl⟩ ⟨Nat.le_of_ble_eq_true rfl, Nat.le_of_ble_eq_true rfl⟩ d_Mo_init_203 rfl rfl (es2 := [.inl (K.2.1 1, 2000, .inl (fun _ => 0)), .inl (K.2.1 1, 2000, .inl (fun _ => 0)), .inl (K.2.1 0, 403, .inl (fun _ => 0)), .inl (K.2.1 0, 403, .inl (fun _ => 0)), .inl (K.2.1 0, 403, .inl (fun _ => 0)), .inl (K.2.1 3, 403, .inr (.inl (fun _ => 0))), .inl (K.2.1 3, 14, .inr (.inl (fun _ => 0))), .inl (K.2.1 0, 2, .inl (fun _ => 0)), .inl (K.2.1 0, 2, .inl (fun _ => 0)), .inl (K.2.1 3, 14, .inr (.inl (fun _ => 0))), .inl (K.2.1 0, 32, .inl (fun _ => 0)), .inl (K.2.1 0, 32, .inl (fun _ => 0)), .inl (K.2.1 0, 32, .inl (fun _ => 0)), .inl (K.2.1 0, 98, .inl (fun _ => 0)), .inl (K.2.1 2, 2, .inl (fun _ => 0)), .inl (K.2.1 0, 18, .inl (fun _ => 0)), .inl (K.2.1 0, 643, .inl (fun _ => 0)), .inl (K.2.1 0, 643, .inl (fun _ => 0)), .inl (K.2.1 0, 400, .inl (fun _ => 0)), .inl (K.2.1 0, 20, .inl (fun _ => 0)), .inl (K.2.1 0, 12860, .inl (fun _ => 0)), .inl (K.2.1 0, 1929, .inl (fun _ => 0)), .inl (K.2.1 2, 3, .inl (fun _ => 0)), .inl (K.2.1 0, 7, .inl (fun _ => 0))]) rfl ?_
  refine ct_put (pc2 := 208) hC kx_y11 kx_i11 kx_o11 kx_n11 rfl 40 (by decide) lk_771 rfl (Or.inr ⟨hin, rfl⟩) (kx_o11 40 (by decide)) rfl rfl (Nat.le_of_ble_eq_true rfl) d_Mo_init_205 rfl (fs2 := [.int 0, .ref (s0 + 0), .int 0, .ref (s0 + 1), .int 0, .ref (s0 + 2), .ref (s0 + 3), .ref (s0 + 4), .ref (s0 + 5), .ref (s0 + 6), .int 0, .int 0, .int 0, .int 0, .int 0, .int 0, .int (-1), .int 0, .int 0, .ref (s0 + 7), .ref (s0 + 8), .ref (s0 + 9), .ref (s0 + 10), .ref (s0 + 11), .ref (s0 + 12), .ref (s0 + 13), .ref (s0 + 14), .ref (s0 + 15), .ref (s0 + 16), .ref (s0 + 17), .ref (s0 + 18), .int 0, .ref (s0 + 19), .int 0, .int 0, .ref (s0 + 20), .int 0, .int 0, .ref (s0 + 21), .ref (s0 + 22), .ref (s0 + 23)]) rfl ?_
  exact kk
def kr_ad (K : sx_K) (h0 s0 : Nat) : Nat → Nat → Nat → Nat := fun k n p => match k with
  | 50 => h0
  | 51 => s0 + 0
  | 52 => s0 + 1
  | 53 => s0 + 2
  | 54 => s0 + 3
  | 55 => s0 + 4
  | 56 => s0 + 5
  | 57 => s0 + 6
  | 58 => s0 + 7
  | 59 => s0 + 8
  | 60 => s0 + 9
  | 61 => s0 + 10
  | 62 => s0 + 11
  | 63 => s0 + 12
  | 64 => s0 + 13
  | 65 => s0 + 14
  | 66 => s0 + 15
  | 67 => s0 + 16
  | 68 => s0 + 17
  | 69 => s0 + 18
  | 70 => s0 + 19
  | 71 => s0 + 20
  | 72 => s0 + 21
  | 73 => s0 + 22
  | 74 => s0 + 23
  | _ => K.2.2.1 k n p
def kr_I : List (Nat × Nat × Nat) := [(50, 0, 0), (51, 0, 0), (52, 0, 0), (53, 0, 0), (54, 0, 0), (55, 0, 0), (56, 0, 0), (57, 0, 0), (58, 0, 0), (59, 0, 0), (60, 0, 0), (61, 0, 0), (62, 0, 0), (63, 0, 0), (64, 0, 0), (65, 0, 0), (66, 0, 0), (67, 0, 0), (68, 0, 0), (69, 0, 0), (70, 0, 0), (71, 0, 0), (72, 0, 0), (73, 0, 0), (74, 0, 0)]
def kr_K (K : sx_K) (h0 s0 : Nat) : sx_K := (K.1, K.2.1, kr_ad K h0 s0, kr_I)
theorem kr_at (K : sx_K) (h0 s0 : Nat) : ∀ (a : Nat) (i : Nat × Nat × Nat), kr_I[a]? = some i → a < 25 ∧ kr_ad K h0 s0 i.1 i.2.1 i.2.2 = if a = 0 then h0 else s0 + (a - 1) := by
  intro a i h
  match a, h with
  | 0, h => cases h; exact ⟨by decide, rfl⟩
  | 1, h => cases h; exact ⟨by decide, rfl⟩
  | 2, h => cases h; exact ⟨by decide, rfl⟩
  | 3, h => cases h; exact ⟨by decide, rfl⟩
  | 4, h => cases h; exact ⟨by decide, rfl⟩
  | 5, h => cases h; exact ⟨by decide, rfl⟩
  | 6, h => cases h; exact ⟨by decide, rfl⟩
  | 7, h => cases h; exact ⟨by decide, rfl⟩
  | 8, h => cases h; exact ⟨by decide, rfl⟩
  | 9, h => cases h; exact ⟨by decide, rfl⟩
  | 10, h => cases h; exact ⟨by decide, rfl⟩
  | 11, h => cases h; exact ⟨by decide, rfl⟩
  | 12, h => cases h; exact ⟨by decide, rfl⟩
  | 13, h => cases h; exact ⟨by decide, rfl⟩
  | 14, h => cases h; exact ⟨by decide, rfl⟩
  | 15, h => cases h; exact ⟨by decide, rfl⟩
  | 16, h => cases h; exact ⟨by decide, rfl⟩
  | 17, h => cases h; exact ⟨by decide, rfl⟩
  | 18, h => cases h; exact ⟨by decide, rfl⟩
  | 19, h => cases h; exact ⟨by decide, rfl⟩
  | 20, h => cases h; exact ⟨by decide, rfl⟩
  | 21, h => cases h; exact ⟨by decide, rfl⟩
  | 22, h => cases h; exact ⟨by decide, rfl⟩
  | 23, h => cases h; exact ⟨by decide, rfl⟩
  | 24, h => cases h; exact ⟨by decide, rfl⟩
  | a + 25, h => exact absurd h (by rw [List.getElem?_eq_none (by show 25 ≤ _; omega)]; exact fun q => by cases q)
theorem kr_ok {K : sx_K} {h0 s0 : Nat} (hlt : h0 < s0) : sx_ok (kr_K K h0 s0) := by
  have dec : ∀ a, a < 25 → ∀ b, b < 25 → kr_I[a]? = kr_I[b]? → a = b := by decide +kernel
  refine ⟨fun a b i ha hb => dec a (kr_at K h0 s0 a i ha).1 b (kr_at K h0 s0 b i hb).1 (ha.trans hb.symm), fun i hi j hj e => ?_⟩
  obtain ⟨a, ha⟩ := List.getElem?_of_mem hi
  obtain ⟨b, hb⟩ := List.getElem?_of_mem hj
  have e2 : kr_ad K h0 s0 i.1 i.2.1 i.2.2 = kr_ad K h0 s0 j.1 j.2.1 j.2.2 := e
  have ea := (kr_at K h0 s0 a i ha).2
  have eb := (kr_at K h0 s0 b j hb).2
  have hab : a = b := by
    rw [ea, eb] at e2
    by_cases h1 : a = 0 <;> by_cases h2 : b = 0
    · omega
    · rw [if_pos h1, if_neg h2] at e2; omega
    · rw [if_neg h1, if_pos h2] at e2; omega
    · rw [if_neg h1, if_neg h2] at e2; omega
  subst hab
  exact Option.some.inj (ha.symm.trans hb)
theorem kr_A {K : sx_K} {h0 s0 : Nat} {q : Nat} (h : sx_A (kr_K K h0 s0) q) : q = h0 ∨ (s0 ≤ q ∧ q < s0 + 24) := by
  obtain ⟨i, hi, rfl⟩ := h
  obtain ⟨a, ha⟩ := List.getElem?_of_mem hi
  obtain ⟨h1, h2⟩ := kr_at K h0 s0 a i ha
  rw [show (kr_K K h0 s0).2.2.1 i.1 i.2.1 i.2.2 = kr_ad K h0 s0 i.1 i.2.1 i.2.2 from rfl, h2]
  by_cases h3 : a = 0
  · rw [if_pos h3]; exact Or.inl rfl
  · rw [if_neg h3]; right; omega
theorem kr_F (K : sx_K) (h0 s0 : Nat) : kx_F (kr_K K h0 s0) := by
  refine ⟨fun k h1 h2 => ?_, fun k n p h => ?_⟩
  · show (k, 0, 0) ∈ kr_I
    have dec : ∀ k, k < 75 → 50 ≤ k → (k, 0, 0) ∈ kr_I := by decide +kernel
    exact dec k h2 h1
  · have dec : ∀ i ∈ kr_I, i.2.1 = 0 ∧ i.2.2 = 0 := by decide +kernel
    exact dec _ h
def md_σ : sx_M := fun k _ _ j => if k = 50 ∧ j = 16 then -1 else 0
set_option maxRecDepth 100000 in
theorem md_all {K : sx_K} {h0 s0 : Nat} {H : Heap} (hW : ct_W K h0 s0 (.inr (11, md_fs s0)) (md_es K) H) : sx_H (kr_K K h0 s0) md_σ (fun _ _ => 0) H := by
  intro a q hq
  match a, hq with
  | 0, hq => cases hq; exact hW.2.2
  | 1, hq => cases hq; exact hW.1.2 0 _ rfl
  | 2, hq => cases hq; exact hW.1.2 1 _ rfl
  | 3, hq => cases hq; exact hW.1.2 2 _ rfl
  | 4, hq => cases hq; exact hW.1.2 3 _ rfl
  | 5, hq => cases hq; exact hW.1.2 4 _ rfl
  | 6, hq => cases hq; exact hW.1.2 5 _ rfl
  | 7, hq => cases hq; exact hW.1.2 6 _ rfl
  | 8, hq => cases hq; exact hW.1.2 7 _ rfl
  | 9, hq => cases hq; exact hW.1.2 8 _ rfl
  | 10, hq => cases hq; exact hW.1.2 9 _ rfl
  | 11, hq => cases hq; exact hW.1.2 10 _ rfl
  | 12, hq => cases hq; exact hW.1.2 11 _ rfl
  | 13, hq => cases hq; exact hW.1.2 12 _ rfl
  | 14, hq => cases hq; exact hW.1.2 13 _ rfl
  | 15, hq => cases hq; exact hW.1.2 14 _ rfl
  | 16, hq => cases hq; exact hW.1.2 15 _ rfl
  | 17, hq => cases hq; exact hW.1.2 16 _ rfl
  | 18, hq => cases hq; exact hW.1.2 17 _ rfl
  | 19, hq => cases hq; exact hW.1.2 18 _ rfl
  | 20, hq => cases hq; exact hW.1.2 19 _ rfl
  | 21, hq => cases hq; exact hW.1.2 20 _ rfl
  | 22, hq => cases hq; exact hW.1.2 21 _ rfl
  | 23, hq => cases hq; exact hW.1.2 22 _ rfl
  | 24, hq => cases hq; exact hW.1.2 23 _ rfl
  | a + 25, hq => exact absurd hq (by rw [List.getElem?_eq_none (by show 25 ≤ _; omega)]; exact fun q => by cases q)
/-- new cells need not be told -/
theorem ct_sw {Y : sx_T} {K2 : sx_K} {nL pc a c h0 s0 : Nat} {lv : List (Nat × Value)} {st : List Value} {P : Heap → Prop} (hz : (sx_s Y).heap.size = s0) (hA : sx_A K2 h0) (hB : ∀ q, sx_A K2 q → ct_A h0 s0 q) (kk : sx_GA (ct_X Y a c) (sx_A K2) nL pc lv st P) : sx_GA (ct_X Y a c) (ct_A h0 s0) nL pc lv st P := by
  intro H locs ls hP hS hl T hT X
  have X2 : Stand (sx_p Y) (sx_l Y) (sx_e Y) (sx_rm Y) (sx_s Y) (sx_m Y) (sx_a Y) (sx_b Y) (sx_h Y) (sx_c Y) T (locs.filter (fun q => decide (q.base < s0))) a c := { X with same := X.same.weaken (fun y hy hlt => List.mem_filter.mpr ⟨hy, decide_eq_true (by rw [← hz]; exact hlt)⟩) (Nat.le_refl _) (Nat.le_refl _) }
  refine kk H _ ls hP ⟨hS.1, fun q h1 h2 => hS.2.1 q h1 (fun h3 => ?_), fun q hq => ?_⟩ hl T hT X2
  · rcases h3 with h3 | h3
    · rw [h3] at h2; exact h2 hA
    · have h4 : q < (sx_s Y).heap.size := h1
      rw [hz] at h4; omega
  · obtain ⟨h1, h2⟩ := List.mem_filter.mp hq
    have h2' : q.base < s0 := of_decide_eq_true h2
    rcases hS.2.2 q h1 with h3 | h3
    · rw [h3]; exact hA
    · exact absurd h3 (Nat.not_le.mpr h2')
