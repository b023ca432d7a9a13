theorem dX5_isChanged_2 : decode cX5_isChanged 2 = .ok (.ishr, 1) := by decide +kernel
theorem dX5_isChanged_3 : decode cX5_isChanged 3 = .ok (.aload_n 0, 1) := by decide +kernel
theorem dX5_isChanged_4 : decode cX5_isChanged 4 = .ok (.getfield 25, 3) := by decide +kernel
theorem dX5_isChanged_7 : decode cX5_isChanged 7 = .ok (.invokestatic 67, 3) := by decide +kernel
theorem dX5_isChanged_10 : decode cX5_isChanged 10 = .ok (.istore 4, 2) := by decide +kernel
theorem dX5_isChanged_12 : decode cX5_isChanged 12 = .ok (.iload_n 2, 1) := by decide +kernel
theorem dX5_isChanged_13 : decode cX5_isChanged 13 = .ok (.bipush 8, 2) := by decide +kernel
theorem dX5_isChanged_15 : decode cX5_isChanged 15 = .ok (.ishr, 1) := by decide +kernel
theorem dX5_isChanged_16 : decode cX5_isChanged 16 = .ok (.bipush 12, 2) := by decide +kernel
theorem dX5_isChanged_18 : decode cX5_isChanged 18 = .ok (.invokestatic 67, 3) := by decide +kernel
theorem dX5_isChanged_21 : decode cX5_isChanged 21 = .ok (.istore 5, 2) := by decide +kernel
theorem dX5_isChanged_23 : decode cX5_isChanged 23 = .ok (.iload_n 2, 1) := by decide +kernel
theorem dX5_isChanged_24 : decode cX5_isChanged 24 = .ok (.bipush 6, 2) := by decide +kernel
theorem dX5_isChanged_26 : decode cX5_isChanged 26 = .ok (.ishr, 1) := by decide +kernel
theorem dX5_isChanged_27 : decode cX5_isChanged 27 = .ok (.bipush 9, 2) := by decide +kernel
theorem dX5_isChanged_29 : decode cX5_isChanged 29 = .ok (.invokestatic 67, 3) := by decide +kernel
theorem dX5_isChanged_32 : decode cX5_isChanged 32 = .ok (.ifCond .ne 9, 3) := by decide +kernel
theorem dX5_isChanged_35 : decode cX5_isChanged 35 = .ok (.sipush (-1000), 3) := by decide +kernel
theorem dX5_isChanged_38 : decode cX5_isChanged 38 = .ok (.goto 45, 3) := by decide +kernel
theorem dX5_isChanged_41 : decode cX5_isChanged 41 = .ok (.iload_n 2, 1) := by decide +kernel
theorem dX5_isChanged_42 : decode cX5_isChanged 42 = .ok (.bipush 6, 2) := by decide +kernel
theorem dX5_isChanged_44 : decode cX5_isChanged 44 = .ok (.ishr, 1) := by decide +kernel
theorem dX5_isChanged_45 : decode cX5_isChanged 45 = .ok (.bipush 9, 2) := by decide +kernel
theorem dX5_isChanged_47 : decode cX5_isChanged 47 = .ok (.invokestatic 67, 3) := by decide +kernel
theorem dX5_isChanged_50 : decode cX5_isChanged 50 = .ok (.iconst 1, 1) := by decide +kernel
theorem dX5_isChanged_51 : decode cX5_isChanged 51 = .ok (.if_icmp .ne 20, 3) := by decide +kernel
theorem dX5_isChanged_54 : decode cX5_isChanged 54 = .ok (.sipush 1000, 3) := by decide +kernel
theorem dX5_isChanged_57 : decode cX5_isChanged 57 = .ok (.iload_n 2, 1) := by decide +kernel
theorem dX5_isChanged_58 : decode cX5_isChanged 58 = .ok (.iconst 3, 1) := by decide +kernel
theorem dX5_isChanged_59 : decode cX5_isChanged 59 = .ok (.ishr, 1) := by decide +kernel
theorem dX5_isChanged_60 : decode cX5_isChanged 60 = .ok (.aload_n 0, 1) := by decide +kernel
theorem dX5_isChanged_61 : decode cX5_isChanged 61 = .ok (.getfield 25, 3) := by decide +kernel
theorem dX5_isChanged_64 : decode cX5_isChanged 64 = .ok (.invokestatic 67, 3) := by decide +kernel
theorem dX5_isChanged_67 : decode cX5_isChanged 67 = .ok (.iadd, 1) := by decide +kernel
theorem dX5_isChanged_68 : decode cX5_isChanged 68 = .ok (.goto 15, 3) := by decide +kernel
theorem dX5_isChanged_71 : decode cX5_isChanged 71 = .ok (.iload_n 2, 1) := by decide +kernel
theorem dX5_isChanged_72 : decode cX5_isChanged 72 = .ok (.iconst 3, 1) := by decide +kernel
theorem dX5_isChanged_73 : decode cX5_isChanged 73 = .ok (.ishr, 1) := by decide +kernel
theorem dX5_isChanged_74 : decode cX5_isChanged 74 = .ok (.sipush 300, 3) := by decide +kernel
theorem dX5_isChanged_77 : decode cX5_isChanged 77 = .ok (.invokestatic 67, 3) := by decide +kernel
theorem dX5_isChanged_80 : decode cX5_isChanged 80 = .ok (.bipush 100, 2) := by decide +kernel
theorem dX5_isChanged_82 : decode cX5_isChanged 82 = .ok (.isub, 1) := by decide +kernel
theorem dX5_isChanged_83 : decode cX5_isChanged 83 = .ok (.istore 6, 2) := by decide +kernel
theorem dX5_isChanged_85 : decode cX5_isChanged 85 = .ok (.iload_n 2, 1) := by decide +kernel
theorem dX5_isChanged_86 : decode cX5_isChanged 86 = .ok (.bipush 11, 2) := by decide +kernel
theorem dX5_isChanged_88 : decode cX5_isChanged 88 = .ok (.ishr, 1) := by decide +kernel
theorem dX5_isChanged_89 : decode cX5_isChanged 89 = .ok (.iconst 5, 1) := by decide +kernel
theorem dX5_isChanged_90 : decode cX5_isChanged 90 = .ok (.invokestatic 67, 3) := by decide +kernel
theorem dX5_isChanged_93 : decode cX5_isChanged 93 = .ok (.ifCond .ne 7, 3) := by decide +kernel
theorem dX5_isChanged_96 : decode cX5_isChanged 96 = .ok (.iconst 1, 1) := by decide +kernel
theorem dX5_isChanged_97 : decode cX5_isChanged 97 = .ok (.goto 4, 3) := by decide +kernel
theorem dX5_isChanged_100 : decode cX5_isChanged 100 = .ok (.iconst 0, 1) := by decide +kernel
theorem dX5_isChanged_101 : decode cX5_isChanged 101 = .ok (.istore 7, 2) := by decide +kernel
theorem dX5_isChanged_103 : decode cX5_isChanged 103 = .ok (.iload_n 2, 1) := by decide +kernel
theorem dX5_isChanged_104 : decode cX5_isChanged 104 = .ok (.bipush 13, 2) := by decide +kernel
theorem dX5_isChanged_106 : decode cX5_isChanged 106 = .ok (.ishr, 1) := by decide +kernel
theorem dX5_isChanged_107 : decode cX5_isChanged 107 = .ok (.iconst 4, 1) := by decide +kernel
theorem dX5_isChanged_108 : decode cX5_isChanged 108 = .ok (.invokestatic 67, 3) := by decide +kernel
theorem dX5_isChanged_111 : decode cX5_isChanged 111 = .ok (.ifCond .ne 7, 3) := by decide +kernel
theorem dX5_isChanged_114 : decode cX5_isChanged 114 = .ok (.iconst 1, 1) := by decide +kernel
theorem dX5_isChanged_115 : decode cX5_isChanged 115 = .ok (.goto 4, 3) := by decide +kernel
theorem dX5_isChanged_118 : decode cX5_isChanged 118 = .ok (.iconst 0, 1) := by decide +kernel
theorem dX5_isChanged_119 : decode cX5_isChanged 119 = .ok (.istore 8, 2) := by decide +kernel
theorem dX5_isChanged_121 : decode cX5_isChanged 121 = .ok (.iload_n 2, 1) := by decide +kernel
theorem dX5_isChanged_122 : decode cX5_isChanged 122 = .ok (.iload_n 3, 1) := by decide +kernel
theorem dX5_isChanged_123 : decode cX5_isChanged 123 = .ok (.invokestatic 67, 3) := by decide +kernel
theorem dX5_isChanged_126 : decode cX5_isChanged 126 = .ok (.tableswitch 307 0 6 #[42, 42, 42, 73, 176, 201, 243], 42) := by decide +kernel
theorem dX5_isChanged_168 : decode cX5_isChanged 168 = .ok (.aload_n 1, 1) := by decide +kernel
theorem dX5_isChanged_169 : decode cX5_isChanged 169 = .ok (.iload 4, 2) := by decide +kernel
theorem dX5_isChanged_171 : decode cX5_isChanged 171 = .ok (.iload 5, 2) := by decide +kernel
theorem dX5_isChanged_173 : decode cX5_isChanged 173 = .ok (.iload 6, 2) := by decide +kernel
theorem dX5_isChanged_175 : decode cX5_isChanged 175 = .ok (.invokevirtual 72, 3) := by decide +kernel
theorem dX5_isChanged_178 : decode cX5_isChanged 178 = .ok (.aload_n 0, 1) := by decide +kernel
theorem dX5_isChanged_179 : decode cX5_isChanged 179 = .ok (.iload 4, 2) := by decide +kernel
theorem dX5_isChanged_181 : decode cX5_isChanged 181 = .ok (.iload 5, 2) := by decide +kernel
theorem dX5_isChanged_183 : decode cX5_isChanged 183 = .ok (.iload 6, 2) := by decide +kernel
theorem dX5_isChanged_185 : decode cX5_isChanged 185 = .ok (.bipush 6, 2) := by decide +kernel
theorem dX5_isChanged_187 : decode cX5_isChanged 187 = .ok (.invokevirtual 55, 3) := by decide +kernel
theorem dX5_isChanged_190 : decode cX5_isChanged 190 = .ok (.if_icmp .ne 7, 3) := by decide +kernel
theorem dX5_isChanged_193 : decode cX5_isChanged 193 = .ok (.iconst 1, 1) := by decide +kernel
theorem dX5_isChanged_194 : decode cX5_isChanged 194 = .ok (.goto 4, 3) := by decide +kernel
theorem dX5_isChanged_197 : decode cX5_isChanged 197 = .ok (.iconst 0, 1) := by decide +kernel
theorem dX5_isChanged_198 : decode cX5_isChanged 198 = .ok (.ireturn, 1) := by decide +kernel
theorem dX5_isChanged_199 : decode cX5_isChanged 199 = .ok (.aload_n 0, 1) := by decide +kernel
theorem dX5_isChanged_200 : decode cX5_isChanged 200 = .ok (.iload 4, 2) := by decide +kernel
theorem dX5_isChanged_202 : decode cX5_isChanged 202 = .ok (.iload 5, 2) := by decide +kernel
theorem dX5_isChanged_204 : decode cX5_isChanged 204 = .ok (.invokevirtual 76, 3) := by decide +kernel
theorem dX5_isChanged_207 : decode cX5_isChanged 207 = .ok (.istore 9, 2) := by decide +kernel
theorem dX5_isChanged_209 : decode cX5_isChanged 209 = .ok (.bipush 7, 2) := by decide +kernel
theorem dX5_isChanged_211 : decode cX5_isChanged 211 = .ok (.newarray .int, 2) := by decide +kernel
theorem dX5_isChanged_213 : decode cX5_isChanged 213 = .ok (.dup, 1) := by decide +kernel
theorem dX5_isChanged_214 : decode cX5_isChanged 214 = .ok (.iconst 0, 1) := by decide +kernel
theorem dX5_isChanged_215 : decode cX5_isChanged 215 = .ok (.iload 5, 2) := by decide +kernel
theorem dX5_isChanged_217 : decode cX5_isChanged 217 = .ok (.iastore, 1) := by decide +kernel
theorem dX5_isChanged_218 : decode cX5_isChanged 218 = .ok (.dup, 1) := by decide +kernel
theorem dX5_isChanged_219 : decode cX5_isChanged 219 = .ok (.iconst 1, 1) := by decide +kernel
theorem dX5_isChanged_220 : decode cX5_isChanged 220 = .ok (.iconst 1, 1) := by decide +kernel
theorem dX5_isChanged_221 : decode cX5_isChanged 221 = .ok (.iastore, 1) := by decide +kernel
theorem dX5_isChanged_222 : decode cX5_isChanged 222 = .ok (.dup, 1) := by decide +kernel
theorem dX5_isChanged_223 : decode cX5_isChanged 223 = .ok (.iconst 2, 1) := by decide +kernel
theorem dX5_isChanged_224 : decode cX5_isChanged 224 = .ok (.iload 6, 2) := by decide +kernel
theorem dX5_isChanged_226 : decode cX5_isChanged 226 = .ok (.iastore, 1) := by decide +kernel
theorem dX5_isChanged_227 : decode cX5_isChanged 227 = .ok (.dup, 1) := by decide +kernel
theorem dX5_isChanged_228 : decode cX5_isChanged 228 = .ok (.iconst 3, 1) := by decide +kernel
theorem dX5_isChanged_229 : decode cX5_isChanged 229 = .ok (.iload 7, 2) := by decide +kernel
theorem dX5_isChanged_231 : decode cX5_isChanged 231 = .ok (.ifCond .eq 7, 3) := by decide +kernel
theorem dX5_isChanged_234 : decode cX5_isChanged 234 = .ok (.iconst 1, 1) := by decide +kernel
theorem dX5_isChanged_235 : decode cX5_isChanged 235 = .ok (.goto 4, 3) := by decide +kernel
theorem dX5_isChanged_238 : decode cX5_isChanged 238 = .ok (.iconst 0, 1) := by decide +kernel
theorem dX5_isChanged_239 : decode cX5_isChanged 239 = .ok (.iastore, 1) := by decide +kernel
theorem dX5_isChanged_240 : decode cX5_isChanged 240 = .ok (.dup, 1) := by decide +kernel
theorem dX5_isChanged_241 : decode cX5_isChanged 241 = .ok (.iconst 4, 1) := by decide +kernel
theorem dX5_isChanged_242 : decode cX5_isChanged 242 = .ok (.iload 8, 2) := by decide +kernel
theorem dX5_isChanged_244 : decode cX5_isChanged 244 = .ok (.ifCond .eq 7, 3) := by decide +kernel
theorem dX5_isChanged_247 : decode cX5_isChanged 247 = .ok (.iconst 1, 1) := by decide +kernel
theorem dX5_isChanged_248 : decode cX5_isChanged 248 = .ok (.goto 4, 3) := by decide +kernel
theorem dX5_isChanged_251 : decode cX5_isChanged 251 = .ok (.iconst 0, 1) := by decide +kernel
theorem dX5_isChanged_252 : decode cX5_isChanged 252 = .ok (.iastore, 1) := by decide +kernel
theorem dX5_isChanged_253 : decode cX5_isChanged 253 = .ok (.dup, 1) := by decide +kernel
theorem dX5_isChanged_254 : decode cX5_isChanged 254 = .ok (.iconst 5, 1) := by decide +kernel
theorem dX5_isChanged_255 : decode cX5_isChanged 255 = .ok (.iconst (-1), 1) := by decide +kernel
theorem dX5_isChanged_256 : decode cX5_isChanged 256 = .ok (.iastore, 1) := by decide +kernel
theorem dX5_isChanged_257 : decode cX5_isChanged 257 = .ok (.dup, 1) := by decide +kernel
theorem dX5_isChanged_258 : decode cX5_isChanged 258 = .ok (.bipush 6, 2) := by decide +kernel
theorem dX5_isChanged_260 : decode cX5_isChanged 260 = .ok (.iconst 0, 1) := by decide +kernel
theorem dX5_isChanged_261 : decode cX5_isChanged 261 = .ok (.iastore, 1) := by decide +kernel
theorem dX5_isChanged_262 : decode cX5_isChanged 262 = .ok (.astore 10, 2) := by decide +kernel
theorem dX5_isChanged_264 : decode cX5_isChanged 264 = .ok (.iload 9, 2) := by decide +kernel
theorem dX5_isChanged_266 : decode cX5_isChanged 266 = .ok (.ifCond .eq 11, 3) := by decide +kernel
theorem dX5_isChanged_269 : decode cX5_isChanged 269 = .ok (.aload_n 0, 1) := by decide +kernel
theorem dX5_isChanged_270 : decode cX5_isChanged 270 = .ok (.iload 4, 2) := by decide +kernel
theorem dX5_isChanged_272 : decode cX5_isChanged 272 = .ok (.aload 10, 2) := by decide +kernel
theorem dX5_isChanged_274 : decode cX5_isChanged 274 = .ok (.invokevirtual 59, 3) := by decide +kernel
theorem dX5_isChanged_277 : decode cX5_isChanged 277 = .ok (.aload_n 1, 1) := by decide +kernel
theorem dX5_isChanged_278 : decode cX5_isChanged 278 = .ok (.iload 4, 2) := by decide +kernel
theorem dX5_isChanged_280 : decode cX5_isChanged 280 = .ok (.iload 5, 2) := by decide +kernel
theorem dX5_isChanged_282 : decode cX5_isChanged 282 = .ok (.iload 6, 2) := by decide +kernel
theorem dX5_isChanged_284 : decode cX5_isChanged 284 = .ok (.iload 7, 2) := by decide +kernel
theorem dX5_isChanged_286 : decode cX5_isChanged 286 = .ok (.iload 8, 2) := by decide +kernel
theorem dX5_isChanged_288 : decode cX5_isChanged 288 = .ok (.invokevirtual 79, 3) := by decide +kernel
theorem dX5_isChanged_291 : decode cX5_isChanged 291 = .ok (.iload 9, 2) := by decide +kernel
theorem dX5_isChanged_293 : decode cX5_isChanged 293 = .ok (.if_icmp .ne 7, 3) := by decide +kernel
theorem dX5_isChanged_296 : decode cX5_isChanged 296 = .ok (.iconst 1, 1) := by decide +kernel
theorem dX5_isChanged_297 : decode cX5_isChanged 297 = .ok (.goto 4, 3) := by decide +kernel
theorem dX5_isChanged_300 : decode cX5_isChanged 300 = .ok (.iconst 0, 1) := by decide +kernel
theorem dX5_isChanged_301 : decode cX5_isChanged 301 = .ok (.ireturn, 1) := by decide +kernel
theorem dX5_isChanged_302 : decode cX5_isChanged 302 = .ok (.aload_n 1, 1) := by decide +kernel
theorem dX5_isChanged_303 : decode cX5_isChanged 303 = .ok (.iload 4, 2) := by decide +kernel
theorem dX5_isChanged_305 : decode cX5_isChanged 305 = .ok (.iload 5, 2) := by decide +kernel
theorem dX5_isChanged_307 : decode cX5_isChanged 307 = .ok (.invokevirtual 83, 3) := by decide +kernel
theorem dX5_isChanged_310 : decode cX5_isChanged 310 = .ok (.aload_n 0, 1) := by decide +kernel
theorem dX5_isChanged_311 : decode cX5_isChanged 311 = .ok (.iload 4, 2) := by decide +kernel
theorem dX5_isChanged_313 : decode cX5_isChanged 313 = .ok (.iload 5, 2) := by decide +kernel
theorem dX5_isChanged_315 : decode cX5_isChanged 315 = .ok (.invokevirtual 86, 3) := by decide +kernel
theorem dX5_isChanged_318 : decode cX5_isChanged 318 = .ok (.if_icmp .ne 7, 3) := by decide +kernel
theorem dX5_isChanged_321 : decode cX5_isChanged 321 = .ok (.iconst 1, 1) := by decide +kernel
theorem dX5_isChanged_322 : decode cX5_isChanged 322 = .ok (.goto 4, 3) := by decide +kernel
theorem dX5_isChanged_325 : decode cX5_isChanged 325 = .ok (.iconst 0, 1) := by decide +kernel
theorem dX5_isChanged_326 : decode cX5_isChanged 326 = .ok (.ireturn, 1) := by decide +kernel
theorem dX5_isChanged_327 : decode cX5_isChanged 327 = .ok (.iload_n 2, 1) := by decide +kernel
theorem dX5_isChanged_328 : decode cX5_isChanged 328 = .ok (.bipush 10, 2) := by decide +kernel
theorem dX5_isChanged_330 : decode cX5_isChanged 330 = .ok (.ishr, 1) := by decide +kernel
theorem dX5_isChanged_331 : decode cX5_isChanged 331 = .ok (.aload_n 0, 1) := by decide +kernel
theorem dX5_isChanged_332 : decode cX5_isChanged 332 = .ok (.getfield 25, 3) := by decide +kernel
theorem dX5_isChanged_335 : decode cX5_isChanged 335 = .ok (.iconst 1, 1) := by decide +kernel
theorem dX5_isChanged_336 : decode cX5_isChanged 336 = .ok (.iadd, 1) := by decide +kernel
theorem dX5_isChanged_337 : decode cX5_isChanged 337 = .ok (.invokestatic 67, 3) := by decide +kernel
theorem dX5_isChanged_340 : decode cX5_isChanged 340 = .ok (.iconst 1, 1) := by decide +kernel
theorem dX5_isChanged_341 : decode cX5_isChanged 341 = .ok (.isub, 1) := by decide +kernel
theorem dX5_isChanged_342 : decode cX5_isChanged 342 = .ok (.istore 9, 2) := by decide +kernel
theorem dX5_isChanged_344 : decode cX5_isChanged 344 = .ok (.aload_n 1, 1) := by decide +kernel
theorem dX5_isChanged_345 : decode cX5_isChanged 345 = .ok (.iload 4, 2) := by decide +kernel
theorem dX5_isChanged_347 : decode cX5_isChanged 347 = .ok (.iload 9, 2) := by decide +kernel
theorem dX5_isChanged_349 : decode cX5_isChanged 349 = .ok (.invokevirtual 89, 3) := by decide +kernel
theorem dX5_isChanged_352 : decode cX5_isChanged 352 = .ok (.aload_n 0, 1) := by decide +kernel
theorem dX5_isChanged_353 : decode cX5_isChanged 353 = .ok (.iload 4, 2) := by decide +kernel
theorem dX5_isChanged_355 : decode cX5_isChanged 355 = .ok (.iload 9, 2) := by decide +kernel
theorem dX5_isChanged_357 : decode cX5_isChanged 357 = .ok (.invokevirtual 92, 3) := by decide +kernel
theorem dX5_isChanged_360 : decode cX5_isChanged 360 = .ok (.if_icmp .ne 7, 3) := by decide +kernel
theorem dX5_isChanged_363 : decode cX5_isChanged 363 = .ok (.iconst 1, 1) := by decide +kernel
theorem dX5_isChanged_364 : decode cX5_isChanged 364 = .ok (.goto 4, 3) := by decide +kernel
theorem dX5_isChanged_367 : decode cX5_isChanged 367 = .ok (.iconst 0, 1) := by decide +kernel
theorem dX5_isChanged_368 : decode cX5_isChanged 368 = .ok (.ireturn, 1) := by decide +kernel
theorem dX5_isChanged_369 : decode cX5_isChanged 369 = .ok (.iload_n 2, 1) := by decide +kernel
theorem dX5_isChanged_370 : decode cX5_isChanged 370 = .ok (.bipush 10, 2) := by decide +kernel
theorem dX5_isChanged_372 : decode cX5_isChanged 372 = .ok (.ishr, 1) := by decide +kernel
theorem dX5_isChanged_373 : decode cX5_isChanged 373 = .ok (.iconst 4, 1) := by decide +kernel
theorem dX5_isChanged_374 : decode cX5_isChanged 374 = .ok (.invokestatic 67, 3) := by decide +kernel
theorem dX5_isChanged_377 : decode cX5_isChanged 377 = .ok (.ifCond .gt 50, 3) := by decide +kernel
theorem dX5_isChanged_380 : decode cX5_isChanged 380 = .ok (.aload_n 1, 1) := by decide +kernel
theorem dX5_isChanged_381 : decode cX5_isChanged 381 = .ok (.iload 4, 2) := by decide +kernel
theorem dX5_isChanged_383 : decode cX5_isChanged 383 = .ok (.iload_n 2, 1) := by decide +kernel
theorem dX5_isChanged_384 : decode cX5_isChanged 384 = .ok (.bipush 12, 2) := by decide +kernel
theorem dX5_isChanged_386 : decode cX5_isChanged 386 = .ok (.ishr, 1) := by decide +kernel
theorem dX5_isChanged_387 : decode cX5_isChanged 387 = .ok (.iconst 2, 1) := by decide +kernel
theorem dX5_isChanged_388 : decode cX5_isChanged 388 = .ok (.invokestatic 67, 3) := by decide +kernel
theorem dX5_isChanged_391 : decode cX5_isChanged 391 = .ok (.ifCond .ne 7, 3) := by decide +kernel
theorem dX5_isChanged_394 : decode cX5_isChanged 394 = .ok (.iconst 1, 1) := by decide +kernel
theorem dX5_isChanged_395 : decode cX5_isChanged 395 = .ok (.goto 4, 3) := by decide +kernel
theorem dX5_isChanged_398 : decode cX5_isChanged 398 = .ok (.iconst 0, 1) := by decide +kernel
theorem dX5_isChanged_399 : decode cX5_isChanged 399 = .ok (.invokevirtual 95, 3) := by decide +kernel
theorem dX5_isChanged_402 : decode cX5_isChanged 402 = .ok (.aload_n 0, 1) := by decide +kernel
theorem dX5_isChanged_403 : decode cX5_isChanged 403 = .ok (.iload 4, 2) := by decide +kernel
theorem dX5_isChanged_405 : decode cX5_isChanged 405 = .ok (.iload_n 2, 1) := by decide +kernel
theorem dX5_isChanged_406 : decode cX5_isChanged 406 = .ok (.bipush 12, 2) := by decide +kernel
theorem dX5_isChanged_408 : decode cX5_isChanged 408 = .ok (.ishr, 1) := by decide +kernel
theorem dX5_isChanged_409 : decode cX5_isChanged 409 = .ok (.iconst 2, 1) := by decide +kernel
theorem dX5_isChanged_410 : decode cX5_isChanged 410 = .ok (.invokestatic 67, 3) := by decide +kernel
theorem dX5_isChanged_413 : decode cX5_isChanged 413 = .ok (.ifCond .ne 7, 3) := by decide +kernel
theorem dX5_isChanged_416 : decode cX5_isChanged 416 = .ok (.iconst 1, 1) := by decide +kernel
theorem dX5_isChanged_417 : decode cX5_isChanged 417 = .ok (.goto 4, 3) := by decide +kernel
theorem dX5_isChanged_420 : decode cX5_isChanged 420 = .ok (.iconst 0, 1) := by decide +kernel
theorem dX5_isChanged_421 : decode cX5_isChanged 421 = .ok (.invokevirtual 99, 3) := by decide +kernel
theorem dX5_isChanged_424 : decode cX5_isChanged 424 = .ok (.if_icmp .ne 7, 3) := by decide +kernel
theorem dX5_isChanged_427 : decode cX5_isChanged 427 = .ok (.iconst 1, 1) := by decide +kernel
theorem dX5_isChanged_428 : decode cX5_isChanged 428 = .ok (.goto 4, 3) := by decide +kernel
theorem dX5_isChanged_431 : decode cX5_isChanged 431 = .ok (.iconst 0, 1) := by decide +kernel
theorem dX5_isChanged_432 : decode cX5_isChanged 432 = .ok (.ireturn, 1) := by decide +kernel
theorem dX5_isChanged_433 : decode cX5_isChanged 433 = .ok (.aload_n 0, 1) := by decide +kernel
theorem dX5_isChanged_434 : decode cX5_isChanged 434 = .ok (.iload 4, 2) := by decide +kernel
theorem dX5_isChanged_436 : decode cX5_isChanged 436 = .ok (.iload 5, 2) := by decide +kernel
theorem dX5_isChanged_438 : decode cX5_isChanged 438 = .ok (.invokevirtual 76, 3) := by decide +kernel
theorem dX5_isChanged_441 : decode cX5_isChanged 441 = .ok (.istore 9, 2) := by decide +kernel
theorem dX5_isChanged_443 : decode cX5_isChanged 443 = .ok (.iload_n 2, 1) := by decide +kernel
theorem dX5_isChanged_444 : decode cX5_isChanged 444 = .ok (.bipush 10, 2) := by decide +kernel
theorem dX5_isChanged_446 : decode cX5_isChanged 446 = .ok (.ishr, 1) := by decide +kernel
theorem dX5_isChanged_447 : decode cX5_isChanged 447 = .ok (.bipush 13, 2) := by decide +kernel
theorem dX5_isChanged_449 : decode cX5_isChanged 449 = .ok (.invokestatic 67, 3) := by decide +kernel
theorem dX5_isChanged_452 : decode cX5_isChanged 452 = .ok (.iconst 1, 1) := by decide +kernel
theorem dX5_isChanged_453 : decode cX5_isChanged 453 = .ok (.isub, 1) := by decide +kernel
theorem dX5_isChanged_454 : decode cX5_isChanged 454 = .ok (.istore 10, 2) := by decide +kernel
theorem dX5_isChanged_456 : decode cX5_isChanged 456 = .ok (.iload 10, 2) := by decide +kernel
theorem dX5_isChanged_458 : decode cX5_isChanged 458 = .ok (.ifCond .ge 15, 3) := by decide +kernel
theorem dX5_isChanged_461 : decode cX5_isChanged 461 = .ok (.iload_n 2, 1) := by decide +kernel
theorem dX5_isChanged_462 : decode cX5_isChanged 462 = .ok (.bipush 12, 2) := by decide +kernel
theorem dX5_isChanged_464 : decode cX5_isChanged 464 = .ok (.ishr, 1) := by decide +kernel
theorem dX5_isChanged_465 : decode cX5_isChanged 465 = .ok (.bipush 12, 2) := by decide +kernel
theorem dX5_isChanged_467 : decode cX5_isChanged 467 = .ok (.invokestatic 67, 3) := by decide +kernel
theorem dX5_isChanged_470 : decode cX5_isChanged 470 = .ok (.goto 14, 3) := by decide +kernel
theorem dX5_isChanged_473 : decode cX5_isChanged 473 = .ok (.iload_n 2, 1) := by decide +kernel
theorem dX5_isChanged_474 : decode cX5_isChanged 474 = .ok (.bipush 12, 2) := by decide +kernel
theorem dX5_isChanged_476 : decode cX5_isChanged 476 = .ok (.ishr, 1) := by decide +kernel
theorem dX5_isChanged_477 : decode cX5_isChanged 477 = .ok (.bipush 13, 2) := by decide +kernel
theorem dX5_isChanged_479 : decode cX5_isChanged 479 = .ok (.invokestatic 67, 3) := by decide +kernel
theorem dX5_isChanged_482 : decode cX5_isChanged 482 = .ok (.iconst 1, 1) := by decide +kernel
theorem dX5_isChanged_483 : decode cX5_isChanged 483 = .ok (.isub, 1) := by decide +kernel
theorem dX5_isChanged_484 : decode cX5_isChanged 484 = .ok (.istore 11, 2) := by decide +kernel
theorem dX5_isChanged_486 : decode cX5_isChanged 486 = .ok (.bipush 7, 2) := by decide +kernel
theorem dX5_isChanged_488 : decode cX5_isChanged 488 = .ok (.newarray .int, 2) := by decide +kernel
theorem dX5_isChanged_490 : decode cX5_isChanged 490 = .ok (.dup, 1) := by decide +kernel
theorem dX5_isChanged_491 : decode cX5_isChanged 491 = .ok (.iconst 0, 1) := by decide +kernel
theorem dX5_isChanged_492 : decode cX5_isChanged 492 = .ok (.iload 5, 2) := by decide +kernel
theorem dX5_isChanged_494 : decode cX5_isChanged 494 = .ok (.iastore, 1) := by decide +kernel
theorem dX5_isChanged_495 : decode cX5_isChanged 495 = .ok (.dup, 1) := by decide +kernel
theorem dX5_isChanged_496 : decode cX5_isChanged 496 = .ok (.iconst 1, 1) := by decide +kernel
theorem dX5_isChanged_497 : decode cX5_isChanged 497 = .ok (.iconst 2, 1) := by decide +kernel
theorem dX5_isChanged_498 : decode cX5_isChanged 498 = .ok (.iastore, 1) := by decide +kernel
theorem dX5_isChanged_499 : decode cX5_isChanged 499 = .ok (.dup, 1) := by decide +kernel
theorem dX5_isChanged_500 : decode cX5_isChanged 500 = .ok (.iconst 2, 1) := by decide +kernel
theorem dX5_isChanged_501 : decode cX5_isChanged 501 = .ok (.iload 10, 2) := by decide +kernel
theorem dX5_isChanged_503 : decode cX5_isChanged 503 = .ok (.iastore, 1) := by decide +kernel
theorem dX5_isChanged_504 : decode cX5_isChanged 504 = .ok (.dup, 1) := by decide +kernel
theorem dX5_isChanged_505 : decode cX5_isChanged 505 = .ok (.iconst 3, 1) := by decide +kernel
theorem dX5_isChanged_506 : decode cX5_isChanged 506 = .ok (.iconst 0, 1) := by decide +kernel
theorem dX5_isChanged_507 : decode cX5_isChanged 507 = .ok (.iastore, 1) := by decide +kernel
theorem dX5_isChanged_508 : decode cX5_isChanged 508 = .ok (.dup, 1) := by decide +kernel
theorem dX5_isChanged_509 : decode cX5_isChanged 509 = .ok (.iconst 4, 1) := by decide +kernel
theorem dX5_isChanged_510 : decode cX5_isChanged 510 = .ok (.iload 8, 2) := by decide +kernel
theorem dX5_isChanged_512 : decode cX5_isChanged 512 = .ok (.ifCond .eq 7, 3) := by decide +kernel
theorem dX5_isChanged_515 : decode cX5_isChanged 515 = .ok (.iconst 1, 1) := by decide +kernel
theorem dX5_isChanged_516 : decode cX5_isChanged 516 = .ok (.goto 4, 3) := by decide +kernel
theorem dX5_isChanged_519 : decode cX5_isChanged 519 = .ok (.iconst 0, 1) := by decide +kernel
theorem dX5_isChanged_520 : decode cX5_isChanged 520 = .ok (.iastore, 1) := by decide +kernel
theorem dX5_isChanged_521 : decode cX5_isChanged 521 = .ok (.dup, 1) := by decide +kernel
theorem dX5_isChanged_522 : decode cX5_isChanged 522 = .ok (.iconst 5, 1) := by decide +kernel
theorem dX5_isChanged_523 : decode cX5_isChanged 523 = .ok (.iload 11, 2) := by decide +kernel
theorem dX5_isChanged_525 : decode cX5_isChanged 525 = .ok (.iastore, 1) := by decide +kernel
theorem dX5_isChanged_526 : decode cX5_isChanged 526 = .ok (.dup, 1) := by decide +kernel
theorem dX5_isChanged_527 : decode cX5_isChanged 527 = .ok (.bipush 6, 2) := by decide +kernel
theorem dX5_isChanged_529 : decode cX5_isChanged 529 = .ok (.iload_n 2, 1) := by decide +kernel
theorem dX5_isChanged_530 : decode cX5_isChanged 530 = .ok (.iconst 5, 1) := by decide +kernel
theorem dX5_isChanged_531 : decode cX5_isChanged 531 = .ok (.ishr, 1) := by decide +kernel
theorem dX5_isChanged_532 : decode cX5_isChanged 532 = .ok (.bipush 40, 2) := by decide +kernel
theorem dX5_isChanged_534 : decode cX5_isChanged 534 = .ok (.invokestatic 67, 3) := by decide +kernel
theorem dX5_isChanged_537 : decode cX5_isChanged 537 = .ok (.bipush 20, 2) := by decide +kernel
theorem dX5_isChanged_539 : decode cX5_isChanged 539 = .ok (.isub, 1) := by decide +kernel
theorem dX5_isChanged_540 : decode cX5_isChanged 540 = .ok (.iastore, 1) := by decide +kernel
theorem dX5_isChanged_541 : decode cX5_isChanged 541 = .ok (.astore 12, 2) := by decide +kernel
theorem dX5_isChanged_543 : decode cX5_isChanged 543 = .ok (.iload 9, 2) := by decide +kernel
theorem dX5_isChanged_545 : decode cX5_isChanged 545 = .ok (.ifCond .eq 11, 3) := by decide +kernel
theorem dX5_isChanged_548 : decode cX5_isChanged 548 = .ok (.aload_n 0, 1) := by decide +kernel
theorem dX5_isChanged_549 : decode cX5_isChanged 549 = .ok (.iload 4, 2) := by decide +kernel
theorem dX5_isChanged_551 : decode cX5_isChanged 551 = .ok (.aload 12, 2) := by decide +kernel
theorem dX5_isChanged_553 : decode cX5_isChanged 553 = .ok (.invokevirtual 59, 3) := by decide +kernel
theorem dX5_isChanged_556 : decode cX5_isChanged 556 = .ok (.aload_n 1, 1) := by decide +kernel
theorem dX5_isChanged_557 : decode cX5_isChanged 557 = .ok (.iload 4, 2) := by decide +kernel
theorem dX5_isChanged_559 : decode cX5_isChanged 559 = .ok (.iload 5, 2) := by decide +kernel
theorem dX5_isChanged_561 : decode cX5_isChanged 561 = .ok (.iload 10, 2) := by decide +kernel
theorem dX5_isChanged_563 : decode cX5_isChanged 563 = .ok (.iload 11, 2) := by decide +kernel
theorem dX5_isChanged_565 : decode cX5_isChanged 565 = .ok (.aload 12, 2) := by decide +kernel
theorem dX5_isChanged_567 : decode cX5_isChanged 567 = .ok (.bipush 6, 2) := by decide +kernel
theorem dX5_isChanged_569 : decode cX5_isChanged 569 = .ok (.iaload, 1) := by decide +kernel
theorem dX5_isChanged_570 : decode cX5_isChanged 570 = .ok (.iload 8, 2) := by decide +kernel
theorem dX5_isChanged_572 : decode cX5_isChanged 572 = .ok (.invokevirtual 102, 3) := by decide +kernel
theorem dX5_isChanged_575 : decode cX5_isChanged 575 = .ok (.iload 9, 2) := by decide +kernel
theorem dX5_isChanged_577 : decode cX5_isChanged 577 = .ok (.if_icmp .ne 7, 3) := by decide +kernel
theorem dX5_isChanged_580 : decode cX5_isChanged 580 = .ok (.iconst 1, 1) := by decide +kernel
theorem dX5_isChanged_581 : decode cX5_isChanged 581 = .ok (.goto 4, 3) := by decide +kernel
theorem dX5_isChanged_584 : decode cX5_isChanged 584 = .ok (.iconst 0, 1) := by decide +kernel
theorem dX5_isChanged_585 : decode cX5_isChanged 585 = .ok (.ireturn, 1) := by decide +kernel
theorem dL_below_0 : decode cL_below 0 = .ok (.iload_n 0, 1) := by decide +kernel
theorem dL_below_1 : decode cL_below 1 = .ok (.ldc 7, 2) := by decide +kernel
theorem dL_below_3 : decode cL_below 3 = .ok (.iand, 1) := by decide +kernel
theorem dL_below_4 : decode cL_below 4 = .ok (.iload_n 1, 1) := by decide +kernel
theorem dL_below_5 : decode cL_below 5 = .ok (.irem, 1) := by decide +kernel
theorem dL_below_6 : decode cL_below 6 = .ok (.ireturn, 1) := by decide +kernel
theorem dL_cell_0 : decode cL_cell 0 = .ok (.iload_n 1, 1) := by decide +kernel
theorem dL_cell_1 : decode cL_cell 1 = .ok (.aload_n 0, 1) := by decide +kernel
theorem dL_cell_2 : decode cL_cell 2 = .ok (.arraylength, 1) := by decide +kernel
theorem dL_cell_3 : decode cL_cell 3 = .ok (.if_icmp .ge 9, 3) := by decide +kernel
theorem dL_cell_6 : decode cL_cell 6 = .ok (.aload_n 0, 1) := by decide +kernel
theorem dL_cell_7 : decode cL_cell 7 = .ok (.iload_n 1, 1) := by decide +kernel
theorem dL_cell_8 : decode cL_cell 8 = .ok (.iaload, 1) := by decide +kernel
theorem dL_cell_9 : decode cL_cell 9 = .ok (.goto 9, 3) := by decide +kernel
theorem dL_cell_12 : decode cL_cell 12 = .ok (.ldc 8, 2) := by decide +kernel
theorem dL_cell_14 : decode cL_cell 14 = .ok (.iload_n 1, 1) := by decide +kernel
theorem dL_cell_15 : decode cL_cell 15 = .ok (.iconst 3, 1) := by decide +kernel
theorem dL_cell_16 : decode cL_cell 16 = .ok (.iadd, 1) := by decide +kernel
theorem dL_cell_17 : decode cL_cell 17 = .ok (.imul, 1) := by decide +kernel
theorem dL_cell_18 : decode cL_cell 18 = .ok (.ireturn, 1) := by decide +kernel
theorem dL_law_0 : decode cL_law 0 = .ok (.new 9, 3) := by decide +kernel
theorem dL_law_3 : decode cL_law 3 = .ok (.dup, 1) := by decide +kernel
theorem dL_law_4 : decode cL_law 4 = .ok (.invokespecial 11, 3) := by decide +kernel
theorem dL_law_7 : decode cL_law 7 = .ok (.astore_n 1, 1) := by decide +kernel
theorem dL_law_8 : decode cL_law 8 = .ok (.new 12, 3) := by decide +kernel
theorem dL_law_11 : decode cL_law 11 = .ok (.dup, 1) := by decide +kernel
theorem dL_law_12 : decode cL_law 12 = .ok (.invokespecial 14, 3) := by decide +kernel
theorem dL_law_15 : decode cL_law 15 = .ok (.astore_n 2, 1) := by decide +kernel
theorem dL_law_16 : decode cL_law 16 = .ok (.iconst 0, 1) := by decide +kernel
theorem dL_law_17 : decode cL_law 17 = .ok (.istore_n 3, 1) := by decide +kernel
theorem dL_law_18 : decode cL_law 18 = .ok (.iload_n 3, 1) := by decide +kernel
theorem dL_law_19 : decode cL_law 19 = .ok (.iconst 4, 1) := by decide +kernel
theorem dL_law_20 : decode cL_law 20 = .ok (.if_icmp .ge 32, 3) := by decide +kernel
theorem dL_law_23 : decode cL_law 23 = .ok (.aload_n 2, 1) := by decide +kernel
theorem dL_law_24 : decode cL_law 24 = .ok (.aload_n 1, 1) := by decide +kernel
theorem dL_law_25 : decode cL_law 25 = .ok (.aload_n 0, 1) := by decide +kernel
theorem dL_law_26 : decode cL_law 26 = .ok (.iload_n 3, 1) := by decide +kernel
theorem dL_law_27 : decode cL_law 27 = .ok (.invokestatic 15, 3) := by decide +kernel
theorem dL_law_30 : decode cL_law 30 = .ok (.iload_n 3, 1) := by decide +kernel
theorem dL_law_31 : decode cL_law 31 = .ok (.iconst 1, 1) := by decide +kernel
theorem dL_law_32 : decode cL_law 32 = .ok (.iadd, 1) := by decide +kernel
theorem dL_law_33 : decode cL_law 33 = .ok (.invokestatic 21, 3) := by decide +kernel
theorem dL_law_36 : decode cL_law 36 = .ok (.iconst 1, 1) := by decide +kernel
theorem dL_law_37 : decode cL_law 37 = .ok (.isub, 1) := by decide +kernel
theorem dL_law_38 : decode cL_law 38 = .ok (.invokevirtual 25, 3) := by decide +kernel
theorem dL_law_41 : decode cL_law 41 = .ok (.ifCond .ne 5, 3) := by decide +kernel
theorem dL_law_44 : decode cL_law 44 = .ok (.iconst 0, 1) := by decide +kernel
theorem dL_law_45 : decode cL_law 45 = .ok (.ireturn, 1) := by decide +kernel
theorem dL_law_46 : decode cL_law 46 = .ok (.iinc 3 1, 3) := by decide +kernel
theorem dL_law_49 : decode cL_law 49 = .ok (.goto (-31), 3) := by decide +kernel
theorem dL_law_52 : decode cL_law 52 = .ok (.iconst 0, 1) := by decide +kernel
theorem dL_law_53 : decode cL_law 53 = .ok (.istore_n 3, 1) := by decide +kernel
theorem dL_law_54 : decode cL_law 54 = .ok (.iconst 0, 1) := by decide +kernel
theorem dL_law_55 : decode cL_law 55 = .ok (.istore 4, 2) := by decide +kernel
theorem dL_law_57 : decode cL_law 57 = .ok (.iload 4, 2) := by decide +kernel
theorem dL_law_59 : decode cL_law 59 = .ok (.bipush 60, 2) := by decide +kernel
theorem dL_law_61 : decode cL_law 61 = .ok (.if_icmp .ge 242, 3) := by decide +kernel
theorem dL_law_64 : decode cL_law 64 = .ok (.aload_n 0, 1) := by decide +kernel
theorem dL_law_65 : decode cL_law 65 = .ok (.iload 4, 2) := by decide +kernel
theorem dL_law_67 : decode cL_law 67 = .ok (.bipush 29, 2) := by decide +kernel
theorem dL_law_69 : decode cL_law 69 = .ok (.irem, 1) := by decide +kernel
theorem dL_law_70 : decode cL_law 70 = .ok (.invokestatic 15, 3) := by decide +kernel
theorem dL_law_73 : decode cL_law 73 = .ok (.iload 4, 2) := by decide +kernel
theorem dL_law_75 : decode cL_law 75 = .ok (.bipush 29, 2) := by decide +kernel
theorem dL_law_77 : decode cL_law 77 = .ok (.idiv, 1) := by decide +kernel
theorem dL_law_78 : decode cL_law 78 = .ok (.bipush 9, 2) := by decide +kernel
theorem dL_law_80 : decode cL_law 80 = .ok (.imul, 1) := by decide +kernel
theorem dL_law_81 : decode cL_law 81 = .ok (.ishr, 1) := by decide +kernel
theorem dL_law_82 : decode cL_law 82 = .ok (.istore 5, 2) := by decide +kernel
theorem dL_law_84 : decode cL_law 84 = .ok (.aload_n 1, 1) := by decide +kernel
theorem dL_law_85 : decode cL_law 85 = .ok (.iconst 1, 1) := by decide +kernel
theorem dL_law_86 : decode cL_law 86 = .ok (.invokevirtual 29, 3) := by decide +kernel
theorem dL_law_89 : decode cL_law 89 = .ok (.istore 6, 2) := by decide +kernel
theorem dL_law_91 : decode cL_law 91 = .ok (.iload 5, 2) := by decide +kernel
theorem dL_law_93 : decode cL_law 93 = .ok (.bipush 16, 2) := by decide +kernel
theorem dL_law_95 : decode cL_law 95 = .ok (.invokestatic 21, 3) := by decide +kernel
theorem dL_law_98 : decode cL_law 98 = .ok (.bipush 15, 2) := by decide +kernel
theorem dL_law_100 : decode cL_law 100 = .ok (.if_icmp .ne 28, 3) := by decide +kernel
theorem dL_law_103 : decode cL_law 103 = .ok (.aload_n 2, 1) := by decide +kernel
theorem dL_law_104 : decode cL_law 104 = .ok (.aload_n 1, 1) := by decide +kernel
theorem dL_law_105 : decode cL_law 105 = .ok (.iload 5, 2) := by decide +kernel
theorem dL_law_107 : decode cL_law 107 = .ok (.iconst 4, 1) := by decide +kernel
theorem dL_law_108 : decode cL_law 108 = .ok (.ishr, 1) := by decide +kernel
theorem dL_law_109 : decode cL_law 109 = .ok (.aload_n 2, 1) := by decide +kernel
theorem dL_law_110 : decode cL_law 110 = .ok (.getfield 33, 3) := by decide +kernel
theorem dL_law_113 : decode cL_law 113 = .ok (.iconst 1, 1) := by decide +kernel
theorem dL_law_114 : decode cL_law 114 = .ok (.iadd, 1) := by decide +kernel
theorem dL_law_115 : decode cL_law 115 = .ok (.invokestatic 21, 3) := by decide +kernel
theorem dL_law_118 : decode cL_law 118 = .ok (.iconst 1, 1) := by decide +kernel
theorem dL_law_119 : decode cL_law 119 = .ok (.isub, 1) := by decide +kernel
theorem dL_law_120 : decode cL_law 120 = .ok (.invokevirtual 25, 3) := by decide +kernel
theorem dL_law_123 : decode cL_law 123 = .ok (.ifCond .ne 112, 3) := by decide +kernel
theorem dL_law_126 : decode cL_law 126 = .ok (.iconst 0, 1) := by decide +kernel
theorem dL_law_127 : decode cL_law 127 = .ok (.ireturn, 1) := by decide +kernel
theorem dL_law_128 : decode cL_law 128 = .ok (.iload 5, 2) := by decide +kernel
theorem dL_law_130 : decode cL_law 130 = .ok (.bipush 16, 2) := by decide +kernel
theorem dL_law_132 : decode cL_law 132 = .ok (.invokestatic 21, 3) := by decide +kernel
theorem dL_law_135 : decode cL_law 135 = .ok (.bipush 11, 2) := by decide +kernel
theorem dL_law_137 : decode cL_law 137 = .ok (.if_icmp .le 15, 3) := by decide +kernel
theorem dL_law_140 : decode cL_law 140 = .ok (.aload_n 1, 1) := by decide +kernel
theorem dL_law_141 : decode cL_law 141 = .ok (.aload_n 2, 1) := by decide +kernel
theorem dL_law_142 : decode cL_law 142 = .ok (.iload 5, 2) := by decide +kernel
theorem dL_law_144 : decode cL_law 144 = .ok (.invokestatic 36, 3) := by decide +kernel
theorem dL_law_147 : decode cL_law 147 = .ok (.ifCond .ne 88, 3) := by decide +kernel
theorem dL_law_150 : decode cL_law 150 = .ok (.iconst 0, 1) := by decide +kernel
theorem dL_law_151 : decode cL_law 151 = .ok (.ireturn, 1) := by decide +kernel
theorem dL_law_152 : decode cL_law 152 = .ok (.iload 5, 2) := by decide +kernel
theorem dL_law_154 : decode cL_law 154 = .ok (.bipush 16, 2) := by decide +kernel
theorem dL_law_156 : decode cL_law 156 = .ok (.invokestatic 21, 3) := by decide +kernel
theorem dL_law_159 : decode cL_law 159 = .ok (.bipush 11, 2) := by decide +kernel
theorem dL_law_161 : decode cL_law 161 = .ok (.if_icmp .ne 42, 3) := by decide +kernel
theorem dL_law_164 : decode cL_law 164 = .ok (.aload_n 1, 1) := by decide +kernel
theorem dL_law_165 : decode cL_law 165 = .ok (.iload 5, 2) := by decide +kernel
theorem dL_law_167 : decode cL_law 167 = .ok (.iconst 4, 1) := by decide +kernel
theorem dL_law_168 : decode cL_law 168 = .ok (.ishr, 1) := by decide +kernel
theorem dL_law_169 : decode cL_law 169 = .ok (.aload_n 2, 1) := by decide +kernel
theorem dL_law_170 : decode cL_law 170 = .ok (.getfield 33, 3) := by decide +kernel
theorem dL_law_173 : decode cL_law 173 = .ok (.invokestatic 21, 3) := by decide +kernel
theorem dL_law_176 : decode cL_law 176 = .ok (.invokevirtual 40, 3) := by decide +kernel
theorem dL_law_179 : decode cL_law 179 = .ok (.ifCond .eq 56, 3) := by decide +kernel
theorem dL_law_182 : decode cL_law 182 = .ok (.aload_n 1, 1) := by decide +kernel
theorem dL_law_183 : decode cL_law 183 = .ok (.iload 5, 2) := by decide +kernel
theorem dL_law_185 : decode cL_law 185 = .ok (.iconst 4, 1) := by decide +kernel
theorem dL_law_186 : decode cL_law 186 = .ok (.ishr, 1) := by decide +kernel
theorem dL_law_187 : decode cL_law 187 = .ok (.aload_n 2, 1) := by decide +kernel
theorem dL_law_188 : decode cL_law 188 = .ok (.getfield 33, 3) := by decide +kernel
theorem dL_law_191 : decode cL_law 191 = .ok (.invokestatic 21, 3) := by decide +kernel
theorem dL_law_194 : decode cL_law 194 = .ok (.iconst 2, 1) := by decide +kernel
theorem dL_law_195 : decode cL_law 195 = .ok (.invokevirtual 44, 3) := by decide +kernel
theorem dL_law_198 : decode cL_law 198 = .ok (.ifCond .ge 37, 3) := by decide +kernel
theorem dL_law_201 : decode cL_law 201 = .ok (.iconst 0, 1) := by decide +kernel
theorem dL_law_202 : decode cL_law 202 = .ok (.ireturn, 1) := by decide +kernel
theorem dL_law_203 : decode cL_law 203 = .ok (.aload_n 2, 1) := by decide +kernel
theorem dL_law_204 : decode cL_law 204 = .ok (.aload_n 1, 1) := by decide +kernel
theorem dL_law_205 : decode cL_law 205 = .ok (.iload 5, 2) := by decide +kernel
theorem dL_law_207 : decode cL_law 207 = .ok (.bipush 16, 2) := by decide +kernel
theorem dL_law_209 : decode cL_law 209 = .ok (.invokestatic 21, 3) := by decide +kernel
theorem dL_law_212 : decode cL_law 212 = .ok (.bipush 16, 2) := by decide +kernel
theorem dL_law_214 : decode cL_law 214 = .ok (.iload 5, 2) := by decide +kernel
theorem dL_law_216 : decode cL_law 216 = .ok (.bipush 6, 2) := by decide +kernel
theorem dL_law_218 : decode cL_law 218 = .ok (.ishr, 1) := by decide +kernel
theorem dL_law_219 : decode cL_law 219 = .ok (.sipush 8191, 3) := by decide +kernel
theorem dL_law_222 : decode cL_law 222 = .ok (.iand, 1) := by decide +kernel
theorem dL_law_223 : decode cL_law 223 = .ok (.imul, 1) := by decide +kernel
theorem dL_law_224 : decode cL_law 224 = .ok (.iadd, 1) := by decide +kernel
theorem dL_law_225 : decode cL_law 225 = .ok (.bipush 16, 2) := by decide +kernel
theorem dL_law_227 : decode cL_law 227 = .ok (.invokevirtual 47, 3) := by decide +kernel
theorem dL_law_230 : decode cL_law 230 = .ok (.ifCond .ne 5, 3) := by decide +kernel
theorem dL_law_233 : decode cL_law 233 = .ok (.iconst 0, 1) := by decide +kernel
theorem dL_law_234 : decode cL_law 234 = .ok (.ireturn, 1) := by decide +kernel
theorem dL_law_235 : decode cL_law 235 = .ok (.aload_n 1, 1) := by decide +kernel
theorem dL_law_236 : decode cL_law 236 = .ok (.iconst 1, 1) := by decide +kernel
theorem dL_law_237 : decode cL_law 237 = .ok (.invokevirtual 29, 3) := by decide +kernel
theorem dL_law_240 : decode cL_law 240 = .ok (.iload 6, 2) := by decide +kernel
theorem dL_law_242 : decode cL_law 242 = .ok (.isub, 1) := by decide +kernel
theorem dL_law_243 : decode cL_law 243 = .ok (.invokestatic 51, 3) := by decide +kernel
theorem dL_law_246 : decode cL_law 246 = .ok (.iconst 1, 1) := by decide +kernel
theorem dL_law_247 : decode cL_law 247 = .ok (.if_icmp .gt 22, 3) := by decide +kernel
theorem dL_law_250 : decode cL_law 250 = .ok (.aload_n 1, 1) := by decide +kernel
theorem dL_law_251 : decode cL_law 251 = .ok (.iconst 2, 1) := by decide +kernel
theorem dL_law_252 : decode cL_law 252 = .ok (.invokevirtual 29, 3) := by decide +kernel
theorem dL_law_255 : decode cL_law 255 = .ok (.iload_n 3, 1) := by decide +kernel
theorem dL_law_256 : decode cL_law 256 = .ok (.if_icmp .lt 13, 3) := by decide +kernel
theorem dL_law_259 : decode cL_law 259 = .ok (.aload_n 1, 1) := by decide +kernel
theorem dL_law_260 : decode cL_law 260 = .ok (.iconst 2, 1) := by decide +kernel
theorem dL_law_261 : decode cL_law 261 = .ok (.invokevirtual 29, 3) := by decide +kernel
theorem dL_law_264 : decode cL_law 264 = .ok (.bipush 80, 2) := by decide +kernel
theorem dL_law_266 : decode cL_law 266 = .ok (.if_icmp .le 5, 3) := by decide +kernel
theorem dL_law_269 : decode cL_law 269 = .ok (.iconst 0, 1) := by decide +kernel
theorem dL_law_270 : decode cL_law 270 = .ok (.ireturn, 1) := by decide +kernel
theorem dL_law_271 : decode cL_law 271 = .ok (.aload_n 1, 1) := by decide +kernel
theorem dL_law_272 : decode cL_law 272 = .ok (.iconst 2, 1) := by decide +kernel
theorem dL_law_273 : decode cL_law 273 = .ok (.invokevirtual 29, 3) := by decide +kernel
theorem dL_law_276 : decode cL_law 276 = .ok (.istore_n 3, 1) := by decide +kernel
theorem dL_law_277 : decode cL_law 277 = .ok (.iload 4, 2) := by decide +kernel
theorem dL_law_279 : decode cL_law 279 = .ok (.bipush 12, 2) := by decide +kernel
theorem dL_law_281 : decode cL_law 281 = .ok (.irem, 1) := by decide +kernel
theorem dL_law_282 : decode cL_law 282 = .ok (.bipush 11, 2) := by decide +kernel
theorem dL_law_284 : decode cL_law 284 = .ok (.if_icmp .ne 13, 3) := by decide +kernel
theorem dL_law_287 : decode cL_law 287 = .ok (.aload_n 1, 1) := by decide +kernel
theorem dL_law_288 : decode cL_law 288 = .ok (.aload_n 2, 1) := by decide +kernel
theorem dL_law_289 : decode cL_law 289 = .ok (.invokestatic 56, 3) := by decide +kernel
theorem dL_law_292 : decode cL_law 292 = .ok (.ifCond .ne 5, 3) := by decide +kernel
theorem dL_law_295 : decode cL_law 295 = .ok (.iconst 0, 1) := by decide +kernel
theorem dL_law_296 : decode cL_law 296 = .ok (.ireturn, 1) := by decide +kernel
theorem dL_law_297 : decode cL_law 297 = .ok (.iinc 4 1, 3) := by decide +kernel
theorem dL_law_300 : decode cL_law 300 = .ok (.goto (-243), 3) := by decide +kernel
theorem dL_law_303 : decode cL_law 303 = .ok (.aload_n 1, 1) := by decide +kernel
theorem dL_law_304 : decode cL_law 304 = .ok (.invokevirtual 60, 3) := by decide +kernel
theorem dL_law_307 : decode cL_law 307 = .ok (.lstore 4, 2) := by decide +kernel
theorem dL_law_309 : decode cL_law 309 = .ok (.aload_n 1, 1) := by decide +kernel
theorem dL_law_310 : decode cL_law 310 = .ok (.iconst 0, 1) := by decide +kernel
theorem dL_law_311 : decode cL_law 311 = .ok (.iconst 0, 1) := by decide +kernel
theorem dL_law_312 : decode cL_law 312 = .ok (.invokevirtual 64, 3) := by decide +kernel
theorem dL_law_315 : decode cL_law 315 = .ok (.ifCond .ne 17, 3) := by decide +kernel
theorem dL_law_318 : decode cL_law 318 = .ok (.aload_n 1, 1) := by decide +kernel
theorem dL_law_319 : decode cL_law 319 = .ok (.invokevirtual 60, 3) := by decide +kernel
theorem dL_law_322 : decode cL_law 322 = .ok (.lload 4, 2) := by decide +kernel
theorem dL_law_324 : decode cL_law 324 = .ok (.lcmp, 1) := by decide +kernel
theorem dL_law_325 : decode cL_law 325 = .ok (.ifCond .ne 7, 3) := by decide +kernel
theorem dL_law_328 : decode cL_law 328 = .ok (.iconst 1, 1) := by decide +kernel
theorem dL_law_329 : decode cL_law 329 = .ok (.goto 4, 3) := by decide +kernel
theorem dL_law_332 : decode cL_law 332 = .ok (.iconst 0, 1) := by decide +kernel
theorem dL_law_333 : decode cL_law 333 = .ok (.ireturn, 1) := by decide +kernel
theorem dL_isRead_0 : decode cL_isRead 0 = .ok (.iload_n 2, 1) := by decide +kernel
theorem dL_isRead_1 : decode cL_isRead 1 = .ok (.iconst 4, 1) := by decide +kernel
theorem dL_isRead_2 : decode cL_isRead 2 = .ok (.ishr, 1) := by decide +kernel
theorem dL_isRead_3 : decode cL_isRead 3 = .ok (.aload_n 1, 1) := by decide +kernel
theorem dL_isRead_4 : decode cL_isRead 4 = .ok (.getfield 33, 3) := by decide +kernel
theorem dL_isRead_7 : decode cL_isRead 7 = .ok (.invokestatic 21, 3) := by decide +kernel
theorem dL_isRead_10 : decode cL_isRead 10 = .ok (.istore_n 3, 1) := by decide +kernel
theorem dL_isRead_11 : decode cL_isRead 11 = .ok (.iload_n 2, 1) := by decide +kernel
theorem dL_isRead_12 : decode cL_isRead 12 = .ok (.bipush 8, 2) := by decide +kernel
theorem dL_isRead_14 : decode cL_isRead 14 = .ok (.ishr, 1) := by decide +kernel
theorem dL_isRead_15 : decode cL_isRead 15 = .ok (.bipush 12, 2) := by decide +kernel
theorem dL_isRead_17 : decode cL_isRead 17 = .ok (.invokestatic 21, 3) := by decide +kernel
theorem dL_isRead_20 : decode cL_isRead 20 = .ok (.istore 4, 2) := by decide +kernel
theorem dL_isRead_22 : decode cL_isRead 22 = .ok (.iload_n 2, 1) := by decide +kernel
theorem dL_isRead_23 : decode cL_isRead 23 = .ok (.bipush 10, 2) := by decide +kernel
theorem dL_isRead_25 : decode cL_isRead 25 = .ok (.ishr, 1) := by decide +kernel
theorem dL_isRead_26 : decode cL_isRead 26 = .ok (.bipush 6, 2) := by decide +kernel
theorem dL_isRead_28 : decode cL_isRead 28 = .ok (.invokestatic 21, 3) := by decide +kernel
theorem dL_isRead_31 : decode cL_isRead 31 = .ok (.istore 5, 2) := by decide +kernel
theorem dL_isRead_33 : decode cL_isRead 33 = .ok (.aload_n 0, 1) := by decide +kernel
theorem dL_isRead_34 : decode cL_isRead 34 = .ok (.iload 5, 2) := by decide +kernel
theorem dL_isRead_36 : decode cL_isRead 36 = .ok (.iload_n 3, 1) := by decide +kernel
theorem dL_isRead_37 : decode cL_isRead 37 = .ok (.iload 4, 2) := by decide +kernel
theorem dL_isRead_39 : decode cL_isRead 39 = .ok (.invokevirtual 67, 3) := by decide +kernel
theorem dL_isRead_42 : decode cL_isRead 42 = .ok (.istore 6, 2) := by decide +kernel
theorem dL_isRead_44 : decode cL_isRead 44 = .ok (.aload_n 0, 1) := by decide +kernel
theorem dL_isRead_45 : decode cL_isRead 45 = .ok (.bipush 7, 2) := by decide +kernel
theorem dL_isRead_47 : decode cL_isRead 47 = .ok (.invokevirtual 29, 3) := by decide +kernel
theorem dL_isRead_50 : decode cL_isRead 50 = .ok (.istore 7, 2) := by decide +kernel
theorem dL_isRead_52 : decode cL_isRead 52 = .ok (.aload_n 0, 1) := by decide +kernel
theorem dL_isRead_53 : decode cL_isRead 53 = .ok (.iconst 5, 1) := by decide +kernel
theorem dL_isRead_54 : decode cL_isRead 54 = .ok (.invokevirtual 29, 3) := by decide +kernel
theorem dL_isRead_57 : decode cL_isRead 57 = .ok (.aload_n 0, 1) := by decide +kernel
theorem dL_isRead_58 : decode cL_isRead 58 = .ok (.bipush 6, 2) := by decide +kernel
theorem dL_isRead_60 : decode cL_isRead 60 = .ok (.invokevirtual 29, 3) := by decide +kernel
theorem dL_isRead_63 : decode cL_isRead 63 = .ok (.iadd, 1) := by decide +kernel
theorem dL_isRead_64 : decode cL_isRead 64 = .ok (.istore 8, 2) := by decide +kernel
theorem dL_isRead_66 : decode cL_isRead 66 = .ok (.aload_n 0, 1) := by decide +kernel
theorem dL_isRead_67 : decode cL_isRead 67 = .ok (.iload 5, 2) := by decide +kernel
theorem dL_isRead_69 : decode cL_isRead 69 = .ok (.iload_n 3, 1) := by decide +kernel
theorem dL_isRead_70 : decode cL_isRead 70 = .ok (.iload 4, 2) := by decide +kernel
theorem dL_isRead_72 : decode cL_isRead 72 = .ok (.invokevirtual 71, 3) := by decide +kernel
theorem dL_isRead_75 : decode cL_isRead 75 = .ok (.aload_n 1, 1) := by decide +kernel
theorem dL_isRead_76 : decode cL_isRead 76 = .ok (.iload_n 3, 1) := by decide +kernel
theorem dL_isRead_77 : decode cL_isRead 77 = .ok (.iload 4, 2) := by decide +kernel
theorem dL_isRead_79 : decode cL_isRead 79 = .ok (.bipush 6, 2) := by decide +kernel
theorem dL_isRead_81 : decode cL_isRead 81 = .ok (.invokevirtual 74, 3) := by decide +kernel
theorem dL_isRead_84 : decode cL_isRead 84 = .ok (.if_icmp .ne 57, 3) := by decide +kernel
theorem dL_isRead_87 : decode cL_isRead 87 = .ok (.aload_n 0, 1) := by decide +kernel
theorem dL_isRead_88 : decode cL_isRead 88 = .ok (.bipush 7, 2) := by decide +kernel
theorem dL_isRead_90 : decode cL_isRead 90 = .ok (.invokevirtual 29, 3) := by decide +kernel
theorem dL_isRead_93 : decode cL_isRead 93 = .ok (.iload 7, 2) := by decide +kernel
theorem dL_isRead_95 : decode cL_isRead 95 = .ok (.iload 6, 2) := by decide +kernel
theorem dL_isRead_97 : decode cL_isRead 97 = .ok (.iadd, 1) := by decide +kernel
theorem dL_isRead_98 : decode cL_isRead 98 = .ok (.if_icmp .ne 43, 3) := by decide +kernel
theorem dL_isRead_101 : decode cL_isRead 101 = .ok (.aload_n 0, 1) := by decide +kernel
theorem dL_isRead_102 : decode cL_isRead 102 = .ok (.iconst 5, 1) := by decide +kernel
theorem dL_isRead_103 : decode cL_isRead 103 = .ok (.invokevirtual 29, 3) := by decide +kernel
theorem dL_isRead_106 : decode cL_isRead 106 = .ok (.aload_n 0, 1) := by decide +kernel
theorem dL_isRead_107 : decode cL_isRead 107 = .ok (.bipush 6, 2) := by decide +kernel
theorem dL_isRead_109 : decode cL_isRead 109 = .ok (.invokevirtual 29, 3) := by decide +kernel
theorem dL_isRead_112 : decode cL_isRead 112 = .ok (.iadd, 1) := by decide +kernel
theorem dL_isRead_113 : decode cL_isRead 113 = .ok (.iload 8, 2) := by decide +kernel
theorem dL_isRead_115 : decode cL_isRead 115 = .ok (.iconst 1, 1) := by decide +kernel
theorem dL_isRead_116 : decode cL_isRead 116 = .ok (.iadd, 1) := by decide +kernel
theorem dL_isRead_117 : decode cL_isRead 117 = .ok (.if_icmp .ne 24, 3) := by decide +kernel
theorem dL_isRead_120 : decode cL_isRead 120 = .ok (.iload 6, 2) := by decide +kernel
theorem dL_isRead_122 : decode cL_isRead 122 = .ok (.ifCond .le 19, 3) := by decide +kernel
theorem dL_isRead_125 : decode cL_isRead 125 = .ok (.aload_n 0, 1) := by decide +kernel
theorem dL_isRead_126 : decode cL_isRead 126 = .ok (.iload 5, 2) := by decide +kernel
theorem dL_isRead_128 : decode cL_isRead 128 = .ok (.iconst 4, 1) := by decide +kernel
theorem dL_isRead_129 : decode cL_isRead 129 = .ok (.invokevirtual 77, 3) := by decide +kernel
theorem dL_isRead_132 : decode cL_isRead 132 = .ok (.iload 6, 2) := by decide +kernel
theorem dL_isRead_134 : decode cL_isRead 134 = .ok (.if_icmp .ne 7, 3) := by decide +kernel
theorem dL_isRead_137 : decode cL_isRead 137 = .ok (.iconst 1, 1) := by decide +kernel
theorem dL_isRead_138 : decode cL_isRead 138 = .ok (.goto 4, 3) := by decide +kernel
theorem dL_isRead_141 : decode cL_isRead 141 = .ok (.iconst 0, 1) := by decide +kernel
theorem dL_isRead_142 : decode cL_isRead 142 = .ok (.ireturn, 1) := by decide +kernel
theorem dL_isSo_0 : decode cL_isSo 0 = .ok (.iconst 4, 1) := by decide +kernel
theorem dL_isSo_1 : decode cL_isSo 1 = .ok (.aload_n 0, 1) := by decide +kernel
theorem dL_isSo_2 : decode cL_isSo 2 = .ok (.iconst 2, 1) := by decide +kernel
theorem dL_isSo_3 : decode cL_isSo 3 = .ok (.invokevirtual 29, 3) := by decide +kernel
theorem dL_isSo_6 : decode cL_isSo 6 = .ok (.imul, 1) := by decide +kernel
theorem dL_isSo_7 : decode cL_isSo 7 = .ok (.iconst 3, 1) := by decide +kernel
theorem dL_isSo_8 : decode cL_isSo 8 = .ok (.aload_n 0, 1) := by decide +kernel
theorem dL_isSo_9 : decode cL_isSo 9 = .ok (.iconst 4, 1) := by decide +kernel
theorem dL_isSo_10 : decode cL_isSo 10 = .ok (.invokevirtual 29, 3) := by decide +kernel
theorem dL_isSo_13 : decode cL_isSo 13 = .ok (.imul, 1) := by decide +kernel
theorem dL_isSo_14 : decode cL_isSo 14 = .ok (.iadd, 1) := by decide +kernel
theorem dL_isSo_15 : decode cL_isSo 15 = .ok (.istore_n 2, 1) := by decide +kernel
theorem dL_isSo_16 : decode cL_isSo 16 = .ok (.iconst 0, 1) := by decide +kernel
theorem dL_isSo_17 : decode cL_isSo 17 = .ok (.istore_n 3, 1) := by decide +kernel
theorem dL_isSo_18 : decode cL_isSo 18 = .ok (.iconst 0, 1) := by decide +kernel
theorem dL_isSo_19 : decode cL_isSo 19 = .ok (.istore 4, 2) := by decide +kernel
theorem dL_isSo_21 : decode cL_isSo 21 = .ok (.bipush 80, 2) := by decide +kernel
theorem dL_isSo_23 : decode cL_isSo 23 = .ok (.newarray .int, 2) := by decide +kernel
theorem dL_isSo_25 : decode cL_isSo 25 = .ok (.astore 5, 2) := by decide +kernel
theorem dL_isSo_27 : decode cL_isSo 27 = .ok (.iconst 0, 1) := by decide +kernel
theorem dL_isSo_28 : decode cL_isSo 28 = .ok (.istore 6, 2) := by decide +kernel
theorem dL_isSo_30 : decode cL_isSo 30 = .ok (.iload 6, 2) := by decide +kernel
theorem dL_isSo_32 : decode cL_isSo 32 = .ok (.aload_n 1, 1) := by decide +kernel
theorem dL_isSo_33 : decode cL_isSo 33 = .ok (.getfield 33, 3) := by decide +kernel
theorem dL_isSo_36 : decode cL_isSo 36 = .ok (.if_icmp .ge 316, 3) := by decide +kernel
theorem dL_isSo_39 : decode cL_isSo 39 = .ok (.aload_n 0, 1) := by decide +kernel
theorem dL_isSo_40 : decode cL_isSo 40 = .ok (.iload 6, 2) := by decide +kernel
theorem dL_isSo_42 : decode cL_isSo 42 = .ok (.iconst 2, 1) := by decide +kernel
theorem dL_isSo_43 : decode cL_isSo 43 = .ok (.invokevirtual 44, 3) := by decide +kernel
theorem dL_isSo_46 : decode cL_isSo 46 = .ok (.istore 7, 2) := by decide +kernel
theorem dL_isSo_48 : decode cL_isSo 48 = .ok (.iload_n 2, 1) := by decide +kernel
theorem dL_isSo_49 : decode cL_isSo 49 = .ok (.aload_n 0, 1) := by decide +kernel
theorem dL_isSo_50 : decode cL_isSo 50 = .ok (.iload 6, 2) := by decide +kernel
theorem dL_isSo_52 : decode cL_isSo 52 = .ok (.bipush 7, 2) := by decide +kernel
theorem dL_isSo_54 : decode cL_isSo 54 = .ok (.invokevirtual 44, 3) := by decide +kernel
theorem dL_isSo_57 : decode cL_isSo 57 = .ok (.iadd, 1) := by decide +kernel
theorem dL_isSo_58 : decode cL_isSo 58 = .ok (.istore_n 2, 1) := by decide +kernel
theorem dL_isSo_59 : decode cL_isSo 59 = .ok (.iload_n 3, 1) := by decide +kernel
theorem dL_isSo_60 : decode cL_isSo 60 = .ok (.aload_n 1, 1) := by decide +kernel
theorem dL_isSo_61 : decode cL_isSo 61 = .ok (.getfield 80, 3) := by decide +kernel
theorem dL_isSo_64 : decode cL_isSo 64 = .ok (.iload 6, 2) := by decide +kernel
theorem dL_isSo_66 : decode cL_isSo 66 = .ok (.iaload, 1) := by decide +kernel
theorem dL_isSo_67 : decode cL_isSo 67 = .ok (.iadd, 1) := by decide +kernel
theorem dL_isSo_68 : decode cL_isSo 68 = .ok (.istore_n 3, 1) := by decide +kernel
theorem dL_isSo_69 : decode cL_isSo 69 = .ok (.iload 4, 2) := by decide +kernel
theorem dL_isSo_71 : decode cL_isSo 71 = .ok (.iload 7, 2) := by decide +kernel
theorem dL_isSo_73 : decode cL_isSo 73 = .ok (.ifCond .ge 7, 3) := by decide +kernel
theorem dL_isSo_76 : decode cL_isSo 76 = .ok (.iconst 1, 1) := by decide +kernel
theorem dL_isSo_77 : decode cL_isSo 77 = .ok (.goto 4, 3) := by decide +kernel
theorem dL_isSo_80 : decode cL_isSo 80 = .ok (.iconst 0, 1) := by decide +kernel
theorem dL_isSo_81 : decode cL_isSo 81 = .ok (.iadd, 1) := by decide +kernel
theorem dL_isSo_82 : decode cL_isSo 82 = .ok (.istore 4, 2) := by decide +kernel
theorem dL_isSo_84 : decode cL_isSo 84 = .ok (.iload 7, 2) := by decide +kernel
theorem dL_isSo_86 : decode cL_isSo 86 = .ok (.ifCond .lt 12, 3) := by decide +kernel
theorem dL_isSo_89 : decode cL_isSo 89 = .ok (.aload 5, 2) := by decide +kernel
theorem dL_isSo_91 : decode cL_isSo 91 = .ok (.iload 7, 2) := by decide +kernel
theorem dL_isSo_93 : decode cL_isSo 93 = .ok (.dup2, 1) := by decide +kernel
theorem dL_isSo_94 : decode cL_isSo 94 = .ok (.iaload, 1) := by decide +kernel
theorem dL_isSo_95 : decode cL_isSo 95 = .ok (.iconst 1, 1) := by decide +kernel
theorem dL_isSo_96 : decode cL_isSo 96 = .ok (.iadd, 1) := by decide +kernel
theorem dL_isSo_97 : decode cL_isSo 97 = .ok (.iastore, 1) := by decide +kernel
theorem dL_isSo_98 : decode cL_isSo 98 = .ok (.aload_n 0, 1) := by decide +kernel
theorem dL_isSo_99 : decode cL_isSo 99 = .ok (.iload 6, 2) := by decide +kernel
theorem dL_isSo_101 : decode cL_isSo 101 = .ok (.iconst 0, 1) := by decide +kernel
theorem dL_isSo_102 : decode cL_isSo 102 = .ok (.invokevirtual 44, 3) := by decide +kernel
theorem dL_isSo_105 : decode cL_isSo 105 = .ok (.aload_n 1, 1) := by decide +kernel
theorem dL_isSo_106 : decode cL_isSo 106 = .ok (.getfield 84, 3) := by decide +kernel
theorem dL_isSo_109 : decode cL_isSo 109 = .ok (.iload 6, 2) := by decide +kernel
theorem dL_isSo_111 : decode cL_isSo 111 = .ok (.iaload, 1) := by decide +kernel
theorem dL_isSo_112 : decode cL_isSo 112 = .ok (.if_icmp .ne 97, 3) := by decide +kernel
theorem dL_isSo_115 : decode cL_isSo 115 = .ok (.aload_n 0, 1) := by decide +kernel
theorem dL_isSo_116 : decode cL_isSo 116 = .ok (.iload 6, 2) := by decide +kernel
theorem dL_isSo_118 : decode cL_isSo 118 = .ok (.iconst 1, 1) := by decide +kernel
theorem dL_isSo_119 : decode cL_isSo 119 = .ok (.invokevirtual 44, 3) := by decide +kernel
theorem dL_isSo_122 : decode cL_isSo 122 = .ok (.aload_n 1, 1) := by decide +kernel
theorem dL_isSo_123 : decode cL_isSo 123 = .ok (.getfield 80, 3) := by decide +kernel
theorem dL_isSo_126 : decode cL_isSo 126 = .ok (.iload 6, 2) := by decide +kernel
theorem dL_isSo_128 : decode cL_isSo 128 = .ok (.iaload, 1) := by decide +kernel
theorem dL_isSo_129 : decode cL_isSo 129 = .ok (.if_icmp .ne 80, 3) := by decide +kernel
theorem dL_isSo_132 : decode cL_isSo 132 = .ok (.aload_n 0, 1) := by decide +kernel
theorem dL_isSo_133 : decode cL_isSo 133 = .ok (.iload 6, 2) := by decide +kernel
theorem dL_isSo_135 : decode cL_isSo 135 = .ok (.iconst 3, 1) := by decide +kernel
theorem dL_isSo_136 : decode cL_isSo 136 = .ok (.invokevirtual 44, 3) := by decide +kernel
theorem dL_isSo_139 : decode cL_isSo 139 = .ok (.iconst 1, 1) := by decide +kernel
theorem dL_isSo_140 : decode cL_isSo 140 = .ok (.if_icmp .ne 7, 3) := by decide +kernel
theorem dL_isSo_143 : decode cL_isSo 143 = .ok (.iconst 1, 1) := by decide +kernel
theorem dL_isSo_144 : decode cL_isSo 144 = .ok (.goto 4, 3) := by decide +kernel
theorem dL_isSo_147 : decode cL_isSo 147 = .ok (.iconst 0, 1) := by decide +kernel
theorem dL_isSo_148 : decode cL_isSo 148 = .ok (.aload_n 1, 1) := by decide +kernel
theorem dL_isSo_149 : decode cL_isSo 149 = .ok (.getfield 87, 3) := by decide +kernel
theorem dL_isSo_152 : decode cL_isSo 152 = .ok (.iload 6, 2) := by decide +kernel
theorem dL_isSo_154 : decode cL_isSo 154 = .ok (.baload, 1) := by decide +kernel
theorem dL_isSo_155 : decode cL_isSo 155 = .ok (.if_icmp .ne 54, 3) := by decide +kernel
theorem dL_isSo_158 : decode cL_isSo 158 = .ok (.iload 7, 2) := by decide +kernel
theorem dL_isSo_160 : decode cL_isSo 160 = .ok (.ifCond .lt 51, 3) := by decide +kernel
theorem dL_isSo_163 : decode cL_isSo 163 = .ok (.aload_n 1, 1) := by decide +kernel
theorem dL_isSo_164 : decode cL_isSo 164 = .ok (.getfield 80, 3) := by decide +kernel
theorem dL_isSo_167 : decode cL_isSo 167 = .ok (.iload 6, 2) := by decide +kernel
theorem dL_isSo_169 : decode cL_isSo 169 = .ok (.iaload, 1) := by decide +kernel
theorem dL_isSo_170 : decode cL_isSo 170 = .ok (.bipush 8, 2) := by decide +kernel
theorem dL_isSo_172 : decode cL_isSo 172 = .ok (.if_icmp .gt 37, 3) := by decide +kernel
theorem dL_isSo_175 : decode cL_isSo 175 = .ok (.aload_n 0, 1) := by decide +kernel
theorem dL_isSo_176 : decode cL_isSo 176 = .ok (.iload 7, 2) := by decide +kernel
theorem dL_isSo_178 : decode cL_isSo 178 = .ok (.iconst 2, 1) := by decide +kernel
theorem dL_isSo_179 : decode cL_isSo 179 = .ok (.invokevirtual 91, 3) := by decide +kernel
theorem dL_isSo_182 : decode cL_isSo 182 = .ok (.aload_n 1, 1) := by decide +kernel
theorem dL_isSo_183 : decode cL_isSo 183 = .ok (.getfield 80, 3) := by decide +kernel
theorem dL_isSo_186 : decode cL_isSo 186 = .ok (.iload 6, 2) := by decide +kernel
theorem dL_isSo_188 : decode cL_isSo 188 = .ok (.iaload, 1) := by decide +kernel
theorem dL_isSo_189 : decode cL_isSo 189 = .ok (.if_icmp .ne 20, 3) := by decide +kernel
theorem dL_isSo_192 : decode cL_isSo 192 = .ok (.aload_n 0, 1) := by decide +kernel
theorem dL_isSo_193 : decode cL_isSo 193 = .ok (.iload 7, 2) := by decide +kernel
theorem dL_isSo_195 : decode cL_isSo 195 = .ok (.iconst 1, 1) := by decide +kernel
theorem dL_isSo_196 : decode cL_isSo 196 = .ok (.invokevirtual 91, 3) := by decide +kernel
theorem dL_isSo_199 : decode cL_isSo 199 = .ok (.aload_n 1, 1) := by decide +kernel
theorem dL_isSo_200 : decode cL_isSo 200 = .ok (.getfield 84, 3) := by decide +kernel
theorem dL_isSo_203 : decode cL_isSo 203 = .ok (.iload 6, 2) := by decide +kernel
theorem dL_isSo_205 : decode cL_isSo 205 = .ok (.iaload, 1) := by decide +kernel
theorem dL_isSo_206 : decode cL_isSo 206 = .ok (.if_icmp .eq 5, 3) := by decide +kernel
theorem dL_isSo_209 : decode cL_isSo 209 = .ok (.iconst 0, 1) := by decide +kernel
theorem dL_isSo_210 : decode cL_isSo 210 = .ok (.ireturn, 1) := by decide +kernel
theorem dL_isSo_211 : decode cL_isSo 211 = .ok (.aload_n 1, 1) := by decide +kernel
theorem dL_isSo_212 : decode cL_isSo 212 = .ok (.getfield 80, 3) := by decide +kernel
theorem dL_isSo_215 : decode cL_isSo 215 = .ok (.iload 6, 2) := by decide +kernel
theorem dL_isSo_217 : decode cL_isSo 217 = .ok (.iaload, 1) := by decide +kernel
theorem dL_isSo_218 : decode cL_isSo 218 = .ok (.iconst 1, 1) := by decide +kernel
theorem dL_isSo_219 : decode cL_isSo 219 = .ok (.isub, 1) := by decide +kernel
theorem dL_isSo_220 : decode cL_isSo 220 = .ok (.istore 8, 2) := by decide +kernel
theorem dL_isSo_222 : decode cL_isSo 222 = .ok (.iload 8, 2) := by decide +kernel
theorem dL_isSo_224 : decode cL_isSo 224 = .ok (.ifCond .lt 47, 3) := by decide +kernel
theorem dL_isSo_227 : decode cL_isSo 227 = .ok (.iload 7, 2) := by decide +kernel
theorem dL_isSo_229 : decode cL_isSo 229 = .ok (.ifCond .lt 42, 3) := by decide +kernel
theorem dL_isSo_232 : decode cL_isSo 232 = .ok (.aload_n 0, 1) := by decide +kernel
theorem dL_isSo_233 : decode cL_isSo 233 = .ok (.iload 7, 2) := by decide +kernel
theorem dL_isSo_235 : decode cL_isSo 235 = .ok (.iconst 3, 1) := by decide +kernel
theorem dL_isSo_236 : decode cL_isSo 236 = .ok (.invokevirtual 91, 3) := by decide +kernel
theorem dL_isSo_239 : decode cL_isSo 239 = .ok (.aload_n 1, 1) := by decide +kernel
theorem dL_isSo_240 : decode cL_isSo 240 = .ok (.getfield 94, 3) := by decide +kernel
theorem dL_isSo_243 : decode cL_isSo 243 = .ok (.iload 6, 2) := by decide +kernel
theorem dL_isSo_245 : decode cL_isSo 245 = .ok (.aaload, 1) := by decide +kernel
theorem dL_isSo_246 : decode cL_isSo 246 = .ok (.iload 8, 2) := by decide +kernel
theorem dL_isSo_248 : decode cL_isSo 248 = .ok (.aaload, 1) := by decide +kernel
theorem dL_isSo_249 : decode cL_isSo 249 = .ok (.iconst 0, 1) := by decide +kernel
theorem dL_isSo_250 : decode cL_isSo 250 = .ok (.iaload, 1) := by decide +kernel
theorem dL_isSo_251 : decode cL_isSo 251 = .ok (.if_icmp .eq 5, 3) := by decide +kernel
theorem dL_isSo_254 : decode cL_isSo 254 = .ok (.iconst 0, 1) := by decide +kernel
theorem dL_isSo_255 : decode cL_isSo 255 = .ok (.ireturn, 1) := by decide +kernel
theorem dL_isSo_256 : decode cL_isSo 256 = .ok (.aload_n 0, 1) := by decide +kernel
theorem dL_isSo_257 : decode cL_isSo 257 = .ok (.iload 7, 2) := by decide +kernel
theorem dL_isSo_259 : decode cL_isSo 259 = .ok (.iconst 0, 1) := by decide +kernel
theorem dL_isSo_260 : decode cL_isSo 260 = .ok (.invokevirtual 91, 3) := by decide +kernel
theorem dL_isSo_263 : decode cL_isSo 263 = .ok (.istore 7, 2) := by decide +kernel
theorem dL_isSo_265 : decode cL_isSo 265 = .ok (.iinc 8 (-1), 3) := by decide +kernel
theorem dL_isSo_268 : decode cL_isSo 268 = .ok (.goto (-46), 3) := by decide +kernel
theorem dL_isSo_271 : decode cL_isSo 271 = .ok (.iconst 0, 1) := by decide +kernel
theorem dL_isSo_272 : decode cL_isSo 272 = .ok (.istore 8, 2) := by decide +kernel
theorem dL_isSo_274 : decode cL_isSo 274 = .ok (.iload 8, 2) := by decide +kernel
theorem dL_isSo_276 : decode cL_isSo 276 = .ok (.bipush 12, 2) := by decide +kernel
theorem dL_isSo_278 : decode cL_isSo 278 = .ok (.if_icmp .ge 68, 3) := by decide +kernel
theorem dL_isSo_281 : decode cL_isSo 281 = .ok (.aload_n 0, 1) := by decide +kernel
theorem dL_isSo_282 : decode cL_isSo 282 = .ok (.iload 6, 2) := by decide +kernel
theorem dL_isSo_284 : decode cL_isSo 284 = .ok (.iload 8, 2) := by decide +kernel
theorem dL_isSo_286 : decode cL_isSo 286 = .ok (.invokevirtual 98, 3) := by decide +kernel
theorem dL_isSo_289 : decode cL_isSo 289 = .ok (.aload_n 1, 1) := by decide +kernel
theorem dL_isSo_290 : decode cL_isSo 290 = .ok (.iload 6, 2) := by decide +kernel
theorem dL_isSo_292 : decode cL_isSo 292 = .ok (.iload 8, 2) := by decide +kernel
theorem dL_isSo_294 : decode cL_isSo 294 = .ok (.bipush 6, 2) := by decide +kernel
theorem dL_isSo_296 : decode cL_isSo 296 = .ok (.invokevirtual 74, 3) := by decide +kernel
theorem dL_isSo_299 : decode cL_isSo 299 = .ok (.if_icmp .ne 39, 3) := by decide +kernel
theorem dL_isSo_302 : decode cL_isSo 302 = .ok (.aload_n 0, 1) := by decide +kernel
theorem dL_isSo_303 : decode cL_isSo 303 = .ok (.iload 6, 2) := by decide +kernel
theorem dL_isSo_305 : decode cL_isSo 305 = .ok (.iload 8, 2) := by decide +kernel
theorem dL_isSo_307 : decode cL_isSo 307 = .ok (.iconst 0, 1) := by decide +kernel
theorem dL_isSo_308 : decode cL_isSo 308 = .ok (.invokevirtual 100, 3) := by decide +kernel
theorem dL_isSo_311 : decode cL_isSo 311 = .ok (.ifCond .le 7, 3) := by decide +kernel
theorem dL_isSo_314 : decode cL_isSo 314 = .ok (.iconst 1, 1) := by decide +kernel
theorem dL_isSo_315 : decode cL_isSo 315 = .ok (.goto 4, 3) := by decide +kernel
theorem dL_isSo_318 : decode cL_isSo 318 = .ok (.iconst 0, 1) := by decide +kernel
theorem dL_isSo_319 : decode cL_isSo 319 = .ok (.aload_n 1, 1) := by decide +kernel
theorem dL_isSo_320 : decode cL_isSo 320 = .ok (.iload 6, 2) := by decide +kernel
theorem dL_isSo_322 : decode cL_isSo 322 = .ok (.iload 8, 2) := by decide +kernel
theorem dL_isSo_324 : decode cL_isSo 324 = .ok (.invokevirtual 103, 3) := by decide +kernel
theorem dL_isSo_327 : decode cL_isSo 327 = .ok (.ifCond .lt 7, 3) := by decide +kernel
theorem dL_isSo_330 : decode cL_isSo 330 = .ok (.iconst 1, 1) := by decide +kernel
theorem dL_isSo_331 : decode cL_isSo 331 = .ok (.goto 4, 3) := by decide +kernel
theorem dL_isSo_334 : decode cL_isSo 334 = .ok (.iconst 0, 1) := by decide +kernel
theorem dL_isSo_335 : decode cL_isSo 335 = .ok (.if_icmp .eq 5, 3) := by decide +kernel
theorem dL_isSo_338 : decode cL_isSo 338 = .ok (.iconst 0, 1) := by decide +kernel
theorem dL_isSo_339 : decode cL_isSo 339 = .ok (.ireturn, 1) := by decide +kernel
theorem dL_isSo_340 : decode cL_isSo 340 = .ok (.iinc 8 1, 3) := by decide +kernel
theorem dL_isSo_343 : decode cL_isSo 343 = .ok (.goto (-69), 3) := by decide +kernel
theorem dL_isSo_346 : decode cL_isSo 346 = .ok (.iinc 6 1, 3) := by decide +kernel
theorem dL_isSo_349 : decode cL_isSo 349 = .ok (.goto (-319), 3) := by decide +kernel
theorem dL_isSo_352 : decode cL_isSo 352 = .ok (.iconst 0, 1) := by decide +kernel
theorem dL_isSo_353 : decode cL_isSo 353 = .ok (.istore 6, 2) := by decide +kernel
theorem dL_isSo_355 : decode cL_isSo 355 = .ok (.iconst 0, 1) := by decide +kernel
theorem dL_isSo_356 : decode cL_isSo 356 = .ok (.istore 7, 2) := by decide +kernel
theorem dL_isSo_358 : decode cL_isSo 358 = .ok (.iload 7, 2) := by decide +kernel
theorem dL_isSo_360 : decode cL_isSo 360 = .ok (.aload_n 0, 1) := by decide +kernel
theorem dL_isSo_361 : decode cL_isSo 361 = .ok (.iconst 2, 1) := by decide +kernel
theorem dL_isSo_362 : decode cL_isSo 362 = .ok (.invokevirtual 29, 3) := by decide +kernel
theorem dL_isSo_365 : decode cL_isSo 365 = .ok (.if_icmp .ge 56, 3) := by decide +kernel
theorem dL_isSo_368 : decode cL_isSo 368 = .ok (.iload 6, 2) := by decide +kernel
theorem dL_isSo_370 : decode cL_isSo 370 = .ok (.aload 5, 2) := by decide +kernel
theorem dL_isSo_372 : decode cL_isSo 372 = .ok (.iload 7, 2) := by decide +kernel
theorem dL_isSo_374 : decode cL_isSo 374 = .ok (.iaload, 1) := by decide +kernel
theorem dL_isSo_375 : decode cL_isSo 375 = .ok (.ifCond .ne 7, 3) := by decide +kernel
theorem dL_isSo_378 : decode cL_isSo 378 = .ok (.iconst 1, 1) := by decide +kernel
theorem dL_isSo_379 : decode cL_isSo 379 = .ok (.goto 4, 3) := by decide +kernel
theorem dL_isSo_382 : decode cL_isSo 382 = .ok (.iconst 0, 1) := by decide +kernel
theorem dL_isSo_383 : decode cL_isSo 383 = .ok (.iadd, 1) := by decide +kernel
theorem dL_isSo_384 : decode cL_isSo 384 = .ok (.istore 6, 2) := by decide +kernel
theorem dL_isSo_386 : decode cL_isSo 386 = .ok (.aload_n 0, 1) := by decide +kernel
theorem dL_isSo_387 : decode cL_isSo 387 = .ok (.iload 7, 2) := by decide +kernel
theorem dL_isSo_389 : decode cL_isSo 389 = .ok (.iconst 5, 1) := by decide +kernel
theorem dL_isSo_390 : decode cL_isSo 390 = .ok (.invokevirtual 91, 3) := by decide +kernel
theorem dL_isSo_393 : decode cL_isSo 393 = .ok (.aload 5, 2) := by decide +kernel
theorem dL_isSo_395 : decode cL_isSo 395 = .ok (.iload 7, 2) := by decide +kernel
theorem dL_isSo_397 : decode cL_isSo 397 = .ok (.iaload, 1) := by decide +kernel
theorem dL_isSo_398 : decode cL_isSo 398 = .ok (.if_icmp .ne 15, 3) := by decide +kernel
theorem dL_isSo_401 : decode cL_isSo 401 = .ok (.aload_n 0, 1) := by decide +kernel
theorem dL_isSo_402 : decode cL_isSo 402 = .ok (.iload 7, 2) := by decide +kernel
theorem dL_isSo_404 : decode cL_isSo 404 = .ok (.iconst 2, 1) := by decide +kernel
theorem dL_isSo_405 : decode cL_isSo 405 = .ok (.invokevirtual 91, 3) := by decide +kernel
theorem dL_isSo_408 : decode cL_isSo 408 = .ok (.bipush 8, 2) := by decide +kernel
theorem dL_isSo_410 : decode cL_isSo 410 = .ok (.if_icmp .le 5, 3) := by decide +kernel
theorem dL_isSo_413 : decode cL_isSo 413 = .ok (.iconst 0, 1) := by decide +kernel
theorem dL_isSo_414 : decode cL_isSo 414 = .ok (.ireturn, 1) := by decide +kernel
theorem dL_isSo_415 : decode cL_isSo 415 = .ok (.iinc 7 1, 3) := by decide +kernel
theorem dL_isSo_418 : decode cL_isSo 418 = .ok (.goto (-60), 3) := by decide +kernel
theorem dL_isSo_421 : decode cL_isSo 421 = .ok (.aload_n 0, 1) := by decide +kernel
theorem dL_isSo_422 : decode cL_isSo 422 = .ok (.iconst 0, 1) := by decide +kernel
theorem dL_isSo_423 : decode cL_isSo 423 = .ok (.invokevirtual 29, 3) := by decide +kernel
theorem dL_isSo_426 : decode cL_isSo 426 = .ok (.aload_n 1, 1) := by decide +kernel
theorem dL_isSo_427 : decode cL_isSo 427 = .ok (.getfield 33, 3) := by decide +kernel
theorem dL_isSo_430 : decode cL_isSo 430 = .ok (.if_icmp .ne 55, 3) := by decide +kernel
theorem dL_isSo_433 : decode cL_isSo 433 = .ok (.aload_n 0, 1) := by decide +kernel
theorem dL_isSo_434 : decode cL_isSo 434 = .ok (.iconst 1, 1) := by decide +kernel
theorem dL_isSo_435 : decode cL_isSo 435 = .ok (.invokevirtual 29, 3) := by decide +kernel
theorem dL_isSo_438 : decode cL_isSo 438 = .ok (.iload_n 3, 1) := by decide +kernel
theorem dL_isSo_439 : decode cL_isSo 439 = .ok (.if_icmp .ne 46, 3) := by decide +kernel
theorem dL_isSo_442 : decode cL_isSo 442 = .ok (.aload_n 0, 1) := by decide +kernel
theorem dL_isSo_443 : decode cL_isSo 443 = .ok (.iconst 3, 1) := by decide +kernel
theorem dL_isSo_444 : decode cL_isSo 444 = .ok (.invokevirtual 29, 3) := by decide +kernel
theorem dL_isSo_447 : decode cL_isSo 447 = .ok (.iload 4, 2) := by decide +kernel
theorem dL_isSo_449 : decode cL_isSo 449 = .ok (.if_icmp .ne 36, 3) := by decide +kernel
theorem dL_isSo_452 : decode cL_isSo 452 = .ok (.aload_n 0, 1) := by decide +kernel
theorem dL_isSo_453 : decode cL_isSo 453 = .ok (.bipush 8, 2) := by decide +kernel
theorem dL_isSo_455 : decode cL_isSo 455 = .ok (.invokevirtual 29, 3) := by decide +kernel
theorem dL_isSo_458 : decode cL_isSo 458 = .ok (.iload_n 2, 1) := by decide +kernel
theorem dL_isSo_459 : decode cL_isSo 459 = .ok (.if_icmp .ne 26, 3) := by decide +kernel
theorem dL_isSo_462 : decode cL_isSo 462 = .ok (.aload_n 0, 1) := by decide +kernel
theorem dL_isSo_463 : decode cL_isSo 463 = .ok (.bipush 10, 2) := by decide +kernel
theorem dL_isSo_465 : decode cL_isSo 465 = .ok (.invokevirtual 29, 3) := by decide +kernel
theorem dL_isSo_468 : decode cL_isSo 468 = .ok (.iload 6, 2) := by decide +kernel
theorem dL_isSo_470 : decode cL_isSo 470 = .ok (.if_icmp .ne 15, 3) := by decide +kernel
theorem dL_isSo_473 : decode cL_isSo 473 = .ok (.aload_n 0, 1) := by decide +kernel
theorem dL_isSo_474 : decode cL_isSo 474 = .ok (.aload_n 1, 1) := by decide +kernel
theorem dL_isSo_475 : decode cL_isSo 475 = .ok (.invokestatic 106, 3) := by decide +kernel
theorem dL_isSo_478 : decode cL_isSo 478 = .ok (.ifCond .eq 7, 3) := by decide +kernel
theorem dL_isSo_481 : decode cL_isSo 481 = .ok (.iconst 1, 1) := by decide +kernel
theorem dL_isSo_482 : decode cL_isSo 482 = .ok (.goto 4, 3) := by decide +kernel
theorem dL_isSo_485 : decode cL_isSo 485 = .ok (.iconst 0, 1) := by decide +kernel
theorem dL_isSo_486 : decode cL_isSo 486 = .ok (.ireturn, 1) := by decide +kernel
theorem dL_arePlacesRight_0 : decode cL_arePlacesRight 0 = .ok (.iconst 0, 1) := by decide +kernel
theorem dL_arePlacesRight_1 : decode cL_arePlacesRight 1 = .ok (.istore_n 2, 1) := by decide +kernel
theorem dL_arePlacesRight_2 : decode cL_arePlacesRight 2 = .ok (.iconst 0, 1) := by decide +kernel
theorem dL_arePlacesRight_3 : decode cL_arePlacesRight 3 = .ok (.istore_n 3, 1) := by decide +kernel
theorem dL_arePlacesRight_4 : decode cL_arePlacesRight 4 = .ok (.iconst 0, 1) := by decide +kernel
theorem dL_arePlacesRight_5 : decode cL_arePlacesRight 5 = .ok (.istore 4, 2) := by decide +kernel
theorem dL_arePlacesRight_7 : decode cL_arePlacesRight 7 = .ok (.iload 4, 2) := by decide +kernel
theorem dL_arePlacesRight_9 : decode cL_arePlacesRight 9 = .ok (.bipush 6, 2) := by decide +kernel
theorem dL_arePlacesRight_11 : decode cL_arePlacesRight 11 = .ok (.if_icmp .ge 214, 3) := by decide +kernel
theorem dL_arePlacesRight_14 : decode cL_arePlacesRight 14 = .ok (.iload_n 2, 1) := by decide +kernel
theorem dL_arePlacesRight_15 : decode cL_arePlacesRight 15 = .ok (.aload_n 0, 1) := by decide +kernel
theorem dL_arePlacesRight_16 : decode cL_arePlacesRight 16 = .ok (.iload 4, 2) := by decide +kernel
theorem dL_arePlacesRight_18 : decode cL_arePlacesRight 18 = .ok (.iconst 0, 1) := by decide +kernel
theorem dL_arePlacesRight_19 : decode cL_arePlacesRight 19 = .ok (.invokevirtual 77, 3) := by decide +kernel
theorem dL_arePlacesRight_22 : decode cL_arePlacesRight 22 = .ok (.iadd, 1) := by decide +kernel
theorem dL_arePlacesRight_23 : decode cL_arePlacesRight 23 = .ok (.istore_n 2, 1) := by decide +kernel
theorem dL_arePlacesRight_24 : decode cL_arePlacesRight 24 = .ok (.iload_n 3, 1) := by decide +kernel
theorem dL_arePlacesRight_25 : decode cL_arePlacesRight 25 = .ok (.aload_n 0, 1) := by decide +kernel
theorem dL_arePlacesRight_26 : decode cL_arePlacesRight 26 = .ok (.iload 4, 2) := by decide +kernel
theorem dL_arePlacesRight_28 : decode cL_arePlacesRight 28 = .ok (.iconst 5, 1) := by decide +kernel
theorem dL_arePlacesRight_29 : decode cL_arePlacesRight 29 = .ok (.invokevirtual 77, 3) := by decide +kernel
theorem dL_arePlacesRight_32 : decode cL_arePlacesRight 32 = .ok (.iadd, 1) := by decide +kernel
theorem dL_arePlacesRight_33 : decode cL_arePlacesRight 33 = .ok (.istore_n 3, 1) := by decide +kernel
theorem dL_arePlacesRight_34 : decode cL_arePlacesRight 34 = .ok (.aload_n 0, 1) := by decide +kernel
theorem dL_arePlacesRight_35 : decode cL_arePlacesRight 35 = .ok (.iload 4, 2) := by decide +kernel
theorem dL_arePlacesRight_37 : decode cL_arePlacesRight 37 = .ok (.iconst 0, 1) := by decide +kernel
theorem dL_arePlacesRight_38 : decode cL_arePlacesRight 38 = .ok (.invokevirtual 77, 3) := by decide +kernel
theorem dL_arePlacesRight_41 : decode cL_arePlacesRight 41 = .ok (.iconst 3, 1) := by decide +kernel
theorem dL_arePlacesRight_42 : decode cL_arePlacesRight 42 = .ok (.if_icmp .gt 28, 3) := by decide +kernel
theorem dL_arePlacesRight_45 : decode cL_arePlacesRight 45 = .ok (.aload_n 0, 1) := by decide +kernel
theorem dL_arePlacesRight_46 : decode cL_arePlacesRight 46 = .ok (.iload 4, 2) := by decide +kernel
theorem dL_arePlacesRight_48 : decode cL_arePlacesRight 48 = .ok (.iconst 0, 1) := by decide +kernel
theorem dL_arePlacesRight_49 : decode cL_arePlacesRight 49 = .ok (.invokevirtual 77, 3) := by decide +kernel
theorem dL_arePlacesRight_52 : decode cL_arePlacesRight 52 = .ok (.aload_n 0, 1) := by decide +kernel
theorem dL_arePlacesRight_53 : decode cL_arePlacesRight 53 = .ok (.iload 4, 2) := by decide +kernel
theorem dL_arePlacesRight_55 : decode cL_arePlacesRight 55 = .ok (.iconst 5, 1) := by decide +kernel
theorem dL_arePlacesRight_56 : decode cL_arePlacesRight 56 = .ok (.invokevirtual 77, 3) := by decide +kernel
theorem dL_arePlacesRight_59 : decode cL_arePlacesRight 59 = .ok (.iadd, 1) := by decide +kernel
theorem dL_arePlacesRight_60 : decode cL_arePlacesRight 60 = .ok (.aload_n 0, 1) := by decide +kernel
theorem dL_arePlacesRight_61 : decode cL_arePlacesRight 61 = .ok (.iload 4, 2) := by decide +kernel
theorem dL_arePlacesRight_63 : decode cL_arePlacesRight 63 = .ok (.iconst 2, 1) := by decide +kernel
theorem dL_arePlacesRight_64 : decode cL_arePlacesRight 64 = .ok (.invokevirtual 77, 3) := by decide +kernel
theorem dL_arePlacesRight_67 : decode cL_arePlacesRight 67 = .ok (.if_icmp .le 5, 3) := by decide +kernel
theorem dL_arePlacesRight_70 : decode cL_arePlacesRight 70 = .ok (.iconst 0, 1) := by decide +kernel
theorem dL_arePlacesRight_71 : decode cL_arePlacesRight 71 = .ok (.ireturn, 1) := by decide +kernel
theorem dL_arePlacesRight_72 : decode cL_arePlacesRight 72 = .ok (.iconst 0, 1) := by decide +kernel
theorem dL_arePlacesRight_73 : decode cL_arePlacesRight 73 = .ok (.istore 5, 2) := by decide +kernel
theorem dL_arePlacesRight_75 : decode cL_arePlacesRight 75 = .ok (.iload 5, 2) := by decide +kernel
theorem dL_arePlacesRight_77 : decode cL_arePlacesRight 77 = .ok (.aload_n 0, 1) := by decide +kernel
theorem dL_arePlacesRight_78 : decode cL_arePlacesRight 78 = .ok (.iload 4, 2) := by decide +kernel
theorem dL_arePlacesRight_80 : decode cL_arePlacesRight 80 = .ok (.iconst 0, 1) := by decide +kernel
theorem dL_arePlacesRight_81 : decode cL_arePlacesRight 81 = .ok (.invokevirtual 77, 3) := by decide +kernel
theorem dL_arePlacesRight_84 : decode cL_arePlacesRight 84 = .ok (.if_icmp .ge 135, 3) := by decide +kernel
theorem dL_arePlacesRight_87 : decode cL_arePlacesRight 87 = .ok (.iconst 0, 1) := by decide +kernel
theorem dL_arePlacesRight_88 : decode cL_arePlacesRight 88 = .ok (.istore 6, 2) := by decide +kernel
theorem dL_arePlacesRight_90 : decode cL_arePlacesRight 90 = .ok (.iload 6, 2) := by decide +kernel
theorem dL_arePlacesRight_92 : decode cL_arePlacesRight 92 = .ok (.iload 5, 2) := by decide +kernel
theorem dL_arePlacesRight_94 : decode cL_arePlacesRight 94 = .ok (.if_icmp .ge 53, 3) := by decide +kernel
theorem dL_arePlacesRight_97 : decode cL_arePlacesRight 97 = .ok (.aload_n 0, 1) := by decide +kernel
theorem dL_arePlacesRight_98 : decode cL_arePlacesRight 98 = .ok (.iload 4, 2) := by decide +kernel
theorem dL_arePlacesRight_100 : decode cL_arePlacesRight 100 = .ok (.iload 6, 2) := by decide +kernel
theorem dL_arePlacesRight_102 : decode cL_arePlacesRight 102 = .ok (.iconst 0, 1) := by decide +kernel
theorem dL_arePlacesRight_103 : decode cL_arePlacesRight 103 = .ok (.invokevirtual 109, 3) := by decide +kernel
theorem dL_arePlacesRight_106 : decode cL_arePlacesRight 106 = .ok (.aload_n 0, 1) := by decide +kernel
theorem dL_arePlacesRight_107 : decode cL_arePlacesRight 107 = .ok (.iload 4, 2) := by decide +kernel
theorem dL_arePlacesRight_109 : decode cL_arePlacesRight 109 = .ok (.iload 5, 2) := by decide +kernel
theorem dL_arePlacesRight_111 : decode cL_arePlacesRight 111 = .ok (.iconst 0, 1) := by decide +kernel
theorem dL_arePlacesRight_112 : decode cL_arePlacesRight 112 = .ok (.invokevirtual 109, 3) := by decide +kernel
theorem dL_arePlacesRight_115 : decode cL_arePlacesRight 115 = .ok (.if_icmp .ne 26, 3) := by decide +kernel
theorem dL_arePlacesRight_118 : decode cL_arePlacesRight 118 = .ok (.aload_n 0, 1) := by decide +kernel
theorem dL_arePlacesRight_119 : decode cL_arePlacesRight 119 = .ok (.iload 4, 2) := by decide +kernel
theorem dL_arePlacesRight_121 : decode cL_arePlacesRight 121 = .ok (.iload 6, 2) := by decide +kernel
theorem dL_arePlacesRight_123 : decode cL_arePlacesRight 123 = .ok (.iconst 1, 1) := by decide +kernel
theorem dL_arePlacesRight_124 : decode cL_arePlacesRight 124 = .ok (.invokevirtual 109, 3) := by decide +kernel
theorem dL_arePlacesRight_127 : decode cL_arePlacesRight 127 = .ok (.aload_n 0, 1) := by decide +kernel
theorem dL_arePlacesRight_128 : decode cL_arePlacesRight 128 = .ok (.iload 4, 2) := by decide +kernel
theorem dL_arePlacesRight_130 : decode cL_arePlacesRight 130 = .ok (.iload 5, 2) := by decide +kernel
theorem dL_arePlacesRight_132 : decode cL_arePlacesRight 132 = .ok (.iconst 1, 1) := by decide +kernel
theorem dL_arePlacesRight_133 : decode cL_arePlacesRight 133 = .ok (.invokevirtual 109, 3) := by decide +kernel
theorem dL_arePlacesRight_136 : decode cL_arePlacesRight 136 = .ok (.if_icmp .ne 5, 3) := by decide +kernel
theorem dL_arePlacesRight_139 : decode cL_arePlacesRight 139 = .ok (.iconst 0, 1) := by decide +kernel
theorem dL_arePlacesRight_140 : decode cL_arePlacesRight 140 = .ok (.ireturn, 1) := by decide +kernel
theorem dL_arePlacesRight_141 : decode cL_arePlacesRight 141 = .ok (.iinc 6 1, 3) := by decide +kernel
theorem dL_arePlacesRight_144 : decode cL_arePlacesRight 144 = .ok (.goto (-54), 3) := by decide +kernel
theorem dL_arePlacesRight_147 : decode cL_arePlacesRight 147 = .ok (.iconst 0, 1) := by decide +kernel
theorem dL_arePlacesRight_148 : decode cL_arePlacesRight 148 = .ok (.istore 6, 2) := by decide +kernel
theorem dL_arePlacesRight_150 : decode cL_arePlacesRight 150 = .ok (.iload 6, 2) := by decide +kernel
theorem dL_arePlacesRight_152 : decode cL_arePlacesRight 152 = .ok (.aload_n 1, 1) := by decide +kernel
theorem dL_arePlacesRight_153 : decode cL_arePlacesRight 153 = .ok (.getfield 33, 3) := by decide +kernel
theorem dL_arePlacesRight_156 : decode cL_arePlacesRight 156 = .ok (.if_icmp .ge 57, 3) := by decide +kernel
theorem dL_arePlacesRight_159 : decode cL_arePlacesRight 159 = .ok (.aload_n 0, 1) := by decide +kernel
theorem dL_arePlacesRight_160 : decode cL_arePlacesRight 160 = .ok (.iload 6, 2) := by decide +kernel
theorem dL_arePlacesRight_162 : decode cL_arePlacesRight 162 = .ok (.iconst 2, 1) := by decide +kernel
theorem dL_arePlacesRight_163 : decode cL_arePlacesRight 163 = .ok (.invokevirtual 44, 3) := by decide +kernel
theorem dL_arePlacesRight_166 : decode cL_arePlacesRight 166 = .ok (.aload_n 0, 1) := by decide +kernel
theorem dL_arePlacesRight_167 : decode cL_arePlacesRight 167 = .ok (.iload 4, 2) := by decide +kernel
theorem dL_arePlacesRight_169 : decode cL_arePlacesRight 169 = .ok (.iload 5, 2) := by decide +kernel
theorem dL_arePlacesRight_171 : decode cL_arePlacesRight 171 = .ok (.iconst 0, 1) := by decide +kernel
theorem dL_arePlacesRight_172 : decode cL_arePlacesRight 172 = .ok (.invokevirtual 109, 3) := by decide +kernel
theorem dL_arePlacesRight_175 : decode cL_arePlacesRight 175 = .ok (.if_icmp .ne 32, 3) := by decide +kernel
theorem dL_arePlacesRight_178 : decode cL_arePlacesRight 178 = .ok (.aload_n 0, 1) := by decide +kernel
theorem dL_arePlacesRight_179 : decode cL_arePlacesRight 179 = .ok (.iload 4, 2) := by decide +kernel
theorem dL_arePlacesRight_181 : decode cL_arePlacesRight 181 = .ok (.iload 5, 2) := by decide +kernel
theorem dL_arePlacesRight_183 : decode cL_arePlacesRight 183 = .ok (.iconst 2, 1) := by decide +kernel
theorem dL_arePlacesRight_184 : decode cL_arePlacesRight 184 = .ok (.invokevirtual 109, 3) := by decide +kernel
theorem dL_arePlacesRight_187 : decode cL_arePlacesRight 187 = .ok (.aload_n 1, 1) := by decide +kernel
theorem dL_arePlacesRight_188 : decode cL_arePlacesRight 188 = .ok (.iload 6, 2) := by decide +kernel
theorem dL_arePlacesRight_190 : decode cL_arePlacesRight 190 = .ok (.aload_n 0, 1) := by decide +kernel
theorem dL_arePlacesRight_191 : decode cL_arePlacesRight 191 = .ok (.iload 4, 2) := by decide +kernel
theorem dL_arePlacesRight_193 : decode cL_arePlacesRight 193 = .ok (.iload 5, 2) := by decide +kernel
theorem dL_arePlacesRight_195 : decode cL_arePlacesRight 195 = .ok (.iconst 1, 1) := by decide +kernel
theorem dL_arePlacesRight_196 : decode cL_arePlacesRight 196 = .ok (.invokevirtual 109, 3) := by decide +kernel
theorem dL_arePlacesRight_199 : decode cL_arePlacesRight 199 = .ok (.invokevirtual 112, 3) := by decide +kernel
theorem dL_arePlacesRight_202 : decode cL_arePlacesRight 202 = .ok (.if_icmp .eq 5, 3) := by decide +kernel
theorem dL_arePlacesRight_205 : decode cL_arePlacesRight 205 = .ok (.iconst 0, 1) := by decide +kernel
theorem dL_arePlacesRight_206 : decode cL_arePlacesRight 206 = .ok (.ireturn, 1) := by decide +kernel
theorem dL_arePlacesRight_207 : decode cL_arePlacesRight 207 = .ok (.iinc 6 1, 3) := by decide +kernel
theorem dL_arePlacesRight_210 : decode cL_arePlacesRight 210 = .ok (.goto (-60), 3) := by decide +kernel
theorem dL_arePlacesRight_213 : decode cL_arePlacesRight 213 = .ok (.iinc 5 1, 3) := by decide +kernel
theorem dL_arePlacesRight_216 : decode cL_arePlacesRight 216 = .ok (.goto (-141), 3) := by decide +kernel
theorem dL_arePlacesRight_219 : decode cL_arePlacesRight 219 = .ok (.iinc 4 1, 3) := by decide +kernel
theorem dL_arePlacesRight_222 : decode cL_arePlacesRight 222 = .ok (.goto (-215), 3) := by decide +kernel
theorem dL_arePlacesRight_225 : decode cL_arePlacesRight 225 = .ok (.aload_n 0, 1) := by decide +kernel
theorem dL_arePlacesRight_226 : decode cL_arePlacesRight 226 = .ok (.iconst 4, 1) := by decide +kernel
theorem dL_arePlacesRight_227 : decode cL_arePlacesRight 227 = .ok (.invokevirtual 29, 3) := by decide +kernel
theorem dL_arePlacesRight_230 : decode cL_arePlacesRight 230 = .ok (.iload_n 2, 1) := by decide +kernel
theorem dL_arePlacesRight_231 : decode cL_arePlacesRight 231 = .ok (.if_icmp .ne 17, 3) := by decide +kernel
theorem dL_arePlacesRight_234 : decode cL_arePlacesRight 234 = .ok (.aload_n 0, 1) := by decide +kernel
theorem dL_arePlacesRight_235 : decode cL_arePlacesRight 235 = .ok (.bipush 9, 2) := by decide +kernel
theorem dL_arePlacesRight_237 : decode cL_arePlacesRight 237 = .ok (.invokevirtual 29, 3) := by decide +kernel
theorem dL_arePlacesRight_240 : decode cL_arePlacesRight 240 = .ok (.iload_n 3, 1) := by decide +kernel
theorem dL_arePlacesRight_241 : decode cL_arePlacesRight 241 = .ok (.if_icmp .ne 7, 3) := by decide +kernel
theorem dL_arePlacesRight_244 : decode cL_arePlacesRight 244 = .ok (.iconst 1, 1) := by decide +kernel
theorem dL_arePlacesRight_245 : decode cL_arePlacesRight 245 = .ok (.goto 4, 3) := by decide +kernel
theorem dL_arePlacesRight_248 : decode cL_arePlacesRight 248 = .ok (.iconst 0, 1) := by decide +kernel
theorem dL_arePlacesRight_249 : decode cL_arePlacesRight 249 = .ok (.ireturn, 1) := by decide +kernel
