/-! the law and its helpers: rows of the small machine -/
theorem cd301_0 : code9 301 0 = some (0, .aload_n 3, [1], .null, []) := rfl
theorem cd301_1 : code9 301 1 = some (0, .iconst 0, [1], .int 0, []) := rfl
theorem cd301_2 : code9 301 2 = some (0, .aload_n 0, [1], .null, []) := rfl
theorem cd301_3 : code9 301 3 = some (0, .iload_n 1, [1], .null, []) := rfl
theorem cd301_4 : code9 301 4 = some (0, .iload_n 2, [1], .null, []) := rfl
theorem cd301_5 : code9 301 5 = some (0, .invokevirtual 7, [3, 165, 3, 1, 1, 3, 11, 14], .null, []) := rfl
theorem cd301_8 : code9 301 8 = some (0, .i2l, [1], .null, []) := rfl
theorem cd301_9 : code9 301 9 = some (0, .lastore, [1], .null, []) := rfl
theorem cd301_10 : code9 301 10 = some (0, .goto 7, [3, 17, 4], .null, []) := rfl
theorem cd301_13 : code9 301 13 = some (5, .astore 4, [2], .null, []) := rfl
theorem cd301_15 : code9 301 15 = some (0, .iconst 1, [1], .int 1, []) := rfl
theorem cd301_16 : code9 301 16 = some (0, .ireturn, [1, 1], .null, []) := rfl
theorem cd301_17 : code9 301 17 = some (0, .iconst 0, [1], .int 0, []) := rfl
theorem cd301_18 : code9 301 18 = some (0, .ireturn, [1, 1], .null, []) := rfl
theorem cd302_0 : code9 302 0 = some (0, .aload_n 3, [1], .null, []) := rfl
theorem cd302_1 : code9 302 1 = some (0, .iconst 0, [1], .int 0, []) := rfl
theorem cd302_2 : code9 302 2 = some (0, .aload_n 0, [1], .null, []) := rfl
theorem cd302_3 : code9 302 3 = some (0, .iload_n 1, [1], .null, []) := rfl
theorem cd302_4 : code9 302 4 = some (0, .iload_n 2, [1], .null, []) := rfl
theorem cd302_5 : code9 302 5 = some (0, .invokevirtual 15, [3, 166, 3, 1, 2, 3, 11, 13], .null, []) := rfl
theorem cd302_8 : code9 302 8 = some (0, .lastore, [1], .null, []) := rfl
theorem cd302_9 : code9 302 9 = some (0, .goto 7, [3, 16, 4], .null, []) := rfl
theorem cd302_12 : code9 302 12 = some (5, .astore 4, [2], .null, []) := rfl
theorem cd302_14 : code9 302 14 = some (0, .iconst 1, [1], .int 1, []) := rfl
theorem cd302_15 : code9 302 15 = some (0, .ireturn, [1, 1], .null, []) := rfl
theorem cd302_16 : code9 302 16 = some (0, .iconst 0, [1], .int 0, []) := rfl
theorem cd302_17 : code9 302 17 = some (0, .ireturn, [1, 1], .null, []) := rfl
theorem cd303_0 : code9 303 0 = some (0, .aload_n 3, [1], .null, []) := rfl
theorem cd303_1 : code9 303 1 = some (0, .iconst 0, [1], .int 0, []) := rfl
theorem cd303_2 : code9 303 2 = some (0, .aload_n 0, [1], .null, []) := rfl
theorem cd303_3 : code9 303 3 = some (0, .iload_n 1, [1], .null, []) := rfl
theorem cd303_4 : code9 303 4 = some (0, .iload_n 2, [1], .null, []) := rfl
theorem cd303_5 : code9 303 5 = some (0, .invokevirtual 19, [3, 167, 3, 1, 2, 3, 11, 13], .null, []) := rfl
theorem cd303_8 : code9 303 8 = some (0, .lastore, [1], .null, []) := rfl
theorem cd303_9 : code9 303 9 = some (0, .goto 7, [3, 16, 4], .null, []) := rfl
theorem cd303_12 : code9 303 12 = some (5, .astore 4, [2], .null, []) := rfl
theorem cd303_14 : code9 303 14 = some (0, .iconst 1, [1], .int 1, []) := rfl
theorem cd303_15 : code9 303 15 = some (0, .ireturn, [1, 1], .null, []) := rfl
theorem cd303_16 : code9 303 16 = some (0, .iconst 0, [1], .int 0, []) := rfl
theorem cd303_17 : code9 303 17 = some (0, .ireturn, [1, 1], .null, []) := rfl
theorem cd304_0 : code9 304 0 = some (0, .aload_n 3, [1], .null, []) := rfl
theorem cd304_1 : code9 304 1 = some (0, .iconst 0, [1], .int 0, []) := rfl
theorem cd304_2 : code9 304 2 = some (0, .aload_n 0, [1], .null, []) := rfl
theorem cd304_3 : code9 304 3 = some (0, .iload_n 1, [1], .null, []) := rfl
theorem cd304_4 : code9 304 4 = some (0, .iload_n 2, [1], .null, []) := rfl
theorem cd304_5 : code9 304 5 = some (0, .invokevirtual 22, [3, 168, 3, 1, 2, 5, 11, 13], .null, []) := rfl
theorem cd304_8 : code9 304 8 = some (0, .lastore, [1], .null, []) := rfl
theorem cd304_9 : code9 304 9 = some (0, .goto 7, [3, 16, 4], .null, []) := rfl
theorem cd304_12 : code9 304 12 = some (5, .astore 4, [2], .null, []) := rfl
theorem cd304_14 : code9 304 14 = some (0, .iconst 1, [1], .int 1, []) := rfl
theorem cd304_15 : code9 304 15 = some (0, .ireturn, [1, 1], .null, []) := rfl
theorem cd304_16 : code9 304 16 = some (0, .iconst 0, [1], .int 0, []) := rfl
theorem cd304_17 : code9 304 17 = some (0, .ireturn, [1, 1], .null, []) := rfl
theorem cd305_0 : code9 305 0 = some (0, .new 8, [3, 11, 20, 0], .null, []) := rfl
theorem cd305_3 : code9 305 3 = some (0, .dup, [1], .null, []) := rfl
theorem cd305_4 : code9 305 4 = some (0, .invokespecial 25, [3, 122, 1, 1, 0, 1, 11, 0], .null, []) := rfl
theorem cd305_7 : code9 305 7 = some (0, .astore_n 1, [1], .null, []) := rfl
theorem cd305_8 : code9 305 8 = some (0, .new 26, [3, 12, 46, 0], .null, []) := rfl
theorem cd305_11 : code9 305 11 = some (0, .dup, [1], .null, []) := rfl
theorem cd305_12 : code9 305 12 = some (0, .invokespecial 28, [3, 173, 1, 1, 0, 2, 12, 0], .null, []) := rfl
theorem cd305_15 : code9 305 15 = some (0, .astore_n 2, [1], .null, []) := rfl
theorem cd305_16 : code9 305 16 = some (0, .iconst 1, [1], .int 1, []) := rfl
theorem cd305_17 : code9 305 17 = some (0, .newarray .long, [2, 4], .null, []) := rfl
theorem cd305_19 : code9 305 19 = some (0, .astore_n 3, [1], .null, []) := rfl
theorem cd305_20 : code9 305 20 = some (0, .iconst 0, [1], .int 0, []) := rfl
theorem cd305_21 : code9 305 21 = some (0, .istore 4, [2], .null, []) := rfl
theorem cd305_23 : code9 305 23 = some (6, .iload 4, [2], .null, []) := rfl
theorem cd305_25 : code9 305 25 = some (0, .aload_n 0, [1], .null, []) := rfl
theorem cd305_26 : code9 305 26 = some (0, .arraylength, [1], .null, []) := rfl
theorem cd305_27 : code9 305 27 = some (0, .bipush 6, [2], .int 6, []) := rfl
theorem cd305_29 : code9 305 29 = some (0, .isub, [1], .null, []) := rfl
theorem cd305_30 : code9 305 30 = some (0, .if_icmp .gt 1527, [3, 1557], .null, []) := rfl
theorem cd305_33 : code9 305 33 = some (0, .aload_n 0, [1], .null, []) := rfl
theorem cd305_34 : code9 305 34 = some (0, .iload 4, [2], .null, []) := rfl
theorem cd305_36 : code9 305 36 = some (0, .iaload, [1], .null, []) := rfl
theorem cd305_37 : code9 305 37 = some (0, .bipush 63, [2], .int 63, []) := rfl
theorem cd305_39 : code9 305 39 = some (0, .iand, [1], .null, []) := rfl
theorem cd305_40 : code9 305 40 = some (0, .tableswitch 1511 0 41 #[184, 257, 282, 295, 308, 376, 413, 462, 487, 536, 561, 586, 635, 672, 697, 734, 747, 814, 827, 894, 907, 974, 999, 1048, 1073, 1086, 1147, 1160, 1197, 1210, 1223, 1236, 1249, 1274, 1299, 1348, 1373, 1398, 1411, 1436, 1461, 1486], [184, 1551], .null, [(0, 224), (1, 297), (2, 322), (3, 335), (4, 348), (5, 416), (6, 453), (7, 502), (8, 527), (9, 576), (10, 601), (11, 626), (12, 675), (13, 712), (14, 737), (15, 774), (16, 787), (17, 854), (18, 867), (19, 934), (20, 947), (21, 1014), (22, 1039), (23, 1088), (24, 1113), (25, 1126), (26, 1187), (27, 1200), (28, 1237), (29, 1250), (30, 1263), (31, 1276), (32, 1289), (33, 1314), (34, 1339), (35, 1388), (36, 1413), (37, 1438), (38, 1451), (39, 1476), (40, 1501), (41, 1526)]) := rfl
theorem cd305_224 : code9 305 224 = some (0, .aload_n 1, [1], .null, []) := rfl
theorem cd305_225 : code9 305 225 = some (0, .aload_n 0, [1], .null, []) := rfl
theorem cd305_226 : code9 305 226 = some (0, .iload 4, [2], .null, []) := rfl
theorem cd305_228 : code9 305 228 = some (0, .iconst 1, [1], .int 1, []) := rfl
theorem cd305_229 : code9 305 229 = some (0, .iadd, [1], .null, []) := rfl
theorem cd305_230 : code9 305 230 = some (0, .iaload, [1], .null, []) := rfl
theorem cd305_231 : code9 305 231 = some (0, .aload_n 0, [1], .null, []) := rfl
theorem cd305_232 : code9 305 232 = some (0, .iload 4, [2], .null, []) := rfl
theorem cd305_234 : code9 305 234 = some (0, .iconst 2, [1], .int 2, []) := rfl
theorem cd305_235 : code9 305 235 = some (0, .iadd, [1], .null, []) := rfl
theorem cd305_236 : code9 305 236 = some (0, .iaload, [1], .null, []) := rfl
theorem cd305_237 : code9 305 237 = some (0, .aload_n 0, [1], .null, []) := rfl
theorem cd305_238 : code9 305 238 = some (0, .iload 4, [2], .null, []) := rfl
theorem cd305_240 : code9 305 240 = some (0, .iconst 3, [1], .int 3, []) := rfl
theorem cd305_241 : code9 305 241 = some (0, .iadd, [1], .null, []) := rfl
theorem cd305_242 : code9 305 242 = some (0, .iaload, [1], .null, []) := rfl
theorem cd305_243 : code9 305 243 = some (0, .aload_n 0, [1], .null, []) := rfl
theorem cd305_244 : code9 305 244 = some (0, .iload 4, [2], .null, []) := rfl
theorem cd305_246 : code9 305 246 = some (0, .iconst 4, [1], .int 4, []) := rfl
theorem cd305_247 : code9 305 247 = some (0, .iadd, [1], .null, []) := rfl
theorem cd305_248 : code9 305 248 = some (0, .iaload, [1], .null, []) := rfl
theorem cd305_249 : code9 305 249 = some (0, .aload_n 0, [1], .null, []) := rfl
theorem cd305_250 : code9 305 250 = some (0, .iload 4, [2], .null, []) := rfl
theorem cd305_252 : code9 305 252 = some (0, .iconst 5, [1], .int 5, []) := rfl
theorem cd305_253 : code9 305 253 = some (0, .iadd, [1], .null, []) := rfl
theorem cd305_254 : code9 305 254 = some (0, .iaload, [1], .null, []) := rfl
theorem cd305_255 : code9 305 255 = some (0, .invokevirtual 29, [3, 123, 6, 1, 1, 6, 11, 0], .null, []) := rfl
theorem cd305_258 : code9 305 258 = some (0, .aload_n 2, [1], .null, []) := rfl
theorem cd305_259 : code9 305 259 = some (0, .aload_n 0, [1], .null, []) := rfl
theorem cd305_260 : code9 305 260 = some (0, .iload 4, [2], .null, []) := rfl
theorem cd305_262 : code9 305 262 = some (0, .iconst 1, [1], .int 1, []) := rfl
theorem cd305_263 : code9 305 263 = some (0, .iadd, [1], .null, []) := rfl
theorem cd305_264 : code9 305 264 = some (0, .iaload, [1], .null, []) := rfl
theorem cd305_265 : code9 305 265 = some (0, .aload_n 0, [1], .null, []) := rfl
theorem cd305_266 : code9 305 266 = some (0, .iload 4, [2], .null, []) := rfl
theorem cd305_268 : code9 305 268 = some (0, .iconst 2, [1], .int 2, []) := rfl
theorem cd305_269 : code9 305 269 = some (0, .iadd, [1], .null, []) := rfl
theorem cd305_270 : code9 305 270 = some (0, .iaload, [1], .null, []) := rfl
theorem cd305_271 : code9 305 271 = some (0, .aload_n 0, [1], .null, []) := rfl
theorem cd305_272 : code9 305 272 = some (0, .iload 4, [2], .null, []) := rfl
theorem cd305_274 : code9 305 274 = some (0, .iconst 3, [1], .int 3, []) := rfl
theorem cd305_275 : code9 305 275 = some (0, .iadd, [1], .null, []) := rfl
theorem cd305_276 : code9 305 276 = some (0, .iaload, [1], .null, []) := rfl
theorem cd305_277 : code9 305 277 = some (0, .aload_n 0, [1], .null, []) := rfl
theorem cd305_278 : code9 305 278 = some (0, .iload 4, [2], .null, []) := rfl
theorem cd305_280 : code9 305 280 = some (0, .iconst 4, [1], .int 4, []) := rfl
theorem cd305_281 : code9 305 281 = some (0, .iadd, [1], .null, []) := rfl
theorem cd305_282 : code9 305 282 = some (0, .iaload, [1], .null, []) := rfl
theorem cd305_283 : code9 305 283 = some (0, .aload_n 0, [1], .null, []) := rfl
theorem cd305_284 : code9 305 284 = some (0, .iload 4, [2], .null, []) := rfl
theorem cd305_286 : code9 305 286 = some (0, .iconst 5, [1], .int 5, []) := rfl
theorem cd305_287 : code9 305 287 = some (0, .iadd, [1], .null, []) := rfl
theorem cd305_288 : code9 305 288 = some (0, .iaload, [1], .null, []) := rfl
theorem cd305_289 : code9 305 289 = some (0, .invokevirtual 33, [3, 170, 6, 1, 1, 6, 12, 0], .null, []) := rfl
theorem cd305_292 : code9 305 292 = some (0, .if_icmp .eq 1259, [3, 1551], .null, []) := rfl
theorem cd305_295 : code9 305 295 = some (0, .iconst 0, [1], .int 0, []) := rfl
theorem cd305_296 : code9 305 296 = some (0, .ireturn, [1, 3], .null, []) := rfl
theorem cd305_297 : code9 305 297 = some (0, .aload_n 1, [1], .null, []) := rfl
theorem cd305_298 : code9 305 298 = some (0, .aload_n 0, [1], .null, []) := rfl
theorem cd305_299 : code9 305 299 = some (0, .iload 4, [2], .null, []) := rfl
theorem cd305_301 : code9 305 301 = some (0, .iconst 1, [1], .int 1, []) := rfl
theorem cd305_302 : code9 305 302 = some (0, .iadd, [1], .null, []) := rfl
theorem cd305_303 : code9 305 303 = some (0, .iaload, [1], .null, []) := rfl
theorem cd305_304 : code9 305 304 = some (0, .invokevirtual 34, [3, 124, 2, 1, 3, 2, 11, 0], .null, []) := rfl
theorem cd305_307 : code9 305 307 = some (0, .aload_n 2, [1], .null, []) := rfl
theorem cd305_308 : code9 305 308 = some (0, .aload_n 0, [1], .null, []) := rfl
theorem cd305_309 : code9 305 309 = some (0, .iload 4, [2], .null, []) := rfl
theorem cd305_311 : code9 305 311 = some (0, .iconst 1, [1], .int 1, []) := rfl
theorem cd305_312 : code9 305 312 = some (0, .iadd, [1], .null, []) := rfl
theorem cd305_313 : code9 305 313 = some (0, .iaload, [1], .null, []) := rfl
theorem cd305_314 : code9 305 314 = some (0, .invokevirtual 38, [3, 172, 2, 1, 3, 2, 12, 0], .null, []) := rfl
theorem cd305_317 : code9 305 317 = some (0, .if_icmp .eq 1234, [3, 1551], .null, []) := rfl
theorem cd305_320 : code9 305 320 = some (0, .iconst 0, [1], .int 0, []) := rfl
theorem cd305_321 : code9 305 321 = some (0, .ireturn, [1, 3], .null, []) := rfl
theorem cd305_322 : code9 305 322 = some (0, .aload_n 1, [1], .null, []) := rfl
theorem cd305_323 : code9 305 323 = some (0, .invokevirtual 39, [3, 125, 1, 1, 1, 3, 11, 0], .null, []) := rfl
theorem cd305_326 : code9 305 326 = some (0, .aload_n 2, [1], .null, []) := rfl
theorem cd305_327 : code9 305 327 = some (0, .invokevirtual 43, [3, 176, 1, 1, 1, 3, 12, 0], .null, []) := rfl
theorem cd305_330 : code9 305 330 = some (0, .if_icmp .eq 1221, [3, 1551], .null, []) := rfl
theorem cd305_333 : code9 305 333 = some (0, .iconst 0, [1], .int 0, []) := rfl
theorem cd305_334 : code9 305 334 = some (0, .ireturn, [1, 3], .null, []) := rfl
theorem cd305_335 : code9 305 335 = some (0, .aload_n 1, [1], .null, []) := rfl
theorem cd305_336 : code9 305 336 = some (0, .invokevirtual 44, [3, 126, 1, 1, 1, 1, 11, 0], .null, []) := rfl
theorem cd305_339 : code9 305 339 = some (0, .aload_n 2, [1], .null, []) := rfl
theorem cd305_340 : code9 305 340 = some (0, .invokevirtual 47, [3, 207, 1, 1, 1, 1, 12, 0], .null, []) := rfl
theorem cd305_343 : code9 305 343 = some (0, .if_icmp .eq 1208, [3, 1551], .null, []) := rfl
theorem cd305_346 : code9 305 346 = some (0, .iconst 0, [1], .int 0, []) := rfl
theorem cd305_347 : code9 305 347 = some (0, .ireturn, [1, 3], .null, []) := rfl
theorem cd305_348 : code9 305 348 = some (0, .aload_n 1, [1], .null, []) := rfl
theorem cd305_349 : code9 305 349 = some (0, .aload_n 0, [1], .null, []) := rfl
theorem cd305_350 : code9 305 350 = some (0, .iload 4, [2], .null, []) := rfl
theorem cd305_352 : code9 305 352 = some (0, .iconst 1, [1], .int 1, []) := rfl
theorem cd305_353 : code9 305 353 = some (0, .iadd, [1], .null, []) := rfl
theorem cd305_354 : code9 305 354 = some (0, .iaload, [1], .null, []) := rfl
theorem cd305_355 : code9 305 355 = some (0, .aload_n 0, [1], .null, []) := rfl
theorem cd305_356 : code9 305 356 = some (0, .iload 4, [2], .null, []) := rfl
theorem cd305_358 : code9 305 358 = some (0, .iconst 2, [1], .int 2, []) := rfl
theorem cd305_359 : code9 305 359 = some (0, .iadd, [1], .null, []) := rfl
theorem cd305_360 : code9 305 360 = some (0, .iaload, [1], .null, []) := rfl
theorem cd305_361 : code9 305 361 = some (0, .aload_n 3, [1], .null, []) := rfl
theorem cd305_362 : code9 305 362 = some (0, .invokestatic 48, [3, 301, 4, 0, 1, 5, 14, 0], .null, []) := rfl
theorem cd305_365 : code9 305 365 = some (0, .istore 5, [2], .null, []) := rfl
theorem cd305_367 : code9 305 367 = some (0, .aload_n 2, [1], .null, []) := rfl
theorem cd305_368 : code9 305 368 = some (0, .aload_n 0, [1], .null, []) := rfl
theorem cd305_369 : code9 305 369 = some (0, .iload 4, [2], .null, []) := rfl
theorem cd305_371 : code9 305 371 = some (0, .iconst 1, [1], .int 1, []) := rfl
theorem cd305_372 : code9 305 372 = some (0, .iadd, [1], .null, []) := rfl
theorem cd305_373 : code9 305 373 = some (0, .iaload, [1], .null, []) := rfl
theorem cd305_374 : code9 305 374 = some (0, .aload_n 0, [1], .null, []) := rfl
theorem cd305_375 : code9 305 375 = some (0, .iload 4, [2], .null, []) := rfl
theorem cd305_377 : code9 305 377 = some (0, .iconst 2, [1], .int 2, []) := rfl
theorem cd305_378 : code9 305 378 = some (0, .iadd, [1], .null, []) := rfl
theorem cd305_379 : code9 305 379 = some (0, .iaload, [1], .null, []) := rfl
theorem cd305_380 : code9 305 380 = some (0, .invokevirtual 53, [3, 208, 3, 1, 1, 3, 12, 0], .null, []) := rfl
theorem cd305_383 : code9 305 383 = some (0, .istore 6, [2], .null, []) := rfl
theorem cd305_385 : code9 305 385 = some (0, .aload_n 2, [1], .null, []) := rfl
theorem cd305_386 : code9 305 386 = some (0, .invokevirtual 54, [3, 169, 1, 1, 1, 1, 12, 0], .null, []) := rfl
theorem cd305_389 : code9 305 389 = some (0, .iload 5, [2], .null, []) := rfl
theorem cd305_391 : code9 305 391 = some (0, .if_icmp .eq 5, [3, 396], .null, []) := rfl
theorem cd305_394 : code9 305 394 = some (0, .iconst 0, [1], .int 0, []) := rfl
theorem cd305_395 : code9 305 395 = some (0, .ireturn, [1, 3], .null, []) := rfl
theorem cd305_396 : code9 305 396 = some (0, .iload 5, [2], .null, []) := rfl
theorem cd305_398 : code9 305 398 = some (0, .ifCond .ne 15, [3, 413], .null, []) := rfl
theorem cd305_401 : code9 305 401 = some (0, .aload_n 3, [1], .null, []) := rfl
theorem cd305_402 : code9 305 402 = some (0, .iconst 0, [1], .int 0, []) := rfl
theorem cd305_403 : code9 305 403 = some (0, .laload, [1], .null, []) := rfl
theorem cd305_404 : code9 305 404 = some (0, .iload 6, [2], .null, []) := rfl
theorem cd305_406 : code9 305 406 = some (0, .i2l, [1], .null, []) := rfl
theorem cd305_407 : code9 305 407 = some (0, .lcmp, [1], .null, []) := rfl
theorem cd305_408 : code9 305 408 = some (0, .ifCond .eq 5, [3, 413], .null, []) := rfl
theorem cd305_411 : code9 305 411 = some (0, .iconst 0, [1], .int 0, []) := rfl
theorem cd305_412 : code9 305 412 = some (0, .ireturn, [1, 3], .null, []) := rfl
theorem cd305_413 : code9 305 413 = some (8, .goto 1138, [3, 1551, 5], .null, []) := rfl
theorem cd305_416 : code9 305 416 = some (0, .aload_n 1, [1], .null, []) := rfl
theorem cd305_417 : code9 305 417 = some (0, .aload_n 0, [1], .null, []) := rfl
theorem cd305_418 : code9 305 418 = some (0, .iload 4, [2], .null, []) := rfl
theorem cd305_420 : code9 305 420 = some (0, .iconst 1, [1], .int 1, []) := rfl
theorem cd305_421 : code9 305 421 = some (0, .iadd, [1], .null, []) := rfl
theorem cd305_422 : code9 305 422 = some (0, .iaload, [1], .null, []) := rfl
theorem cd305_423 : code9 305 423 = some (0, .aload_n 0, [1], .null, []) := rfl
theorem cd305_424 : code9 305 424 = some (0, .iload 4, [2], .null, []) := rfl
theorem cd305_426 : code9 305 426 = some (0, .iconst 2, [1], .int 2, []) := rfl
theorem cd305_427 : code9 305 427 = some (0, .iadd, [1], .null, []) := rfl
theorem cd305_428 : code9 305 428 = some (0, .iaload, [1], .null, []) := rfl
theorem cd305_429 : code9 305 429 = some (0, .invokevirtual 57, [3, 127, 3, 1, 1, 3, 11, 0], .null, []) := rfl
theorem cd305_432 : code9 305 432 = some (0, .aload_n 2, [1], .null, []) := rfl
theorem cd305_433 : code9 305 433 = some (0, .aload_n 0, [1], .null, []) := rfl
theorem cd305_434 : code9 305 434 = some (0, .iload 4, [2], .null, []) := rfl
theorem cd305_436 : code9 305 436 = some (0, .iconst 1, [1], .int 1, []) := rfl
theorem cd305_437 : code9 305 437 = some (0, .iadd, [1], .null, []) := rfl
theorem cd305_438 : code9 305 438 = some (0, .iaload, [1], .null, []) := rfl
theorem cd305_439 : code9 305 439 = some (0, .aload_n 0, [1], .null, []) := rfl
theorem cd305_440 : code9 305 440 = some (0, .iload 4, [2], .null, []) := rfl
theorem cd305_442 : code9 305 442 = some (0, .iconst 2, [1], .int 2, []) := rfl
theorem cd305_443 : code9 305 443 = some (0, .iadd, [1], .null, []) := rfl
theorem cd305_444 : code9 305 444 = some (0, .iaload, [1], .null, []) := rfl
theorem cd305_445 : code9 305 445 = some (0, .invokevirtual 60, [3, 211, 3, 1, 1, 5, 12, 0], .null, []) := rfl
theorem cd305_448 : code9 305 448 = some (0, .if_icmp .eq 1103, [3, 1551], .null, []) := rfl
theorem cd305_451 : code9 305 451 = some (0, .iconst 0, [1], .int 0, []) := rfl
theorem cd305_452 : code9 305 452 = some (0, .ireturn, [1, 3], .null, []) := rfl
theorem cd305_453 : code9 305 453 = some (0, .aload_n 1, [1], .null, []) := rfl
theorem cd305_454 : code9 305 454 = some (0, .aload_n 0, [1], .null, []) := rfl
theorem cd305_455 : code9 305 455 = some (0, .iload 4, [2], .null, []) := rfl
theorem cd305_457 : code9 305 457 = some (0, .iconst 1, [1], .int 1, []) := rfl
theorem cd305_458 : code9 305 458 = some (0, .iadd, [1], .null, []) := rfl
theorem cd305_459 : code9 305 459 = some (0, .iaload, [1], .null, []) := rfl
theorem cd305_460 : code9 305 460 = some (0, .aload_n 0, [1], .null, []) := rfl
theorem cd305_461 : code9 305 461 = some (0, .iload 4, [2], .null, []) := rfl
theorem cd305_463 : code9 305 463 = some (0, .iconst 2, [1], .int 2, []) := rfl
theorem cd305_464 : code9 305 464 = some (0, .iadd, [1], .null, []) := rfl
theorem cd305_465 : code9 305 465 = some (0, .iaload, [1], .null, []) := rfl
theorem cd305_466 : code9 305 466 = some (0, .aload_n 0, [1], .null, []) := rfl
theorem cd305_467 : code9 305 467 = some (0, .iload 4, [2], .null, []) := rfl
theorem cd305_469 : code9 305 469 = some (0, .iconst 3, [1], .int 3, []) := rfl
theorem cd305_470 : code9 305 470 = some (0, .iadd, [1], .null, []) := rfl
theorem cd305_471 : code9 305 471 = some (0, .iaload, [1], .null, []) := rfl
theorem cd305_472 : code9 305 472 = some (0, .invokevirtual 61, [3, 128, 4, 1, 1, 4, 11, 0], .null, []) := rfl
theorem cd305_475 : code9 305 475 = some (0, .aload_n 2, [1], .null, []) := rfl
theorem cd305_476 : code9 305 476 = some (0, .aload_n 0, [1], .null, []) := rfl
theorem cd305_477 : code9 305 477 = some (0, .iload 4, [2], .null, []) := rfl
theorem cd305_479 : code9 305 479 = some (0, .iconst 1, [1], .int 1, []) := rfl
theorem cd305_480 : code9 305 480 = some (0, .iadd, [1], .null, []) := rfl
theorem cd305_481 : code9 305 481 = some (0, .iaload, [1], .null, []) := rfl
theorem cd305_482 : code9 305 482 = some (0, .aload_n 0, [1], .null, []) := rfl
theorem cd305_483 : code9 305 483 = some (0, .iload 4, [2], .null, []) := rfl
theorem cd305_485 : code9 305 485 = some (0, .iconst 2, [1], .int 2, []) := rfl
theorem cd305_486 : code9 305 486 = some (0, .iadd, [1], .null, []) := rfl
theorem cd305_487 : code9 305 487 = some (0, .iaload, [1], .null, []) := rfl
theorem cd305_488 : code9 305 488 = some (0, .aload_n 0, [1], .null, []) := rfl
theorem cd305_489 : code9 305 489 = some (0, .iload 4, [2], .null, []) := rfl
theorem cd305_491 : code9 305 491 = some (0, .iconst 3, [1], .int 3, []) := rfl
theorem cd305_492 : code9 305 492 = some (0, .iadd, [1], .null, []) := rfl
theorem cd305_493 : code9 305 493 = some (0, .iaload, [1], .null, []) := rfl
theorem cd305_494 : code9 305 494 = some (0, .invokevirtual 65, [3, 213, 4, 1, 1, 6, 12, 0], .null, []) := rfl
theorem cd305_497 : code9 305 497 = some (0, .if_icmp .eq 1054, [3, 1551], .null, []) := rfl
theorem cd305_500 : code9 305 500 = some (0, .iconst 0, [1], .int 0, []) := rfl
theorem cd305_501 : code9 305 501 = some (0, .ireturn, [1, 3], .null, []) := rfl
theorem cd305_502 : code9 305 502 = some (0, .aload_n 1, [1], .null, []) := rfl
theorem cd305_503 : code9 305 503 = some (0, .aload_n 0, [1], .null, []) := rfl
theorem cd305_504 : code9 305 504 = some (0, .iload 4, [2], .null, []) := rfl
theorem cd305_506 : code9 305 506 = some (0, .iconst 1, [1], .int 1, []) := rfl
theorem cd305_507 : code9 305 507 = some (0, .iadd, [1], .null, []) := rfl
theorem cd305_508 : code9 305 508 = some (0, .iaload, [1], .null, []) := rfl
theorem cd305_509 : code9 305 509 = some (0, .invokevirtual 66, [3, 129, 2, 1, 1, 2, 11, 0], .null, []) := rfl
theorem cd305_512 : code9 305 512 = some (0, .aload_n 2, [1], .null, []) := rfl
theorem cd305_513 : code9 305 513 = some (0, .aload_n 0, [1], .null, []) := rfl
theorem cd305_514 : code9 305 514 = some (0, .iload 4, [2], .null, []) := rfl
theorem cd305_516 : code9 305 516 = some (0, .iconst 1, [1], .int 1, []) := rfl
theorem cd305_517 : code9 305 517 = some (0, .iadd, [1], .null, []) := rfl
theorem cd305_518 : code9 305 518 = some (0, .iaload, [1], .null, []) := rfl
theorem cd305_519 : code9 305 519 = some (0, .invokevirtual 70, [3, 218, 2, 1, 1, 4, 12, 0], .null, []) := rfl
theorem cd305_522 : code9 305 522 = some (0, .if_icmp .eq 1029, [3, 1551], .null, []) := rfl
theorem cd305_525 : code9 305 525 = some (0, .iconst 0, [1], .int 0, []) := rfl
theorem cd305_526 : code9 305 526 = some (0, .ireturn, [1, 3], .null, []) := rfl
theorem cd305_527 : code9 305 527 = some (0, .aload_n 1, [1], .null, []) := rfl
theorem cd305_528 : code9 305 528 = some (0, .aload_n 0, [1], .null, []) := rfl
theorem cd305_529 : code9 305 529 = some (0, .iload 4, [2], .null, []) := rfl
theorem cd305_531 : code9 305 531 = some (0, .iconst 1, [1], .int 1, []) := rfl
theorem cd305_532 : code9 305 532 = some (0, .iadd, [1], .null, []) := rfl
theorem cd305_533 : code9 305 533 = some (0, .iaload, [1], .null, []) := rfl
theorem cd305_534 : code9 305 534 = some (0, .aload_n 0, [1], .null, []) := rfl
theorem cd305_535 : code9 305 535 = some (0, .iload 4, [2], .null, []) := rfl
theorem cd305_537 : code9 305 537 = some (0, .iconst 2, [1], .int 2, []) := rfl
theorem cd305_538 : code9 305 538 = some (0, .iadd, [1], .null, []) := rfl
theorem cd305_539 : code9 305 539 = some (0, .iaload, [1], .null, []) := rfl
theorem cd305_540 : code9 305 540 = some (0, .aload_n 0, [1], .null, []) := rfl
theorem cd305_541 : code9 305 541 = some (0, .iload 4, [2], .null, []) := rfl
theorem cd305_543 : code9 305 543 = some (0, .iconst 3, [1], .int 3, []) := rfl
theorem cd305_544 : code9 305 544 = some (0, .iadd, [1], .null, []) := rfl
theorem cd305_545 : code9 305 545 = some (0, .iaload, [1], .null, []) := rfl
theorem cd305_546 : code9 305 546 = some (0, .invokevirtual 71, [3, 130, 4, 1, 1, 4, 11, 0], .null, []) := rfl
theorem cd305_549 : code9 305 549 = some (0, .aload_n 2, [1], .null, []) := rfl
theorem cd305_550 : code9 305 550 = some (0, .aload_n 0, [1], .null, []) := rfl
theorem cd305_551 : code9 305 551 = some (0, .iload 4, [2], .null, []) := rfl
theorem cd305_553 : code9 305 553 = some (0, .iconst 1, [1], .int 1, []) := rfl
theorem cd305_554 : code9 305 554 = some (0, .iadd, [1], .null, []) := rfl
theorem cd305_555 : code9 305 555 = some (0, .iaload, [1], .null, []) := rfl
theorem cd305_556 : code9 305 556 = some (0, .aload_n 0, [1], .null, []) := rfl
theorem cd305_557 : code9 305 557 = some (0, .iload 4, [2], .null, []) := rfl
theorem cd305_559 : code9 305 559 = some (0, .iconst 2, [1], .int 2, []) := rfl
theorem cd305_560 : code9 305 560 = some (0, .iadd, [1], .null, []) := rfl
theorem cd305_561 : code9 305 561 = some (0, .iaload, [1], .null, []) := rfl
theorem cd305_562 : code9 305 562 = some (0, .aload_n 0, [1], .null, []) := rfl
theorem cd305_563 : code9 305 563 = some (0, .iload 4, [2], .null, []) := rfl
theorem cd305_565 : code9 305 565 = some (0, .iconst 3, [1], .int 3, []) := rfl
theorem cd305_566 : code9 305 566 = some (0, .iadd, [1], .null, []) := rfl
theorem cd305_567 : code9 305 567 = some (0, .iaload, [1], .null, []) := rfl
theorem cd305_568 : code9 305 568 = some (0, .invokevirtual 74, [3, 222, 4, 1, 1, 4, 12, 0], .null, []) := rfl
theorem cd305_571 : code9 305 571 = some (0, .if_icmp .eq 980, [3, 1551], .null, []) := rfl
theorem cd305_574 : code9 305 574 = some (0, .iconst 0, [1], .int 0, []) := rfl
theorem cd305_575 : code9 305 575 = some (0, .ireturn, [1, 3], .null, []) := rfl
theorem cd305_576 : code9 305 576 = some (0, .aload_n 1, [1], .null, []) := rfl
theorem cd305_577 : code9 305 577 = some (0, .aload_n 0, [1], .null, []) := rfl
theorem cd305_578 : code9 305 578 = some (0, .iload 4, [2], .null, []) := rfl
theorem cd305_580 : code9 305 580 = some (0, .iconst 1, [1], .int 1, []) := rfl
theorem cd305_581 : code9 305 581 = some (0, .iadd, [1], .null, []) := rfl
theorem cd305_582 : code9 305 582 = some (0, .iaload, [1], .null, []) := rfl
theorem cd305_583 : code9 305 583 = some (0, .invokevirtual 75, [3, 131, 2, 1, 1, 3, 11, 0], .null, []) := rfl
theorem cd305_586 : code9 305 586 = some (0, .aload_n 2, [1], .null, []) := rfl
theorem cd305_587 : code9 305 587 = some (0, .aload_n 0, [1], .null, []) := rfl
theorem cd305_588 : code9 305 588 = some (0, .iload 4, [2], .null, []) := rfl
theorem cd305_590 : code9 305 590 = some (0, .iconst 1, [1], .int 1, []) := rfl
theorem cd305_591 : code9 305 591 = some (0, .iadd, [1], .null, []) := rfl
theorem cd305_592 : code9 305 592 = some (0, .iaload, [1], .null, []) := rfl
theorem cd305_593 : code9 305 593 = some (0, .invokevirtual 78, [3, 226, 2, 1, 1, 2, 12, 0], .null, []) := rfl
theorem cd305_596 : code9 305 596 = some (0, .if_icmp .eq 955, [3, 1551], .null, []) := rfl
theorem cd305_599 : code9 305 599 = some (0, .iconst 0, [1], .int 0, []) := rfl
theorem cd305_600 : code9 305 600 = some (0, .ireturn, [1, 3], .null, []) := rfl
theorem cd305_601 : code9 305 601 = some (0, .aload_n 1, [1], .null, []) := rfl
theorem cd305_602 : code9 305 602 = some (0, .aload_n 0, [1], .null, []) := rfl
theorem cd305_603 : code9 305 603 = some (0, .iload 4, [2], .null, []) := rfl
theorem cd305_605 : code9 305 605 = some (0, .iconst 1, [1], .int 1, []) := rfl
theorem cd305_606 : code9 305 606 = some (0, .iadd, [1], .null, []) := rfl
theorem cd305_607 : code9 305 607 = some (0, .iaload, [1], .null, []) := rfl
theorem cd305_608 : code9 305 608 = some (0, .invokevirtual 79, [3, 132, 2, 1, 1, 3, 11, 0], .null, []) := rfl
theorem cd305_611 : code9 305 611 = some (0, .aload_n 2, [1], .null, []) := rfl
theorem cd305_612 : code9 305 612 = some (0, .aload_n 0, [1], .null, []) := rfl
theorem cd305_613 : code9 305 613 = some (0, .iload 4, [2], .null, []) := rfl
theorem cd305_615 : code9 305 615 = some (0, .iconst 1, [1], .int 1, []) := rfl
theorem cd305_616 : code9 305 616 = some (0, .iadd, [1], .null, []) := rfl
theorem cd305_617 : code9 305 617 = some (0, .iaload, [1], .null, []) := rfl
theorem cd305_618 : code9 305 618 = some (0, .invokevirtual 82, [3, 228, 2, 1, 1, 2, 12, 0], .null, []) := rfl
theorem cd305_621 : code9 305 621 = some (0, .if_icmp .eq 930, [3, 1551], .null, []) := rfl
theorem cd305_624 : code9 305 624 = some (0, .iconst 0, [1], .int 0, []) := rfl
theorem cd305_625 : code9 305 625 = some (0, .ireturn, [1, 3], .null, []) := rfl
theorem cd305_626 : code9 305 626 = some (0, .aload_n 1, [1], .null, []) := rfl
theorem cd305_627 : code9 305 627 = some (0, .aload_n 0, [1], .null, []) := rfl
theorem cd305_628 : code9 305 628 = some (0, .iload 4, [2], .null, []) := rfl
theorem cd305_630 : code9 305 630 = some (0, .iconst 1, [1], .int 1, []) := rfl
theorem cd305_631 : code9 305 631 = some (0, .iadd, [1], .null, []) := rfl
theorem cd305_632 : code9 305 632 = some (0, .iaload, [1], .null, []) := rfl
theorem cd305_633 : code9 305 633 = some (0, .aload_n 0, [1], .null, []) := rfl
theorem cd305_634 : code9 305 634 = some (0, .iload 4, [2], .null, []) := rfl
theorem cd305_636 : code9 305 636 = some (0, .iconst 2, [1], .int 2, []) := rfl
theorem cd305_637 : code9 305 637 = some (0, .iadd, [1], .null, []) := rfl
theorem cd305_638 : code9 305 638 = some (0, .iaload, [1], .null, []) := rfl
theorem cd305_639 : code9 305 639 = some (0, .aload_n 0, [1], .null, []) := rfl
theorem cd305_640 : code9 305 640 = some (0, .iload 4, [2], .null, []) := rfl
theorem cd305_642 : code9 305 642 = some (0, .iconst 3, [1], .int 3, []) := rfl
theorem cd305_643 : code9 305 643 = some (0, .iadd, [1], .null, []) := rfl
theorem cd305_644 : code9 305 644 = some (0, .iaload, [1], .null, []) := rfl
theorem cd305_645 : code9 305 645 = some (0, .invokevirtual 83, [3, 133, 4, 1, 1, 5, 11, 0], .null, []) := rfl
theorem cd305_648 : code9 305 648 = some (0, .aload_n 2, [1], .null, []) := rfl
theorem cd305_649 : code9 305 649 = some (0, .aload_n 0, [1], .null, []) := rfl
theorem cd305_650 : code9 305 650 = some (0, .iload 4, [2], .null, []) := rfl
theorem cd305_652 : code9 305 652 = some (0, .iconst 1, [1], .int 1, []) := rfl
theorem cd305_653 : code9 305 653 = some (0, .iadd, [1], .null, []) := rfl
theorem cd305_654 : code9 305 654 = some (0, .iaload, [1], .null, []) := rfl
theorem cd305_655 : code9 305 655 = some (0, .aload_n 0, [1], .null, []) := rfl
theorem cd305_656 : code9 305 656 = some (0, .iload 4, [2], .null, []) := rfl
theorem cd305_658 : code9 305 658 = some (0, .iconst 2, [1], .int 2, []) := rfl
theorem cd305_659 : code9 305 659 = some (0, .iadd, [1], .null, []) := rfl
theorem cd305_660 : code9 305 660 = some (0, .iaload, [1], .null, []) := rfl
theorem cd305_661 : code9 305 661 = some (0, .aload_n 0, [1], .null, []) := rfl
theorem cd305_662 : code9 305 662 = some (0, .iload 4, [2], .null, []) := rfl
theorem cd305_664 : code9 305 664 = some (0, .iconst 3, [1], .int 3, []) := rfl
theorem cd305_665 : code9 305 665 = some (0, .iadd, [1], .null, []) := rfl
theorem cd305_666 : code9 305 666 = some (0, .iaload, [1], .null, []) := rfl
theorem cd305_667 : code9 305 667 = some (0, .invokevirtual 86, [3, 230, 4, 1, 1, 4, 12, 0], .null, []) := rfl
theorem cd305_670 : code9 305 670 = some (0, .if_icmp .eq 881, [3, 1551], .null, []) := rfl
theorem cd305_673 : code9 305 673 = some (0, .iconst 0, [1], .int 0, []) := rfl
theorem cd305_674 : code9 305 674 = some (0, .ireturn, [1, 3], .null, []) := rfl
theorem cd305_675 : code9 305 675 = some (0, .aload_n 1, [1], .null, []) := rfl
theorem cd305_676 : code9 305 676 = some (0, .aload_n 0, [1], .null, []) := rfl
theorem cd305_677 : code9 305 677 = some (0, .iload 4, [2], .null, []) := rfl
theorem cd305_679 : code9 305 679 = some (0, .iconst 1, [1], .int 1, []) := rfl
theorem cd305_680 : code9 305 680 = some (0, .iadd, [1], .null, []) := rfl
theorem cd305_681 : code9 305 681 = some (0, .iaload, [1], .null, []) := rfl
theorem cd305_682 : code9 305 682 = some (0, .aload_n 0, [1], .null, []) := rfl
theorem cd305_683 : code9 305 683 = some (0, .iload 4, [2], .null, []) := rfl
theorem cd305_685 : code9 305 685 = some (0, .iconst 2, [1], .int 2, []) := rfl
theorem cd305_686 : code9 305 686 = some (0, .iadd, [1], .null, []) := rfl
theorem cd305_687 : code9 305 687 = some (0, .iaload, [1], .null, []) := rfl
theorem cd305_688 : code9 305 688 = some (0, .invokevirtual 87, [3, 134, 3, 1, 1, 4, 11, 0], .null, []) := rfl
theorem cd305_691 : code9 305 691 = some (0, .aload_n 2, [1], .null, []) := rfl
theorem cd305_692 : code9 305 692 = some (0, .aload_n 0, [1], .null, []) := rfl
theorem cd305_693 : code9 305 693 = some (0, .iload 4, [2], .null, []) := rfl
theorem cd305_695 : code9 305 695 = some (0, .iconst 1, [1], .int 1, []) := rfl
theorem cd305_696 : code9 305 696 = some (0, .iadd, [1], .null, []) := rfl
theorem cd305_697 : code9 305 697 = some (0, .iaload, [1], .null, []) := rfl
theorem cd305_698 : code9 305 698 = some (0, .aload_n 0, [1], .null, []) := rfl
theorem cd305_699 : code9 305 699 = some (0, .iload 4, [2], .null, []) := rfl
theorem cd305_701 : code9 305 701 = some (0, .iconst 2, [1], .int 2, []) := rfl
theorem cd305_702 : code9 305 702 = some (0, .iadd, [1], .null, []) := rfl
theorem cd305_703 : code9 305 703 = some (0, .iaload, [1], .null, []) := rfl
theorem cd305_704 : code9 305 704 = some (0, .invokevirtual 90, [3, 232, 3, 1, 1, 3, 12, 0], .null, []) := rfl
theorem cd305_707 : code9 305 707 = some (0, .if_icmp .eq 844, [3, 1551], .null, []) := rfl
theorem cd305_710 : code9 305 710 = some (0, .iconst 0, [1], .int 0, []) := rfl
theorem cd305_711 : code9 305 711 = some (0, .ireturn, [1, 3], .null, []) := rfl
theorem cd305_712 : code9 305 712 = some (0, .aload_n 1, [1], .null, []) := rfl
theorem cd305_713 : code9 305 713 = some (0, .aload_n 0, [1], .null, []) := rfl
theorem cd305_714 : code9 305 714 = some (0, .iload 4, [2], .null, []) := rfl
theorem cd305_716 : code9 305 716 = some (0, .iconst 1, [1], .int 1, []) := rfl
theorem cd305_717 : code9 305 717 = some (0, .iadd, [1], .null, []) := rfl
theorem cd305_718 : code9 305 718 = some (0, .iaload, [1], .null, []) := rfl
theorem cd305_719 : code9 305 719 = some (0, .invokevirtual 91, [3, 135, 2, 1, 1, 2, 11, 0], .null, []) := rfl
theorem cd305_722 : code9 305 722 = some (0, .aload_n 2, [1], .null, []) := rfl
theorem cd305_723 : code9 305 723 = some (0, .aload_n 0, [1], .null, []) := rfl
theorem cd305_724 : code9 305 724 = some (0, .iload 4, [2], .null, []) := rfl
theorem cd305_726 : code9 305 726 = some (0, .iconst 1, [1], .int 1, []) := rfl
theorem cd305_727 : code9 305 727 = some (0, .iadd, [1], .null, []) := rfl
theorem cd305_728 : code9 305 728 = some (0, .iaload, [1], .null, []) := rfl
theorem cd305_729 : code9 305 729 = some (0, .invokevirtual 94, [3, 233, 2, 1, 1, 2, 12, 0], .null, []) := rfl
theorem cd305_732 : code9 305 732 = some (0, .if_icmp .eq 819, [3, 1551], .null, []) := rfl
theorem cd305_735 : code9 305 735 = some (0, .iconst 0, [1], .int 0, []) := rfl
theorem cd305_736 : code9 305 736 = some (0, .ireturn, [1, 3], .null, []) := rfl
theorem cd305_737 : code9 305 737 = some (0, .aload_n 1, [1], .null, []) := rfl
theorem cd305_738 : code9 305 738 = some (0, .aload_n 0, [1], .null, []) := rfl
theorem cd305_739 : code9 305 739 = some (0, .iload 4, [2], .null, []) := rfl
theorem cd305_741 : code9 305 741 = some (0, .iconst 1, [1], .int 1, []) := rfl
theorem cd305_742 : code9 305 742 = some (0, .iadd, [1], .null, []) := rfl
theorem cd305_743 : code9 305 743 = some (0, .iaload, [1], .null, []) := rfl
theorem cd305_744 : code9 305 744 = some (0, .aload_n 0, [1], .null, []) := rfl
theorem cd305_745 : code9 305 745 = some (0, .iload 4, [2], .null, []) := rfl
theorem cd305_747 : code9 305 747 = some (0, .iconst 2, [1], .int 2, []) := rfl
theorem cd305_748 : code9 305 748 = some (0, .iadd, [1], .null, []) := rfl
theorem cd305_749 : code9 305 749 = some (0, .iaload, [1], .null, []) := rfl
theorem cd305_750 : code9 305 750 = some (0, .invokevirtual 95, [3, 136, 3, 1, 1, 3, 11, 0], .null, []) := rfl
theorem cd305_753 : code9 305 753 = some (0, .aload_n 2, [1], .null, []) := rfl
theorem cd305_754 : code9 305 754 = some (0, .aload_n 0, [1], .null, []) := rfl
theorem cd305_755 : code9 305 755 = some (0, .iload 4, [2], .null, []) := rfl
theorem cd305_757 : code9 305 757 = some (0, .iconst 1, [1], .int 1, []) := rfl
theorem cd305_758 : code9 305 758 = some (0, .iadd, [1], .null, []) := rfl
theorem cd305_759 : code9 305 759 = some (0, .iaload, [1], .null, []) := rfl
theorem cd305_760 : code9 305 760 = some (0, .aload_n 0, [1], .null, []) := rfl
theorem cd305_761 : code9 305 761 = some (0, .iload 4, [2], .null, []) := rfl
theorem cd305_763 : code9 305 763 = some (0, .iconst 2, [1], .int 2, []) := rfl
theorem cd305_764 : code9 305 764 = some (0, .iadd, [1], .null, []) := rfl
theorem cd305_765 : code9 305 765 = some (0, .iaload, [1], .null, []) := rfl
theorem cd305_766 : code9 305 766 = some (0, .invokevirtual 98, [3, 237, 3, 1, 1, 3, 12, 0], .null, []) := rfl
theorem cd305_769 : code9 305 769 = some (0, .if_icmp .eq 782, [3, 1551], .null, []) := rfl
theorem cd305_772 : code9 305 772 = some (0, .iconst 0, [1], .int 0, []) := rfl
theorem cd305_773 : code9 305 773 = some (0, .ireturn, [1, 3], .null, []) := rfl
theorem cd305_774 : code9 305 774 = some (0, .aload_n 1, [1], .null, []) := rfl
theorem cd305_775 : code9 305 775 = some (0, .invokevirtual 99, [3, 137, 1, 1, 1, 1, 11, 0], .null, []) := rfl
theorem cd305_778 : code9 305 778 = some (0, .aload_n 2, [1], .null, []) := rfl
theorem cd305_779 : code9 305 779 = some (0, .invokevirtual 102, [3, 236, 1, 1, 1, 2, 12, 0], .null, []) := rfl
theorem cd305_782 : code9 305 782 = some (0, .if_icmp .eq 769, [3, 1551], .null, []) := rfl
theorem cd305_785 : code9 305 785 = some (0, .iconst 0, [1], .int 0, []) := rfl
theorem cd305_786 : code9 305 786 = some (0, .ireturn, [1, 3], .null, []) := rfl
theorem cd305_787 : code9 305 787 = some (0, .aload_n 1, [1], .null, []) := rfl
theorem cd305_788 : code9 305 788 = some (0, .aload_n 0, [1], .null, []) := rfl
theorem cd305_789 : code9 305 789 = some (0, .iload 4, [2], .null, []) := rfl
theorem cd305_791 : code9 305 791 = some (0, .iconst 1, [1], .int 1, []) := rfl
theorem cd305_792 : code9 305 792 = some (0, .iadd, [1], .null, []) := rfl
theorem cd305_793 : code9 305 793 = some (0, .iaload, [1], .null, []) := rfl
theorem cd305_794 : code9 305 794 = some (0, .aload_n 0, [1], .null, []) := rfl
theorem cd305_795 : code9 305 795 = some (0, .iload 4, [2], .null, []) := rfl
theorem cd305_797 : code9 305 797 = some (0, .iconst 2, [1], .int 2, []) := rfl
theorem cd305_798 : code9 305 798 = some (0, .iadd, [1], .null, []) := rfl
theorem cd305_799 : code9 305 799 = some (0, .iaload, [1], .null, []) := rfl
theorem cd305_800 : code9 305 800 = some (0, .aload_n 3, [1], .null, []) := rfl
theorem cd305_801 : code9 305 801 = some (0, .invokestatic 103, [3, 302, 4, 0, 1, 5, 14, 0], .null, []) := rfl
theorem cd305_804 : code9 305 804 = some (0, .istore 5, [2], .null, []) := rfl
theorem cd305_806 : code9 305 806 = some (0, .aload_n 2, [1], .null, []) := rfl
theorem cd305_807 : code9 305 807 = some (0, .aload_n 0, [1], .null, []) := rfl
theorem cd305_808 : code9 305 808 = some (0, .iload 4, [2], .null, []) := rfl
theorem cd305_810 : code9 305 810 = some (0, .iconst 1, [1], .int 1, []) := rfl
theorem cd305_811 : code9 305 811 = some (0, .iadd, [1], .null, []) := rfl
theorem cd305_812 : code9 305 812 = some (0, .iaload, [1], .null, []) := rfl
theorem cd305_813 : code9 305 813 = some (0, .aload_n 0, [1], .null, []) := rfl
theorem cd305_814 : code9 305 814 = some (0, .iload 4, [2], .null, []) := rfl
theorem cd305_816 : code9 305 816 = some (0, .iconst 2, [1], .int 2, []) := rfl
theorem cd305_817 : code9 305 817 = some (0, .iadd, [1], .null, []) := rfl
theorem cd305_818 : code9 305 818 = some (0, .iaload, [1], .null, []) := rfl
theorem cd305_819 : code9 305 819 = some (0, .invokevirtual 105, [3, 241, 3, 1, 2, 3, 12, 0], .null, []) := rfl
theorem cd305_822 : code9 305 822 = some (0, .lstore 6, [2], .null, []) := rfl
theorem cd305_824 : code9 305 824 = some (0, .aload_n 2, [1], .null, []) := rfl
theorem cd305_825 : code9 305 825 = some (0, .invokevirtual 54, [3, 169, 1, 1, 1, 1, 12, 0], .null, []) := rfl
theorem cd305_828 : code9 305 828 = some (0, .iload 5, [2], .null, []) := rfl
theorem cd305_830 : code9 305 830 = some (0, .if_icmp .eq 5, [3, 835], .null, []) := rfl
theorem cd305_833 : code9 305 833 = some (0, .iconst 0, [1], .int 0, []) := rfl
theorem cd305_834 : code9 305 834 = some (0, .ireturn, [1, 3], .null, []) := rfl
theorem cd305_835 : code9 305 835 = some (0, .iload 5, [2], .null, []) := rfl
theorem cd305_837 : code9 305 837 = some (0, .ifCond .ne 14, [3, 851], .null, []) := rfl
theorem cd305_840 : code9 305 840 = some (0, .aload_n 3, [1], .null, []) := rfl
theorem cd305_841 : code9 305 841 = some (0, .iconst 0, [1], .int 0, []) := rfl
theorem cd305_842 : code9 305 842 = some (0, .laload, [1], .null, []) := rfl
theorem cd305_843 : code9 305 843 = some (0, .lload 6, [2], .null, []) := rfl
theorem cd305_845 : code9 305 845 = some (0, .lcmp, [1], .null, []) := rfl
theorem cd305_846 : code9 305 846 = some (0, .ifCond .eq 5, [3, 851], .null, []) := rfl
theorem cd305_849 : code9 305 849 = some (0, .iconst 0, [1], .int 0, []) := rfl
theorem cd305_850 : code9 305 850 = some (0, .ireturn, [1, 3], .null, []) := rfl
theorem cd305_851 : code9 305 851 = some (9, .goto 700, [3, 1551, 5], .null, []) := rfl
theorem cd305_854 : code9 305 854 = some (0, .aload_n 1, [1], .null, []) := rfl
theorem cd305_855 : code9 305 855 = some (0, .invokevirtual 106, [3, 138, 1, 1, 1, 1, 11, 0], .null, []) := rfl
theorem cd305_858 : code9 305 858 = some (0, .aload_n 2, [1], .null, []) := rfl
theorem cd305_859 : code9 305 859 = some (0, .invokevirtual 109, [3, 246, 1, 1, 1, 3, 12, 0], .null, []) := rfl
theorem cd305_862 : code9 305 862 = some (0, .if_icmp .eq 689, [3, 1551], .null, []) := rfl
theorem cd305_865 : code9 305 865 = some (0, .iconst 0, [1], .int 0, []) := rfl
theorem cd305_866 : code9 305 866 = some (0, .ireturn, [1, 3], .null, []) := rfl
theorem cd305_867 : code9 305 867 = some (0, .aload_n 1, [1], .null, []) := rfl
theorem cd305_868 : code9 305 868 = some (0, .aload_n 0, [1], .null, []) := rfl
theorem cd305_869 : code9 305 869 = some (0, .iload 4, [2], .null, []) := rfl
theorem cd305_871 : code9 305 871 = some (0, .iconst 1, [1], .int 1, []) := rfl
theorem cd305_872 : code9 305 872 = some (0, .iadd, [1], .null, []) := rfl
theorem cd305_873 : code9 305 873 = some (0, .iaload, [1], .null, []) := rfl
theorem cd305_874 : code9 305 874 = some (0, .aload_n 0, [1], .null, []) := rfl
theorem cd305_875 : code9 305 875 = some (0, .iload 4, [2], .null, []) := rfl
theorem cd305_877 : code9 305 877 = some (0, .iconst 2, [1], .int 2, []) := rfl
theorem cd305_878 : code9 305 878 = some (0, .iadd, [1], .null, []) := rfl
theorem cd305_879 : code9 305 879 = some (0, .iaload, [1], .null, []) := rfl
theorem cd305_880 : code9 305 880 = some (0, .aload_n 3, [1], .null, []) := rfl
theorem cd305_881 : code9 305 881 = some (0, .invokestatic 110, [3, 303, 4, 0, 1, 5, 14, 0], .null, []) := rfl
theorem cd305_884 : code9 305 884 = some (0, .istore 5, [2], .null, []) := rfl
theorem cd305_886 : code9 305 886 = some (0, .aload_n 2, [1], .null, []) := rfl
theorem cd305_887 : code9 305 887 = some (0, .aload_n 0, [1], .null, []) := rfl
theorem cd305_888 : code9 305 888 = some (0, .iload 4, [2], .null, []) := rfl
theorem cd305_890 : code9 305 890 = some (0, .iconst 1, [1], .int 1, []) := rfl
theorem cd305_891 : code9 305 891 = some (0, .iadd, [1], .null, []) := rfl
theorem cd305_892 : code9 305 892 = some (0, .iaload, [1], .null, []) := rfl
theorem cd305_893 : code9 305 893 = some (0, .aload_n 0, [1], .null, []) := rfl
theorem cd305_894 : code9 305 894 = some (0, .iload 4, [2], .null, []) := rfl
theorem cd305_896 : code9 305 896 = some (0, .iconst 2, [1], .int 2, []) := rfl
theorem cd305_897 : code9 305 897 = some (0, .iadd, [1], .null, []) := rfl
theorem cd305_898 : code9 305 898 = some (0, .iaload, [1], .null, []) := rfl
theorem cd305_899 : code9 305 899 = some (0, .invokevirtual 112, [3, 247, 3, 1, 2, 3, 12, 0], .null, []) := rfl
theorem cd305_902 : code9 305 902 = some (0, .lstore 6, [2], .null, []) := rfl
theorem cd305_904 : code9 305 904 = some (0, .aload_n 2, [1], .null, []) := rfl
theorem cd305_905 : code9 305 905 = some (0, .invokevirtual 54, [3, 169, 1, 1, 1, 1, 12, 0], .null, []) := rfl
theorem cd305_908 : code9 305 908 = some (0, .iload 5, [2], .null, []) := rfl
theorem cd305_910 : code9 305 910 = some (0, .if_icmp .eq 5, [3, 915], .null, []) := rfl
theorem cd305_913 : code9 305 913 = some (0, .iconst 0, [1], .int 0, []) := rfl
theorem cd305_914 : code9 305 914 = some (0, .ireturn, [1, 3], .null, []) := rfl
theorem cd305_915 : code9 305 915 = some (0, .iload 5, [2], .null, []) := rfl
theorem cd305_917 : code9 305 917 = some (0, .ifCond .ne 14, [3, 931], .null, []) := rfl
theorem cd305_920 : code9 305 920 = some (0, .aload_n 3, [1], .null, []) := rfl
theorem cd305_921 : code9 305 921 = some (0, .iconst 0, [1], .int 0, []) := rfl
theorem cd305_922 : code9 305 922 = some (0, .laload, [1], .null, []) := rfl
theorem cd305_923 : code9 305 923 = some (0, .lload 6, [2], .null, []) := rfl
theorem cd305_925 : code9 305 925 = some (0, .lcmp, [1], .null, []) := rfl
theorem cd305_926 : code9 305 926 = some (0, .ifCond .eq 5, [3, 931], .null, []) := rfl
theorem cd305_929 : code9 305 929 = some (0, .iconst 0, [1], .int 0, []) := rfl
theorem cd305_930 : code9 305 930 = some (0, .ireturn, [1, 3], .null, []) := rfl
theorem cd305_931 : code9 305 931 = some (9, .goto 620, [3, 1551, 5], .null, []) := rfl
theorem cd305_934 : code9 305 934 = some (0, .aload_n 1, [1], .null, []) := rfl
theorem cd305_935 : code9 305 935 = some (0, .invokevirtual 113, [3, 139, 1, 1, 1, 1, 11, 0], .null, []) := rfl
theorem cd305_938 : code9 305 938 = some (0, .aload_n 2, [1], .null, []) := rfl
theorem cd305_939 : code9 305 939 = some (0, .invokevirtual 116, [3, 249, 1, 1, 1, 3, 12, 0], .null, []) := rfl
theorem cd305_942 : code9 305 942 = some (0, .if_icmp .eq 609, [3, 1551], .null, []) := rfl
theorem cd305_945 : code9 305 945 = some (0, .iconst 0, [1], .int 0, []) := rfl
theorem cd305_946 : code9 305 946 = some (0, .ireturn, [1, 3], .null, []) := rfl
theorem cd305_947 : code9 305 947 = some (0, .aload_n 1, [1], .null, []) := rfl
theorem cd305_948 : code9 305 948 = some (0, .aload_n 0, [1], .null, []) := rfl
theorem cd305_949 : code9 305 949 = some (0, .iload 4, [2], .null, []) := rfl
theorem cd305_951 : code9 305 951 = some (0, .iconst 1, [1], .int 1, []) := rfl
theorem cd305_952 : code9 305 952 = some (0, .iadd, [1], .null, []) := rfl
theorem cd305_953 : code9 305 953 = some (0, .iaload, [1], .null, []) := rfl
theorem cd305_954 : code9 305 954 = some (0, .aload_n 0, [1], .null, []) := rfl
theorem cd305_955 : code9 305 955 = some (0, .iload 4, [2], .null, []) := rfl
theorem cd305_957 : code9 305 957 = some (0, .iconst 2, [1], .int 2, []) := rfl
theorem cd305_958 : code9 305 958 = some (0, .iadd, [1], .null, []) := rfl
theorem cd305_959 : code9 305 959 = some (0, .iaload, [1], .null, []) := rfl
theorem cd305_960 : code9 305 960 = some (0, .aload_n 3, [1], .null, []) := rfl
theorem cd305_961 : code9 305 961 = some (0, .invokestatic 117, [3, 304, 4, 0, 1, 5, 14, 0], .null, []) := rfl
theorem cd305_964 : code9 305 964 = some (0, .istore 5, [2], .null, []) := rfl
theorem cd305_966 : code9 305 966 = some (0, .aload_n 2, [1], .null, []) := rfl
theorem cd305_967 : code9 305 967 = some (0, .aload_n 0, [1], .null, []) := rfl
theorem cd305_968 : code9 305 968 = some (0, .iload 4, [2], .null, []) := rfl
theorem cd305_970 : code9 305 970 = some (0, .iconst 1, [1], .int 1, []) := rfl
theorem cd305_971 : code9 305 971 = some (0, .iadd, [1], .null, []) := rfl
theorem cd305_972 : code9 305 972 = some (0, .iaload, [1], .null, []) := rfl
theorem cd305_973 : code9 305 973 = some (0, .aload_n 0, [1], .null, []) := rfl
theorem cd305_974 : code9 305 974 = some (0, .iload 4, [2], .null, []) := rfl
theorem cd305_976 : code9 305 976 = some (0, .iconst 2, [1], .int 2, []) := rfl
theorem cd305_977 : code9 305 977 = some (0, .iadd, [1], .null, []) := rfl
theorem cd305_978 : code9 305 978 = some (0, .iaload, [1], .null, []) := rfl
theorem cd305_979 : code9 305 979 = some (0, .invokevirtual 119, [3, 250, 3, 1, 2, 3, 12, 0], .null, []) := rfl
theorem cd305_982 : code9 305 982 = some (0, .lstore 6, [2], .null, []) := rfl
theorem cd305_984 : code9 305 984 = some (0, .aload_n 2, [1], .null, []) := rfl
theorem cd305_985 : code9 305 985 = some (0, .invokevirtual 54, [3, 169, 1, 1, 1, 1, 12, 0], .null, []) := rfl
theorem cd305_988 : code9 305 988 = some (0, .iload 5, [2], .null, []) := rfl
theorem cd305_990 : code9 305 990 = some (0, .if_icmp .eq 5, [3, 995], .null, []) := rfl
theorem cd305_993 : code9 305 993 = some (0, .iconst 0, [1], .int 0, []) := rfl
theorem cd305_994 : code9 305 994 = some (0, .ireturn, [1, 3], .null, []) := rfl
theorem cd305_995 : code9 305 995 = some (0, .iload 5, [2], .null, []) := rfl
theorem cd305_997 : code9 305 997 = some (0, .ifCond .ne 14, [3, 1011], .null, []) := rfl
theorem cd305_1000 : code9 305 1000 = some (0, .aload_n 3, [1], .null, []) := rfl
theorem cd305_1001 : code9 305 1001 = some (0, .iconst 0, [1], .int 0, []) := rfl
theorem cd305_1002 : code9 305 1002 = some (0, .laload, [1], .null, []) := rfl
theorem cd305_1003 : code9 305 1003 = some (0, .lload 6, [2], .null, []) := rfl
theorem cd305_1005 : code9 305 1005 = some (0, .lcmp, [1], .null, []) := rfl
theorem cd305_1006 : code9 305 1006 = some (0, .ifCond .eq 5, [3, 1011], .null, []) := rfl
theorem cd305_1009 : code9 305 1009 = some (0, .iconst 0, [1], .int 0, []) := rfl
theorem cd305_1010 : code9 305 1010 = some (0, .ireturn, [1, 3], .null, []) := rfl
theorem cd305_1011 : code9 305 1011 = some (9, .goto 540, [3, 1551, 5], .null, []) := rfl
theorem cd305_1014 : code9 305 1014 = some (0, .aload_n 1, [1], .null, []) := rfl
theorem cd305_1015 : code9 305 1015 = some (0, .aload_n 0, [1], .null, []) := rfl
theorem cd305_1016 : code9 305 1016 = some (0, .iload 4, [2], .null, []) := rfl
theorem cd305_1018 : code9 305 1018 = some (0, .iconst 1, [1], .int 1, []) := rfl
theorem cd305_1019 : code9 305 1019 = some (0, .iadd, [1], .null, []) := rfl
theorem cd305_1020 : code9 305 1020 = some (0, .iaload, [1], .null, []) := rfl
theorem cd305_1021 : code9 305 1021 = some (0, .invokevirtual 120, [3, 140, 2, 1, 1, 2, 11, 0], .null, []) := rfl
theorem cd305_1024 : code9 305 1024 = some (0, .aload_n 2, [1], .null, []) := rfl
theorem cd305_1025 : code9 305 1025 = some (0, .aload_n 0, [1], .null, []) := rfl
theorem cd305_1026 : code9 305 1026 = some (0, .iload 4, [2], .null, []) := rfl
theorem cd305_1028 : code9 305 1028 = some (0, .iconst 1, [1], .int 1, []) := rfl
theorem cd305_1029 : code9 305 1029 = some (0, .iadd, [1], .null, []) := rfl
theorem cd305_1030 : code9 305 1030 = some (0, .iaload, [1], .null, []) := rfl
theorem cd305_1031 : code9 305 1031 = some (0, .invokevirtual 123, [3, 252, 2, 1, 1, 2, 12, 0], .null, []) := rfl
theorem cd305_1034 : code9 305 1034 = some (0, .if_icmp .eq 517, [3, 1551], .null, []) := rfl
theorem cd305_1037 : code9 305 1037 = some (0, .iconst 0, [1], .int 0, []) := rfl
theorem cd305_1038 : code9 305 1038 = some (0, .ireturn, [1, 3], .null, []) := rfl
theorem cd305_1039 : code9 305 1039 = some (0, .aload_n 1, [1], .null, []) := rfl
theorem cd305_1040 : code9 305 1040 = some (0, .aload_n 0, [1], .null, []) := rfl
theorem cd305_1041 : code9 305 1041 = some (0, .iload 4, [2], .null, []) := rfl
theorem cd305_1043 : code9 305 1043 = some (0, .iconst 1, [1], .int 1, []) := rfl
theorem cd305_1044 : code9 305 1044 = some (0, .iadd, [1], .null, []) := rfl
theorem cd305_1045 : code9 305 1045 = some (0, .iaload, [1], .null, []) := rfl
theorem cd305_1046 : code9 305 1046 = some (0, .aload_n 0, [1], .null, []) := rfl
theorem cd305_1047 : code9 305 1047 = some (0, .iload 4, [2], .null, []) := rfl
theorem cd305_1049 : code9 305 1049 = some (0, .iconst 2, [1], .int 2, []) := rfl
theorem cd305_1050 : code9 305 1050 = some (0, .iadd, [1], .null, []) := rfl
theorem cd305_1051 : code9 305 1051 = some (0, .iaload, [1], .null, []) := rfl
theorem cd305_1052 : code9 305 1052 = some (0, .aload_n 0, [1], .null, []) := rfl
theorem cd305_1053 : code9 305 1053 = some (0, .iload 4, [2], .null, []) := rfl
theorem cd305_1055 : code9 305 1055 = some (0, .iconst 3, [1], .int 3, []) := rfl
theorem cd305_1056 : code9 305 1056 = some (0, .iadd, [1], .null, []) := rfl
theorem cd305_1057 : code9 305 1057 = some (0, .iaload, [1], .null, []) := rfl
theorem cd305_1058 : code9 305 1058 = some (0, .invokevirtual 124, [3, 141, 4, 1, 1, 4, 11, 0], .null, []) := rfl
theorem cd305_1061 : code9 305 1061 = some (0, .aload_n 2, [1], .null, []) := rfl
theorem cd305_1062 : code9 305 1062 = some (0, .aload_n 0, [1], .null, []) := rfl
theorem cd305_1063 : code9 305 1063 = some (0, .iload 4, [2], .null, []) := rfl
theorem cd305_1065 : code9 305 1065 = some (0, .iconst 1, [1], .int 1, []) := rfl
theorem cd305_1066 : code9 305 1066 = some (0, .iadd, [1], .null, []) := rfl
theorem cd305_1067 : code9 305 1067 = some (0, .iaload, [1], .null, []) := rfl
theorem cd305_1068 : code9 305 1068 = some (0, .aload_n 0, [1], .null, []) := rfl
theorem cd305_1069 : code9 305 1069 = some (0, .iload 4, [2], .null, []) := rfl
theorem cd305_1071 : code9 305 1071 = some (0, .iconst 2, [1], .int 2, []) := rfl
theorem cd305_1072 : code9 305 1072 = some (0, .iadd, [1], .null, []) := rfl
theorem cd305_1073 : code9 305 1073 = some (0, .iaload, [1], .null, []) := rfl
theorem cd305_1074 : code9 305 1074 = some (0, .aload_n 0, [1], .null, []) := rfl
theorem cd305_1075 : code9 305 1075 = some (0, .iload 4, [2], .null, []) := rfl
theorem cd305_1077 : code9 305 1077 = some (0, .iconst 3, [1], .int 3, []) := rfl
theorem cd305_1078 : code9 305 1078 = some (0, .iadd, [1], .null, []) := rfl
theorem cd305_1079 : code9 305 1079 = some (0, .iaload, [1], .null, []) := rfl
theorem cd305_1080 : code9 305 1080 = some (0, .invokevirtual 127, [3, 253, 4, 1, 1, 4, 12, 0], .null, []) := rfl
theorem cd305_1083 : code9 305 1083 = some (0, .if_icmp .eq 468, [3, 1551], .null, []) := rfl
theorem cd305_1086 : code9 305 1086 = some (0, .iconst 0, [1], .int 0, []) := rfl
theorem cd305_1087 : code9 305 1087 = some (0, .ireturn, [1, 3], .null, []) := rfl
theorem cd305_1088 : code9 305 1088 = some (0, .aload_n 1, [1], .null, []) := rfl
theorem cd305_1089 : code9 305 1089 = some (0, .aload_n 0, [1], .null, []) := rfl
theorem cd305_1090 : code9 305 1090 = some (0, .iload 4, [2], .null, []) := rfl
theorem cd305_1092 : code9 305 1092 = some (0, .iconst 1, [1], .int 1, []) := rfl
theorem cd305_1093 : code9 305 1093 = some (0, .iadd, [1], .null, []) := rfl
theorem cd305_1094 : code9 305 1094 = some (0, .iaload, [1], .null, []) := rfl
theorem cd305_1095 : code9 305 1095 = some (0, .invokevirtual 128, [3, 142, 2, 1, 1, 2, 11, 0], .null, []) := rfl
theorem cd305_1098 : code9 305 1098 = some (0, .aload_n 2, [1], .null, []) := rfl
theorem cd305_1099 : code9 305 1099 = some (0, .aload_n 0, [1], .null, []) := rfl
theorem cd305_1100 : code9 305 1100 = some (0, .iload 4, [2], .null, []) := rfl
theorem cd305_1102 : code9 305 1102 = some (0, .iconst 1, [1], .int 1, []) := rfl
theorem cd305_1103 : code9 305 1103 = some (0, .iadd, [1], .null, []) := rfl
theorem cd305_1104 : code9 305 1104 = some (0, .iaload, [1], .null, []) := rfl
theorem cd305_1105 : code9 305 1105 = some (0, .invokevirtual 131, [3, 255, 2, 1, 1, 2, 12, 0], .null, []) := rfl
theorem cd305_1108 : code9 305 1108 = some (0, .if_icmp .eq 443, [3, 1551], .null, []) := rfl
theorem cd305_1111 : code9 305 1111 = some (0, .iconst 0, [1], .int 0, []) := rfl
theorem cd305_1112 : code9 305 1112 = some (0, .ireturn, [1, 3], .null, []) := rfl
theorem cd305_1113 : code9 305 1113 = some (0, .aload_n 1, [1], .null, []) := rfl
theorem cd305_1114 : code9 305 1114 = some (0, .invokevirtual 132, [3, 143, 1, 1, 1, 1, 11, 0], .null, []) := rfl
theorem cd305_1117 : code9 305 1117 = some (0, .aload_n 2, [1], .null, []) := rfl
theorem cd305_1118 : code9 305 1118 = some (0, .invokevirtual 135, [3, 256, 1, 1, 1, 1, 12, 0], .null, []) := rfl
theorem cd305_1121 : code9 305 1121 = some (0, .if_icmp .eq 430, [3, 1551], .null, []) := rfl
theorem cd305_1124 : code9 305 1124 = some (0, .iconst 0, [1], .int 0, []) := rfl
theorem cd305_1125 : code9 305 1125 = some (0, .ireturn, [1, 3], .null, []) := rfl
theorem cd305_1126 : code9 305 1126 = some (0, .aload_n 1, [1], .null, []) := rfl
theorem cd305_1127 : code9 305 1127 = some (0, .aload_n 0, [1], .null, []) := rfl
theorem cd305_1128 : code9 305 1128 = some (0, .iload 4, [2], .null, []) := rfl
theorem cd305_1130 : code9 305 1130 = some (0, .iconst 1, [1], .int 1, []) := rfl
theorem cd305_1131 : code9 305 1131 = some (0, .iadd, [1], .null, []) := rfl
theorem cd305_1132 : code9 305 1132 = some (0, .iaload, [1], .null, []) := rfl
theorem cd305_1133 : code9 305 1133 = some (0, .aload_n 0, [1], .null, []) := rfl
theorem cd305_1134 : code9 305 1134 = some (0, .iload 4, [2], .null, []) := rfl
theorem cd305_1136 : code9 305 1136 = some (0, .iconst 2, [1], .int 2, []) := rfl
theorem cd305_1137 : code9 305 1137 = some (0, .iadd, [1], .null, []) := rfl
theorem cd305_1138 : code9 305 1138 = some (0, .iaload, [1], .null, []) := rfl
theorem cd305_1139 : code9 305 1139 = some (0, .aload_n 0, [1], .null, []) := rfl
theorem cd305_1140 : code9 305 1140 = some (0, .iload 4, [2], .null, []) := rfl
theorem cd305_1142 : code9 305 1142 = some (0, .iconst 3, [1], .int 3, []) := rfl
theorem cd305_1143 : code9 305 1143 = some (0, .iadd, [1], .null, []) := rfl
theorem cd305_1144 : code9 305 1144 = some (0, .iaload, [1], .null, []) := rfl
theorem cd305_1145 : code9 305 1145 = some (0, .aload_n 0, [1], .null, []) := rfl
theorem cd305_1146 : code9 305 1146 = some (0, .iload 4, [2], .null, []) := rfl
theorem cd305_1148 : code9 305 1148 = some (0, .iconst 4, [1], .int 4, []) := rfl
theorem cd305_1149 : code9 305 1149 = some (0, .iadd, [1], .null, []) := rfl
theorem cd305_1150 : code9 305 1150 = some (0, .iaload, [1], .null, []) := rfl
theorem cd305_1151 : code9 305 1151 = some (0, .invokevirtual 136, [3, 144, 5, 1, 1, 8, 11, 0], .null, []) := rfl
theorem cd305_1154 : code9 305 1154 = some (0, .aload_n 2, [1], .null, []) := rfl
theorem cd305_1155 : code9 305 1155 = some (0, .aload_n 0, [1], .null, []) := rfl
theorem cd305_1156 : code9 305 1156 = some (0, .iload 4, [2], .null, []) := rfl
theorem cd305_1158 : code9 305 1158 = some (0, .iconst 1, [1], .int 1, []) := rfl
theorem cd305_1159 : code9 305 1159 = some (0, .iadd, [1], .null, []) := rfl
theorem cd305_1160 : code9 305 1160 = some (0, .iaload, [1], .null, []) := rfl
theorem cd305_1161 : code9 305 1161 = some (0, .aload_n 0, [1], .null, []) := rfl
theorem cd305_1162 : code9 305 1162 = some (0, .iload 4, [2], .null, []) := rfl
theorem cd305_1164 : code9 305 1164 = some (0, .iconst 2, [1], .int 2, []) := rfl
theorem cd305_1165 : code9 305 1165 = some (0, .iadd, [1], .null, []) := rfl
theorem cd305_1166 : code9 305 1166 = some (0, .iaload, [1], .null, []) := rfl
theorem cd305_1167 : code9 305 1167 = some (0, .aload_n 0, [1], .null, []) := rfl
theorem cd305_1168 : code9 305 1168 = some (0, .iload 4, [2], .null, []) := rfl
theorem cd305_1170 : code9 305 1170 = some (0, .iconst 3, [1], .int 3, []) := rfl
theorem cd305_1171 : code9 305 1171 = some (0, .iadd, [1], .null, []) := rfl
theorem cd305_1172 : code9 305 1172 = some (0, .iaload, [1], .null, []) := rfl
theorem cd305_1173 : code9 305 1173 = some (0, .aload_n 0, [1], .null, []) := rfl
theorem cd305_1174 : code9 305 1174 = some (0, .iload 4, [2], .null, []) := rfl
theorem cd305_1176 : code9 305 1176 = some (0, .iconst 4, [1], .int 4, []) := rfl
theorem cd305_1177 : code9 305 1177 = some (0, .iadd, [1], .null, []) := rfl
theorem cd305_1178 : code9 305 1178 = some (0, .iaload, [1], .null, []) := rfl
theorem cd305_1179 : code9 305 1179 = some (0, .invokevirtual 140, [3, 258, 5, 1, 1, 10, 12, 0], .null, []) := rfl
theorem cd305_1182 : code9 305 1182 = some (0, .if_icmp .eq 369, [3, 1551], .null, []) := rfl
theorem cd305_1185 : code9 305 1185 = some (0, .iconst 0, [1], .int 0, []) := rfl
theorem cd305_1186 : code9 305 1186 = some (0, .ireturn, [1, 3], .null, []) := rfl
theorem cd305_1187 : code9 305 1187 = some (0, .aload_n 1, [1], .null, []) := rfl
theorem cd305_1188 : code9 305 1188 = some (0, .invokevirtual 141, [3, 146, 1, 1, 1, 5, 11, 0], .null, []) := rfl
theorem cd305_1191 : code9 305 1191 = some (0, .aload_n 2, [1], .null, []) := rfl
theorem cd305_1192 : code9 305 1192 = some (0, .invokevirtual 144, [3, 261, 1, 1, 1, 5, 12, 0], .null, []) := rfl
theorem cd305_1195 : code9 305 1195 = some (0, .if_icmp .eq 356, [3, 1551], .null, []) := rfl
theorem cd305_1198 : code9 305 1198 = some (0, .iconst 0, [1], .int 0, []) := rfl
theorem cd305_1199 : code9 305 1199 = some (0, .ireturn, [1, 3], .null, []) := rfl
theorem cd305_1200 : code9 305 1200 = some (0, .aload_n 1, [1], .null, []) := rfl
theorem cd305_1201 : code9 305 1201 = some (0, .aload_n 0, [1], .null, []) := rfl
theorem cd305_1202 : code9 305 1202 = some (0, .iload 4, [2], .null, []) := rfl
theorem cd305_1204 : code9 305 1204 = some (0, .iconst 1, [1], .int 1, []) := rfl
theorem cd305_1205 : code9 305 1205 = some (0, .iadd, [1], .null, []) := rfl
theorem cd305_1206 : code9 305 1206 = some (0, .iaload, [1], .null, []) := rfl
theorem cd305_1207 : code9 305 1207 = some (0, .aload_n 0, [1], .null, []) := rfl
theorem cd305_1208 : code9 305 1208 = some (0, .iload 4, [2], .null, []) := rfl
theorem cd305_1210 : code9 305 1210 = some (0, .iconst 2, [1], .int 2, []) := rfl
theorem cd305_1211 : code9 305 1211 = some (0, .iadd, [1], .null, []) := rfl
theorem cd305_1212 : code9 305 1212 = some (0, .iaload, [1], .null, []) := rfl
theorem cd305_1213 : code9 305 1213 = some (0, .invokevirtual 145, [3, 147, 3, 1, 1, 3, 11, 0], .null, []) := rfl
theorem cd305_1216 : code9 305 1216 = some (0, .aload_n 2, [1], .null, []) := rfl
theorem cd305_1217 : code9 305 1217 = some (0, .aload_n 0, [1], .null, []) := rfl
theorem cd305_1218 : code9 305 1218 = some (0, .iload 4, [2], .null, []) := rfl
theorem cd305_1220 : code9 305 1220 = some (0, .iconst 1, [1], .int 1, []) := rfl
theorem cd305_1221 : code9 305 1221 = some (0, .iadd, [1], .null, []) := rfl
theorem cd305_1222 : code9 305 1222 = some (0, .iaload, [1], .null, []) := rfl
theorem cd305_1223 : code9 305 1223 = some (0, .aload_n 0, [1], .null, []) := rfl
theorem cd305_1224 : code9 305 1224 = some (0, .iload 4, [2], .null, []) := rfl
theorem cd305_1226 : code9 305 1226 = some (0, .iconst 2, [1], .int 2, []) := rfl
theorem cd305_1227 : code9 305 1227 = some (0, .iadd, [1], .null, []) := rfl
theorem cd305_1228 : code9 305 1228 = some (0, .iaload, [1], .null, []) := rfl
theorem cd305_1229 : code9 305 1229 = some (0, .invokevirtual 148, [3, 262, 3, 1, 1, 3, 12, 0], .null, []) := rfl
theorem cd305_1232 : code9 305 1232 = some (0, .if_icmp .eq 319, [3, 1551], .null, []) := rfl
theorem cd305_1235 : code9 305 1235 = some (0, .iconst 0, [1], .int 0, []) := rfl
theorem cd305_1236 : code9 305 1236 = some (0, .ireturn, [1, 3], .null, []) := rfl
theorem cd305_1237 : code9 305 1237 = some (0, .aload_n 1, [1], .null, []) := rfl
theorem cd305_1238 : code9 305 1238 = some (0, .invokevirtual 149, [3, 148, 1, 1, 1, 4, 11, 0], .null, []) := rfl
theorem cd305_1241 : code9 305 1241 = some (0, .aload_n 2, [1], .null, []) := rfl
theorem cd305_1242 : code9 305 1242 = some (0, .invokevirtual 152, [3, 263, 1, 1, 1, 6, 12, 0], .null, []) := rfl
theorem cd305_1245 : code9 305 1245 = some (0, .if_icmp .eq 306, [3, 1551], .null, []) := rfl
theorem cd305_1248 : code9 305 1248 = some (0, .iconst 0, [1], .int 0, []) := rfl
theorem cd305_1249 : code9 305 1249 = some (0, .ireturn, [1, 3], .null, []) := rfl
theorem cd305_1250 : code9 305 1250 = some (0, .aload_n 1, [1], .null, []) := rfl
theorem cd305_1251 : code9 305 1251 = some (0, .invokevirtual 153, [3, 152, 1, 1, 1, 1, 11, 0], .null, []) := rfl
theorem cd305_1254 : code9 305 1254 = some (0, .aload_n 2, [1], .null, []) := rfl
theorem cd305_1255 : code9 305 1255 = some (0, .invokevirtual 156, [3, 264, 1, 1, 1, 1, 12, 0], .null, []) := rfl
theorem cd305_1258 : code9 305 1258 = some (0, .if_icmp .eq 293, [3, 1551], .null, []) := rfl
theorem cd305_1261 : code9 305 1261 = some (0, .iconst 0, [1], .int 0, []) := rfl
theorem cd305_1262 : code9 305 1262 = some (0, .ireturn, [1, 3], .null, []) := rfl
theorem cd305_1263 : code9 305 1263 = some (0, .aload_n 1, [1], .null, []) := rfl
theorem cd305_1264 : code9 305 1264 = some (0, .invokevirtual 157, [3, 153, 1, 1, 1, 6, 11, 0], .null, []) := rfl
theorem cd305_1267 : code9 305 1267 = some (0, .aload_n 2, [1], .null, []) := rfl
theorem cd305_1268 : code9 305 1268 = some (0, .invokevirtual 160, [3, 265, 1, 1, 1, 6, 12, 0], .null, []) := rfl
theorem cd305_1271 : code9 305 1271 = some (0, .if_icmp .eq 280, [3, 1551], .null, []) := rfl
theorem cd305_1274 : code9 305 1274 = some (0, .iconst 0, [1], .int 0, []) := rfl
theorem cd305_1275 : code9 305 1275 = some (0, .ireturn, [1, 3], .null, []) := rfl
theorem cd305_1276 : code9 305 1276 = some (0, .aload_n 1, [1], .null, []) := rfl
theorem cd305_1277 : code9 305 1277 = some (0, .invokevirtual 161, [3, 154, 1, 1, 1, 1, 11, 0], .null, []) := rfl
theorem cd305_1280 : code9 305 1280 = some (0, .aload_n 2, [1], .null, []) := rfl
theorem cd305_1281 : code9 305 1281 = some (0, .invokevirtual 164, [3, 266, 1, 1, 1, 1, 12, 0], .null, []) := rfl
theorem cd305_1284 : code9 305 1284 = some (0, .if_icmp .eq 267, [3, 1551], .null, []) := rfl
theorem cd305_1287 : code9 305 1287 = some (0, .iconst 0, [1], .int 0, []) := rfl
theorem cd305_1288 : code9 305 1288 = some (0, .ireturn, [1, 3], .null, []) := rfl
theorem cd305_1289 : code9 305 1289 = some (0, .aload_n 1, [1], .null, []) := rfl
theorem cd305_1290 : code9 305 1290 = some (0, .aload_n 0, [1], .null, []) := rfl
theorem cd305_1291 : code9 305 1291 = some (0, .iload 4, [2], .null, []) := rfl
theorem cd305_1293 : code9 305 1293 = some (0, .iconst 1, [1], .int 1, []) := rfl
theorem cd305_1294 : code9 305 1294 = some (0, .iadd, [1], .null, []) := rfl
theorem cd305_1295 : code9 305 1295 = some (0, .iaload, [1], .null, []) := rfl
theorem cd305_1296 : code9 305 1296 = some (0, .invokevirtual 165, [3, 155, 2, 1, 1, 2, 11, 0], .null, []) := rfl
theorem cd305_1299 : code9 305 1299 = some (0, .aload_n 2, [1], .null, []) := rfl
theorem cd305_1300 : code9 305 1300 = some (0, .aload_n 0, [1], .null, []) := rfl
theorem cd305_1301 : code9 305 1301 = some (0, .iload 4, [2], .null, []) := rfl
theorem cd305_1303 : code9 305 1303 = some (0, .iconst 1, [1], .int 1, []) := rfl
theorem cd305_1304 : code9 305 1304 = some (0, .iadd, [1], .null, []) := rfl
theorem cd305_1305 : code9 305 1305 = some (0, .iaload, [1], .null, []) := rfl
theorem cd305_1306 : code9 305 1306 = some (0, .invokevirtual 168, [3, 267, 2, 1, 1, 2, 12, 0], .null, []) := rfl
theorem cd305_1309 : code9 305 1309 = some (0, .if_icmp .eq 242, [3, 1551], .null, []) := rfl
theorem cd305_1312 : code9 305 1312 = some (0, .iconst 0, [1], .int 0, []) := rfl
theorem cd305_1313 : code9 305 1313 = some (0, .ireturn, [1, 3], .null, []) := rfl
theorem cd305_1314 : code9 305 1314 = some (0, .aload_n 1, [1], .null, []) := rfl
theorem cd305_1315 : code9 305 1315 = some (0, .aload_n 0, [1], .null, []) := rfl
theorem cd305_1316 : code9 305 1316 = some (0, .iload 4, [2], .null, []) := rfl
theorem cd305_1318 : code9 305 1318 = some (0, .iconst 1, [1], .int 1, []) := rfl
theorem cd305_1319 : code9 305 1319 = some (0, .iadd, [1], .null, []) := rfl
theorem cd305_1320 : code9 305 1320 = some (0, .iaload, [1], .null, []) := rfl
theorem cd305_1321 : code9 305 1321 = some (0, .invokevirtual 169, [3, 156, 2, 1, 1, 2, 11, 0], .null, []) := rfl
theorem cd305_1324 : code9 305 1324 = some (0, .aload_n 2, [1], .null, []) := rfl
theorem cd305_1325 : code9 305 1325 = some (0, .aload_n 0, [1], .null, []) := rfl
theorem cd305_1326 : code9 305 1326 = some (0, .iload 4, [2], .null, []) := rfl
theorem cd305_1328 : code9 305 1328 = some (0, .iconst 1, [1], .int 1, []) := rfl
theorem cd305_1329 : code9 305 1329 = some (0, .iadd, [1], .null, []) := rfl
theorem cd305_1330 : code9 305 1330 = some (0, .iaload, [1], .null, []) := rfl
theorem cd305_1331 : code9 305 1331 = some (0, .invokevirtual 172, [3, 272, 2, 1, 1, 2, 12, 0], .null, []) := rfl
theorem cd305_1334 : code9 305 1334 = some (0, .if_icmp .eq 217, [3, 1551], .null, []) := rfl
theorem cd305_1337 : code9 305 1337 = some (0, .iconst 0, [1], .int 0, []) := rfl
theorem cd305_1338 : code9 305 1338 = some (0, .ireturn, [1, 3], .null, []) := rfl
theorem cd305_1339 : code9 305 1339 = some (0, .aload_n 1, [1], .null, []) := rfl
theorem cd305_1340 : code9 305 1340 = some (0, .aload_n 0, [1], .null, []) := rfl
theorem cd305_1341 : code9 305 1341 = some (0, .iload 4, [2], .null, []) := rfl
theorem cd305_1343 : code9 305 1343 = some (0, .iconst 1, [1], .int 1, []) := rfl
theorem cd305_1344 : code9 305 1344 = some (0, .iadd, [1], .null, []) := rfl
theorem cd305_1345 : code9 305 1345 = some (0, .iaload, [1], .null, []) := rfl
theorem cd305_1346 : code9 305 1346 = some (0, .aload_n 0, [1], .null, []) := rfl
theorem cd305_1347 : code9 305 1347 = some (0, .iload 4, [2], .null, []) := rfl
theorem cd305_1349 : code9 305 1349 = some (0, .iconst 2, [1], .int 2, []) := rfl
theorem cd305_1350 : code9 305 1350 = some (0, .iadd, [1], .null, []) := rfl
theorem cd305_1351 : code9 305 1351 = some (0, .iaload, [1], .null, []) := rfl
theorem cd305_1352 : code9 305 1352 = some (0, .aload_n 0, [1], .null, []) := rfl
theorem cd305_1353 : code9 305 1353 = some (0, .iload 4, [2], .null, []) := rfl
theorem cd305_1355 : code9 305 1355 = some (0, .iconst 3, [1], .int 3, []) := rfl
theorem cd305_1356 : code9 305 1356 = some (0, .iadd, [1], .null, []) := rfl
theorem cd305_1357 : code9 305 1357 = some (0, .iaload, [1], .null, []) := rfl
theorem cd305_1358 : code9 305 1358 = some (0, .invokevirtual 173, [3, 157, 4, 1, 1, 6, 11, 0], .null, []) := rfl
theorem cd305_1361 : code9 305 1361 = some (0, .aload_n 2, [1], .null, []) := rfl
theorem cd305_1362 : code9 305 1362 = some (0, .aload_n 0, [1], .null, []) := rfl
theorem cd305_1363 : code9 305 1363 = some (0, .iload 4, [2], .null, []) := rfl
theorem cd305_1365 : code9 305 1365 = some (0, .iconst 1, [1], .int 1, []) := rfl
theorem cd305_1366 : code9 305 1366 = some (0, .iadd, [1], .null, []) := rfl
theorem cd305_1367 : code9 305 1367 = some (0, .iaload, [1], .null, []) := rfl
theorem cd305_1368 : code9 305 1368 = some (0, .aload_n 0, [1], .null, []) := rfl
theorem cd305_1369 : code9 305 1369 = some (0, .iload 4, [2], .null, []) := rfl
theorem cd305_1371 : code9 305 1371 = some (0, .iconst 2, [1], .int 2, []) := rfl
theorem cd305_1372 : code9 305 1372 = some (0, .iadd, [1], .null, []) := rfl
theorem cd305_1373 : code9 305 1373 = some (0, .iaload, [1], .null, []) := rfl
theorem cd305_1374 : code9 305 1374 = some (0, .aload_n 0, [1], .null, []) := rfl
theorem cd305_1375 : code9 305 1375 = some (0, .iload 4, [2], .null, []) := rfl
theorem cd305_1377 : code9 305 1377 = some (0, .iconst 3, [1], .int 3, []) := rfl
theorem cd305_1378 : code9 305 1378 = some (0, .iadd, [1], .null, []) := rfl
theorem cd305_1379 : code9 305 1379 = some (0, .iaload, [1], .null, []) := rfl
theorem cd305_1380 : code9 305 1380 = some (0, .invokevirtual 176, [3, 273, 4, 1, 1, 6, 12, 0], .null, []) := rfl
theorem cd305_1383 : code9 305 1383 = some (0, .if_icmp .eq 168, [3, 1551], .null, []) := rfl
theorem cd305_1386 : code9 305 1386 = some (0, .iconst 0, [1], .int 0, []) := rfl
theorem cd305_1387 : code9 305 1387 = some (0, .ireturn, [1, 3], .null, []) := rfl
theorem cd305_1388 : code9 305 1388 = some (0, .aload_n 1, [1], .null, []) := rfl
theorem cd305_1389 : code9 305 1389 = some (0, .aload_n 0, [1], .null, []) := rfl
theorem cd305_1390 : code9 305 1390 = some (0, .iload 4, [2], .null, []) := rfl
theorem cd305_1392 : code9 305 1392 = some (0, .iconst 1, [1], .int 1, []) := rfl
theorem cd305_1393 : code9 305 1393 = some (0, .iadd, [1], .null, []) := rfl
theorem cd305_1394 : code9 305 1394 = some (0, .iaload, [1], .null, []) := rfl
theorem cd305_1395 : code9 305 1395 = some (0, .invokevirtual 177, [3, 158, 2, 1, 1, 4, 11, 0], .null, []) := rfl
theorem cd305_1398 : code9 305 1398 = some (0, .aload_n 2, [1], .null, []) := rfl
theorem cd305_1399 : code9 305 1399 = some (0, .aload_n 0, [1], .null, []) := rfl
theorem cd305_1400 : code9 305 1400 = some (0, .iload 4, [2], .null, []) := rfl
theorem cd305_1402 : code9 305 1402 = some (0, .iconst 1, [1], .int 1, []) := rfl
theorem cd305_1403 : code9 305 1403 = some (0, .iadd, [1], .null, []) := rfl
theorem cd305_1404 : code9 305 1404 = some (0, .iaload, [1], .null, []) := rfl
theorem cd305_1405 : code9 305 1405 = some (0, .invokevirtual 180, [3, 274, 2, 1, 1, 4, 12, 0], .null, []) := rfl
theorem cd305_1408 : code9 305 1408 = some (0, .if_icmp .eq 143, [3, 1551], .null, []) := rfl
theorem cd305_1411 : code9 305 1411 = some (0, .iconst 0, [1], .int 0, []) := rfl
theorem cd305_1412 : code9 305 1412 = some (0, .ireturn, [1, 3], .null, []) := rfl
theorem cd305_1413 : code9 305 1413 = some (0, .aload_n 1, [1], .null, []) := rfl
theorem cd305_1414 : code9 305 1414 = some (0, .aload_n 0, [1], .null, []) := rfl
theorem cd305_1415 : code9 305 1415 = some (0, .iload 4, [2], .null, []) := rfl
theorem cd305_1417 : code9 305 1417 = some (0, .iconst 1, [1], .int 1, []) := rfl
theorem cd305_1418 : code9 305 1418 = some (0, .iadd, [1], .null, []) := rfl
theorem cd305_1419 : code9 305 1419 = some (0, .iaload, [1], .null, []) := rfl
theorem cd305_1420 : code9 305 1420 = some (0, .invokevirtual 181, [3, 159, 2, 1, 1, 2, 11, 0], .null, []) := rfl
theorem cd305_1423 : code9 305 1423 = some (0, .aload_n 2, [1], .null, []) := rfl
theorem cd305_1424 : code9 305 1424 = some (0, .aload_n 0, [1], .null, []) := rfl
theorem cd305_1425 : code9 305 1425 = some (0, .iload 4, [2], .null, []) := rfl
theorem cd305_1427 : code9 305 1427 = some (0, .iconst 1, [1], .int 1, []) := rfl
theorem cd305_1428 : code9 305 1428 = some (0, .iadd, [1], .null, []) := rfl
theorem cd305_1429 : code9 305 1429 = some (0, .iaload, [1], .null, []) := rfl
theorem cd305_1430 : code9 305 1430 = some (0, .invokevirtual 184, [3, 282, 2, 1, 1, 2, 12, 0], .null, []) := rfl
theorem cd305_1433 : code9 305 1433 = some (0, .if_icmp .eq 118, [3, 1551], .null, []) := rfl
theorem cd305_1436 : code9 305 1436 = some (0, .iconst 0, [1], .int 0, []) := rfl
theorem cd305_1437 : code9 305 1437 = some (0, .ireturn, [1, 3], .null, []) := rfl
theorem cd305_1438 : code9 305 1438 = some (0, .aload_n 1, [1], .null, []) := rfl
theorem cd305_1439 : code9 305 1439 = some (0, .invokevirtual 185, [3, 160, 1, 1, 1, 3, 11, 0], .null, []) := rfl
theorem cd305_1442 : code9 305 1442 = some (0, .aload_n 2, [1], .null, []) := rfl
theorem cd305_1443 : code9 305 1443 = some (0, .invokevirtual 188, [3, 283, 1, 1, 1, 2, 12, 0], .null, []) := rfl
theorem cd305_1446 : code9 305 1446 = some (0, .if_icmp .eq 105, [3, 1551], .null, []) := rfl
theorem cd305_1449 : code9 305 1449 = some (0, .iconst 0, [1], .int 0, []) := rfl
theorem cd305_1450 : code9 305 1450 = some (0, .ireturn, [1, 3], .null, []) := rfl
theorem cd305_1451 : code9 305 1451 = some (0, .aload_n 1, [1], .null, []) := rfl
theorem cd305_1452 : code9 305 1452 = some (0, .aload_n 0, [1], .null, []) := rfl
theorem cd305_1453 : code9 305 1453 = some (0, .iload 4, [2], .null, []) := rfl
theorem cd305_1455 : code9 305 1455 = some (0, .iconst 1, [1], .int 1, []) := rfl
theorem cd305_1456 : code9 305 1456 = some (0, .iadd, [1], .null, []) := rfl
theorem cd305_1457 : code9 305 1457 = some (0, .iaload, [1], .null, []) := rfl
theorem cd305_1458 : code9 305 1458 = some (0, .invokevirtual 189, [3, 161, 2, 1, 1, 5, 11, 0], .null, []) := rfl
theorem cd305_1461 : code9 305 1461 = some (0, .aload_n 2, [1], .null, []) := rfl
theorem cd305_1462 : code9 305 1462 = some (0, .aload_n 0, [1], .null, []) := rfl
theorem cd305_1463 : code9 305 1463 = some (0, .iload 4, [2], .null, []) := rfl
theorem cd305_1465 : code9 305 1465 = some (0, .iconst 1, [1], .int 1, []) := rfl
theorem cd305_1466 : code9 305 1466 = some (0, .iadd, [1], .null, []) := rfl
theorem cd305_1467 : code9 305 1467 = some (0, .iaload, [1], .null, []) := rfl
theorem cd305_1468 : code9 305 1468 = some (0, .invokevirtual 192, [3, 293, 2, 1, 1, 4, 12, 0], .null, []) := rfl
theorem cd305_1471 : code9 305 1471 = some (0, .if_icmp .eq 80, [3, 1551], .null, []) := rfl
theorem cd305_1474 : code9 305 1474 = some (0, .iconst 0, [1], .int 0, []) := rfl
theorem cd305_1475 : code9 305 1475 = some (0, .ireturn, [1, 3], .null, []) := rfl
theorem cd305_1476 : code9 305 1476 = some (0, .aload_n 1, [1], .null, []) := rfl
theorem cd305_1477 : code9 305 1477 = some (0, .aload_n 0, [1], .null, []) := rfl
theorem cd305_1478 : code9 305 1478 = some (0, .iload 4, [2], .null, []) := rfl
theorem cd305_1480 : code9 305 1480 = some (0, .iconst 1, [1], .int 1, []) := rfl
theorem cd305_1481 : code9 305 1481 = some (0, .iadd, [1], .null, []) := rfl
theorem cd305_1482 : code9 305 1482 = some (0, .iaload, [1], .null, []) := rfl
theorem cd305_1483 : code9 305 1483 = some (0, .invokevirtual 193, [3, 162, 2, 1, 3, 3, 11, 0], .null, []) := rfl
theorem cd305_1486 : code9 305 1486 = some (0, .aload_n 2, [1], .null, []) := rfl
theorem cd305_1487 : code9 305 1487 = some (0, .aload_n 0, [1], .null, []) := rfl
theorem cd305_1488 : code9 305 1488 = some (0, .iload 4, [2], .null, []) := rfl
theorem cd305_1490 : code9 305 1490 = some (0, .iconst 1, [1], .int 1, []) := rfl
theorem cd305_1491 : code9 305 1491 = some (0, .iadd, [1], .null, []) := rfl
theorem cd305_1492 : code9 305 1492 = some (0, .iaload, [1], .null, []) := rfl
theorem cd305_1493 : code9 305 1493 = some (0, .invokevirtual 196, [3, 295, 2, 1, 3, 3, 12, 0], .null, []) := rfl
theorem cd305_1496 : code9 305 1496 = some (0, .if_icmp .eq 55, [3, 1551], .null, []) := rfl
theorem cd305_1499 : code9 305 1499 = some (0, .iconst 0, [1], .int 0, []) := rfl
theorem cd305_1500 : code9 305 1500 = some (0, .ireturn, [1, 3], .null, []) := rfl
theorem cd305_1501 : code9 305 1501 = some (0, .aload_n 1, [1], .null, []) := rfl
theorem cd305_1502 : code9 305 1502 = some (0, .aload_n 0, [1], .null, []) := rfl
theorem cd305_1503 : code9 305 1503 = some (0, .iload 4, [2], .null, []) := rfl
theorem cd305_1505 : code9 305 1505 = some (0, .iconst 1, [1], .int 1, []) := rfl
theorem cd305_1506 : code9 305 1506 = some (0, .iadd, [1], .null, []) := rfl
theorem cd305_1507 : code9 305 1507 = some (0, .iaload, [1], .null, []) := rfl
theorem cd305_1508 : code9 305 1508 = some (0, .invokevirtual 197, [3, 163, 2, 1, 3, 3, 11, 0], .null, []) := rfl
theorem cd305_1511 : code9 305 1511 = some (0, .aload_n 2, [1], .null, []) := rfl
theorem cd305_1512 : code9 305 1512 = some (0, .aload_n 0, [1], .null, []) := rfl
theorem cd305_1513 : code9 305 1513 = some (0, .iload 4, [2], .null, []) := rfl
theorem cd305_1515 : code9 305 1515 = some (0, .iconst 1, [1], .int 1, []) := rfl
theorem cd305_1516 : code9 305 1516 = some (0, .iadd, [1], .null, []) := rfl
theorem cd305_1517 : code9 305 1517 = some (0, .iaload, [1], .null, []) := rfl
theorem cd305_1518 : code9 305 1518 = some (0, .invokevirtual 200, [3, 296, 2, 1, 3, 3, 12, 0], .null, []) := rfl
theorem cd305_1521 : code9 305 1521 = some (0, .if_icmp .eq 30, [3, 1551], .null, []) := rfl
theorem cd305_1524 : code9 305 1524 = some (0, .iconst 0, [1], .int 0, []) := rfl
theorem cd305_1525 : code9 305 1525 = some (0, .ireturn, [1, 3], .null, []) := rfl
theorem cd305_1526 : code9 305 1526 = some (0, .aload_n 1, [1], .null, []) := rfl
theorem cd305_1527 : code9 305 1527 = some (0, .aload_n 0, [1], .null, []) := rfl
theorem cd305_1528 : code9 305 1528 = some (0, .iload 4, [2], .null, []) := rfl
theorem cd305_1530 : code9 305 1530 = some (0, .iconst 1, [1], .int 1, []) := rfl
theorem cd305_1531 : code9 305 1531 = some (0, .iadd, [1], .null, []) := rfl
theorem cd305_1532 : code9 305 1532 = some (0, .iaload, [1], .null, []) := rfl
theorem cd305_1533 : code9 305 1533 = some (0, .invokevirtual 201, [3, 164, 2, 1, 1, 2, 11, 0], .null, []) := rfl
theorem cd305_1536 : code9 305 1536 = some (0, .aload_n 2, [1], .null, []) := rfl
theorem cd305_1537 : code9 305 1537 = some (0, .aload_n 0, [1], .null, []) := rfl
theorem cd305_1538 : code9 305 1538 = some (0, .iload 4, [2], .null, []) := rfl
theorem cd305_1540 : code9 305 1540 = some (0, .iconst 1, [1], .int 1, []) := rfl
theorem cd305_1541 : code9 305 1541 = some (0, .iadd, [1], .null, []) := rfl
theorem cd305_1542 : code9 305 1542 = some (0, .iaload, [1], .null, []) := rfl
theorem cd305_1543 : code9 305 1543 = some (0, .invokevirtual 204, [3, 297, 2, 1, 1, 2, 12, 0], .null, []) := rfl
theorem cd305_1546 : code9 305 1546 = some (0, .if_icmp .eq 5, [3, 1551], .null, []) := rfl
theorem cd305_1549 : code9 305 1549 = some (0, .iconst 0, [1], .int 0, []) := rfl
theorem cd305_1550 : code9 305 1550 = some (0, .ireturn, [1, 3], .null, []) := rfl
theorem cd305_1551 : code9 305 1551 = some (6, .iinc 4 6, [3], .int 6, []) := rfl
theorem cd305_1554 : code9 305 1554 = some (0, .goto (-1531), [3, 23, 5], .null, []) := rfl
theorem cd305_1557 : code9 305 1557 = some (0, .iconst 1, [1], .int 1, []) := rfl
theorem cd305_1558 : code9 305 1558 = some (0, .ireturn, [1, 3], .null, []) := rfl
section LAW0
variable {d M pc : Nat} {ls : Loc9} {st : List Value} {cc : Nat × Nat} {S : Nat → Nat × Nat} {I : FI} {J : FJ} {P : Nat → Nat → Option Nat} {r : Res} {ln sp sn ss : Nat}
/-- a call that is caught: it returns -/
theorem g_callHI {c M' na nl ci z hd : Nat} {a : Nat} {as rs : List Value} {x : Int32} {cc' : Nat × Nat} {S' : Nat → Nat × Nat} {I' : FI} {J' : FJ} {P' : Nat → Nat → Option Nat} {L : Loc9} (h : code9 M pc = some (c, .invokevirtual z, [3, M', na, 1, 1, nl, ci, hd], .null, [])) (hc : cutA c ls = ls) (ht : tk9 na [] st = some ((.ref a :: as), rs)) (hw : cat9 rs = true) (hL : arg9 nl (.ref a :: as) = L) (hW : Nat.ble (cs9 (.ref a :: as)) nl = true) (hs : S a = (0, ci)) (hg : Go d M' 0 L [] (cc, S, I, J, P) (some (.int x), false, (cc', S', I', J', P'))) (g : Go (d + 1) M (pc + 3) ls (.int x :: rs) (cc', S', I', J', P') r) : Go (d + 1) M pc ls st (cc, S, I, J, P) r := by
  obtain ⟨N, hN⟩ := g
  obtain ⟨N2, hN2⟩ := hg
  refine go_of h ⟨N + N2, fun n hn => ?_⟩
  rw [hc]
  show (match tk9 na [] st with
    | none => none
    | some (as, r) => _) = some r
  rw [ht]
  show (bif cat9 rs && Nat.ble (cs9 (.ref a :: as)) nl then _ else none) = some r
  rw [hw, hW]
  show (if S a = (0, ci) then cI (run n d M' 0 (arg9 nl (.ref a :: as)) [] (cc, S, I, J, P)) (fun x μ => run n (d + 1) M (pc + 3) ls (.int x :: rs) μ) _ else none) = some r
  rw [if_pos hs]
  rw [hL, hN2 n (by omega)]
  exact hN n (by omega)
/-- .. it throws -/
theorem g_callXI {c M' na nl ci z hd : Nat} {a : Nat} {as rs : List Value} {cc' : Nat × Nat} {S' : Nat → Nat × Nat} {I' : FI} {J' : FJ} {P' : Nat → Nat → Option Nat} {L : Loc9} (h : code9 M pc = some (c, .invokevirtual z, [3, M', na, 1, 1, nl, ci, hd + 1], .null, [])) (hc : cutA c ls = ls) (ht : tk9 na [] st = some ((.ref a :: as), rs)) (hw : cat9 rs = true) (hL : arg9 nl (.ref a :: as) = L) (hW : Nat.ble (cs9 (.ref a :: as)) nl = true) (hs : S a = (0, ci)) (hg : Go d M' 0 L [] (cc, S, I, J, P) (none, true, (cc', S', I', J', P'))) (g : Go (d + 1) M hd ls [.ref (cc'.1 - 1)] (cc', S', I', J', P') r) : Go (d + 1) M pc ls st (cc, S, I, J, P) r := by
  obtain ⟨N, hN⟩ := g
  obtain ⟨N2, hN2⟩ := hg
  refine go_of h ⟨N + N2, fun n hn => ?_⟩
  rw [hc]
  show (match tk9 na [] st with
    | none => none
    | some (as, r) => _) = some r
  rw [ht]
  show (bif cat9 rs && Nat.ble (cs9 (.ref a :: as)) nl then _ else none) = some r
  rw [hw, hW]
  show (if S a = (0, ci) then cI (run n d M' 0 (arg9 nl (.ref a :: as)) [] (cc, S, I, J, P)) _ (fun μ => run n (d + 1) M hd ls [.ref (mHp μ - 1)] μ) else none) = some r
  rw [if_pos hs]
  rw [hL, hN2 n (by omega)]
  exact hN n (by omega)
/-- a call that is caught: it returns -/
theorem g_callHJ {c M' na nl ci z hd : Nat} {a : Nat} {as rs : List Value} {x : Int64} {cc' : Nat × Nat} {S' : Nat → Nat × Nat} {I' : FI} {J' : FJ} {P' : Nat → Nat → Option Nat} {L : Loc9} (h : code9 M pc = some (c, .invokevirtual z, [3, M', na, 1, 2, nl, ci, hd], .null, [])) (hc : cutA c ls = ls) (ht : tk9 na [] st = some ((.ref a :: as), rs)) (hw : cat9 rs = true) (hL : arg9 nl (.ref a :: as) = L) (hW : Nat.ble (cs9 (.ref a :: as)) nl = true) (hs : S a = (0, ci)) (hg : Go d M' 0 L [] (cc, S, I, J, P) (some (.long x), false, (cc', S', I', J', P'))) (g : Go (d + 1) M (pc + 3) ls (.long x :: rs) (cc', S', I', J', P') r) : Go (d + 1) M pc ls st (cc, S, I, J, P) r := by
  obtain ⟨N, hN⟩ := g
  obtain ⟨N2, hN2⟩ := hg
  refine go_of h ⟨N + N2, fun n hn => ?_⟩
  rw [hc]
  show (match tk9 na [] st with
    | none => none
    | some (as, r) => _) = some r
  rw [ht]
  show (bif cat9 rs && Nat.ble (cs9 (.ref a :: as)) nl then _ else none) = some r
  rw [hw, hW]
  show (if S a = (0, ci) then cJ (run n d M' 0 (arg9 nl (.ref a :: as)) [] (cc, S, I, J, P)) (fun x μ => run n (d + 1) M (pc + 3) ls (.long x :: rs) μ) _ else none) = some r
  rw [if_pos hs]
  rw [hL, hN2 n (by omega)]
  exact hN n (by omega)
/-- .. it throws -/
theorem g_callXJ {c M' na nl ci z hd : Nat} {a : Nat} {as rs : List Value} {cc' : Nat × Nat} {S' : Nat → Nat × Nat} {I' : FI} {J' : FJ} {P' : Nat → Nat → Option Nat} {L : Loc9} (h : code9 M pc = some (c, .invokevirtual z, [3, M', na, 1, 2, nl, ci, hd + 1], .null, [])) (hc : cutA c ls = ls) (ht : tk9 na [] st = some ((.ref a :: as), rs)) (hw : cat9 rs = true) (hL : arg9 nl (.ref a :: as) = L) (hW : Nat.ble (cs9 (.ref a :: as)) nl = true) (hs : S a = (0, ci)) (hg : Go d M' 0 L [] (cc, S, I, J, P) (none, true, (cc', S', I', J', P'))) (g : Go (d + 1) M hd ls [.ref (cc'.1 - 1)] (cc', S', I', J', P') r) : Go (d + 1) M pc ls st (cc, S, I, J, P) r := by
  obtain ⟨N, hN⟩ := g
  obtain ⟨N2, hN2⟩ := hg
  refine go_of h ⟨N + N2, fun n hn => ?_⟩
  rw [hc]
  show (match tk9 na [] st with
    | none => none
    | some (as, r) => _) = some r
  rw [ht]
  show (bif cat9 rs && Nat.ble (cs9 (.ref a :: as)) nl then _ else none) = some r
  rw [hw, hW]
  show (if S a = (0, ci) then cJ (run n d M' 0 (arg9 nl (.ref a :: as)) [] (cc, S, I, J, P)) _ (fun μ => run n (d + 1) M hd ls [.ref (mHp μ - 1)] μ) else none) = some r
  rw [if_pos hs]
  rw [hL, hN2 n (by omega)]
  exact hN n (by omega)
/-- an int of the script goes on the stack -/
theorem g_arg {L : Nat} {i kv l : Int32} {k : Int} (h1 : code9 M pc = some (0, .aload_n 0, [1], .null, [])) (h2 : code9 M (pc + 1) = some (0, .iload 4, [2], .null, [])) (h3 : code9 M (pc + 3) = some (0, .iconst k, [1], .int kv, [])) (h4 : code9 M (pc + 4) = some (0, .iadd, [1], .null, [])) (h5 : code9 M (pc + 5) = some (0, .iaload, [1], .null, [])) (hl0 : nth9 ls 0 = some (.ref oFF)) (hl4 : nth9 ls 4 = some (.int i)) (hS : S oFF = (6, L)) (hi : in9 (i + kv) L) (he : I oFF (i + kv).toNatClampNeg = l) (g : Go d M (pc + 6) ls (.int l :: st) (cc, S, I, J, P) r) : Go d M pc ls st (cc, S, I, J, P) r := by
  subst he
  refine g_aload_n h1 rfl hl0 ?_
  refine g_iload h2 rfl hl4 ?_
  refine g_iconst h3 rfl ?_
  refine g_iadd h4 rfl ?_
  refine g_iald h5 rfl ⟨Or.inr (by rw [hS]), by rw [hS]; exact hi⟩ ?_
  exact g
/-- a new object of the exception's class, as a memory -/
theorem mem_new {c : Nat × Nat} : mNew (c, S, I, J, P) (9, 0) 6 = ((c.1 + 1, c.2 + 6), (fun b => if b = c.1 then (9, 0) else S b), z2 I c.1 0, z2 J c.1 0, z2 P c.1 none) := rfl
theorem lg_self {x : Int64} : lg_cmp x x = 0 := by
  unfold lg_cmp
  simp
theorem h_find_ok {N : Nat} {c : Nat × Nat} {l1 l2 : Int32} {v : Int32} (hd : 10 ≤ d) (hc : c.1 < oFF) (hw : OH S P ln sp sn ss) (hO : S 225 = (4, 1)) (h : Hol_find ln sp sn ss l1 l2 I = some (some v)) : Go d 301 0 [some (.ref 0), some (.int l1), some (.int l2), some (.ref 225), none] [] (c, S, I, J, P) (some (.int 0), false, (c, S, I, up2 J 225 0 v.toInt64, P)) := by
  obtain ⟨d, rfl⟩ : ∃ e, d = e + 1 := ⟨d - 1, by omega⟩
  refine g_aload_n cd301_0 rfl rfl ?_
  refine g_iconst cd301_1 rfl ?_
  refine g_aload_n cd301_2 rfl rfl ?_
  refine g_iload_n cd301_3 rfl rfl ?_
  refine g_iload_n cd301_4 rfl rfl ?_
  refine g_callHI (L := [some (.ref 0), some (.int l1), some (.int l2)]) cd301_5 rfl rfl rfl rfl rfl (OH.o hw) (t_Hol_find (by omega) hc hw h) ?_
  refine g_i2l cd301_8 rfl ?_
  refine g_last cd301_9 rfl (by rw [hO]; exact ⟨rfl, by decide⟩) ?_
  refine g_goto (ls2 := [some (.ref 0), some (.int l1), some (.int l2), some (.ref 225), none]) cd301_10 rfl rfl ?_
  refine g_iconst cd301_17 rfl ?_
  exact g_iret cd301_18 (Or.inl rfl) rfl
theorem h_find_no {N : Nat} {c : Nat × Nat} {l1 l2 : Int32} (hd : 10 ≤ d) (hc : c.1 < oFF) (hw : OH S P ln sp sn ss) (h : Hol_find ln sp sn ss l1 l2 I = some none) : Go d 301 0 [some (.ref 0), some (.int l1), some (.int l2), some (.ref 225), none] [] (c, S, I, J, P) (some (.int 1), false, ((c.1 + 1, c.2 + 6), (fun b => if b = c.1 then (9, 0) else S b), z2 I c.1 0, z2 J c.1 0, z2 P c.1 none)) := by
  obtain ⟨d, rfl⟩ : ∃ e, d = e + 1 := ⟨d - 1, by omega⟩
  refine g_aload_n cd301_0 rfl rfl ?_
  refine g_iconst cd301_1 rfl ?_
  refine g_aload_n cd301_2 rfl rfl ?_
  refine g_iload_n cd301_3 rfl rfl ?_
  refine g_iload_n cd301_4 rfl rfl ?_
  refine g_callXI (L := [some (.ref 0), some (.int l1), some (.int l2)]) cd301_5 rfl rfl rfl rfl rfl (OH.o hw) (t_Hol_find (by omega) hc hw h) ?_
  refine g_astore (ls2 := [some (.ref 0), some (.int l1), some (.int l2), some (.ref 225), some (.ref (c.1 + 1 - 1))]) cd301_13 rfl rfl ?_
  refine g_iconst cd301_15 rfl ?_
  exact g_iret cd301_16 (Or.inl rfl) rfl
theorem h_belief_ok {N : Nat} {c : Nat × Nat} {l1 l2 : Int32} {v : Int64} {J1 : FJ} (hd : 10 ≤ d) (hc : c.1 < oFF) (hw : OH S P ln sp sn ss) (hO : S 225 = (4, 1)) (h : Hol_belief N ln sp sn ss l1 l2 I J = some (some v, J1)) : Go d 302 0 [some (.ref 0), some (.int l1), some (.int l2), some (.ref 225), none] [] (c, S, I, J, P) (some (.int 0), false, (c, S, I, up2 J1 225 0 v, P)) := by
  obtain ⟨d, rfl⟩ : ∃ e, d = e + 1 := ⟨d - 1, by omega⟩
  refine g_aload_n cd302_0 rfl rfl ?_
  refine g_iconst cd302_1 rfl ?_
  refine g_aload_n cd302_2 rfl rfl ?_
  refine g_iload_n cd302_3 rfl rfl ?_
  refine g_iload_n cd302_4 rfl rfl ?_
  refine g_callHJ (L := [some (.ref 0), some (.int l1), some (.int l2)]) cd302_5 rfl rfl rfl rfl rfl (OH.o hw) (t_Hol_belief (by omega) hc hw h) ?_
  refine g_last cd302_8 rfl (by rw [hO]; exact ⟨rfl, by decide⟩) ?_
  refine g_goto (ls2 := [some (.ref 0), some (.int l1), some (.int l2), some (.ref 225), none]) cd302_9 rfl rfl ?_
  refine g_iconst cd302_16 rfl ?_
  exact g_iret cd302_17 (Or.inl rfl) rfl
theorem h_belief_no {N : Nat} {c : Nat × Nat} {l1 l2 : Int32} (hd : 10 ≤ d) (hc : c.1 < oFF) (hw : OH S P ln sp sn ss) (h : Hol_belief N ln sp sn ss l1 l2 I J = some (none, J)) : Go d 302 0 [some (.ref 0), some (.int l1), some (.int l2), some (.ref 225), none] [] (c, S, I, J, P) (some (.int 1), false, ((c.1 + 1, c.2 + 6), (fun b => if b = c.1 then (9, 0) else S b), z2 I c.1 0, z2 J c.1 0, z2 P c.1 none)) := by
  obtain ⟨d, rfl⟩ : ∃ e, d = e + 1 := ⟨d - 1, by omega⟩
  refine g_aload_n cd302_0 rfl rfl ?_
  refine g_iconst cd302_1 rfl ?_
  refine g_aload_n cd302_2 rfl rfl ?_
  refine g_iload_n cd302_3 rfl rfl ?_
  refine g_iload_n cd302_4 rfl rfl ?_
  refine g_callXJ (L := [some (.ref 0), some (.int l1), some (.int l2)]) cd302_5 rfl rfl rfl rfl rfl (OH.o hw) (t_Hol_belief (by omega) hc hw h) ?_
  refine g_astore (ls2 := [some (.ref 0), some (.int l1), some (.int l2), some (.ref 225), some (.ref (c.1 + 1 - 1))]) cd302_12 rfl rfl ?_
  refine g_iconst cd302_14 rfl ?_
  exact g_iret cd302_15 (Or.inl rfl) rfl
theorem h_sure_ok {N : Nat} {c : Nat × Nat} {l1 l2 : Int32} {v : Int64} {J1 : FJ} (hd : 10 ≤ d) (hc : c.1 < oFF) (hw : OH S P ln sp sn ss) (hO : S 225 = (4, 1)) (h : Hol_sure N ln sp sn ss l1 l2 I J = some (some v, J1)) : Go d 303 0 [some (.ref 0), some (.int l1), some (.int l2), some (.ref 225), none] [] (c, S, I, J, P) (some (.int 0), false, (c, S, I, up2 J1 225 0 v, P)) := by
  obtain ⟨d, rfl⟩ : ∃ e, d = e + 1 := ⟨d - 1, by omega⟩
  refine g_aload_n cd303_0 rfl rfl ?_
  refine g_iconst cd303_1 rfl ?_
  refine g_aload_n cd303_2 rfl rfl ?_
  refine g_iload_n cd303_3 rfl rfl ?_
  refine g_iload_n cd303_4 rfl rfl ?_
  refine g_callHJ (L := [some (.ref 0), some (.int l1), some (.int l2)]) cd303_5 rfl rfl rfl rfl rfl (OH.o hw) (t_Hol_sure (by omega) hc hw h) ?_
  refine g_last cd303_8 rfl (by rw [hO]; exact ⟨rfl, by decide⟩) ?_
  refine g_goto (ls2 := [some (.ref 0), some (.int l1), some (.int l2), some (.ref 225), none]) cd303_9 rfl rfl ?_
  refine g_iconst cd303_16 rfl ?_
  exact g_iret cd303_17 (Or.inl rfl) rfl
theorem h_sure_no {N : Nat} {c : Nat × Nat} {l1 l2 : Int32} (hd : 10 ≤ d) (hc : c.1 < oFF) (hw : OH S P ln sp sn ss) (h : Hol_sure N ln sp sn ss l1 l2 I J = some (none, J)) : Go d 303 0 [some (.ref 0), some (.int l1), some (.int l2), some (.ref 225), none] [] (c, S, I, J, P) (some (.int 1), false, ((c.1 + 1, c.2 + 6), (fun b => if b = c.1 then (9, 0) else S b), z2 I c.1 0, z2 J c.1 0, z2 P c.1 none)) := by
  obtain ⟨d, rfl⟩ : ∃ e, d = e + 1 := ⟨d - 1, by omega⟩
  refine g_aload_n cd303_0 rfl rfl ?_
  refine g_iconst cd303_1 rfl ?_
  refine g_aload_n cd303_2 rfl rfl ?_
  refine g_iload_n cd303_3 rfl rfl ?_
  refine g_iload_n cd303_4 rfl rfl ?_
  refine g_callXJ (L := [some (.ref 0), some (.int l1), some (.int l2)]) cd303_5 rfl rfl rfl rfl rfl (OH.o hw) (t_Hol_sure (by omega) hc hw h) ?_
  refine g_astore (ls2 := [some (.ref 0), some (.int l1), some (.int l2), some (.ref 225), some (.ref (c.1 + 1 - 1))]) cd303_12 rfl rfl ?_
  refine g_iconst cd303_14 rfl ?_
  exact g_iret cd303_15 (Or.inl rfl) rfl
theorem h_gains_ok {N : Nat} {c : Nat × Nat} {l1 l2 : Int32} {v : Int64} {J1 : FJ} (hd : 10 ≤ d) (hc : c.1 < oFF) (hw : OH S P ln sp sn ss) (hO : S 225 = (4, 1)) (h : Hol_gains N ln sp sn ss l1 l2 I J = some (some v, J1)) : Go d 304 0 [some (.ref 0), some (.int l1), some (.int l2), some (.ref 225), none] [] (c, S, I, J, P) (some (.int 0), false, (c, S, I, up2 J1 225 0 v, P)) := by
  obtain ⟨d, rfl⟩ : ∃ e, d = e + 1 := ⟨d - 1, by omega⟩
  refine g_aload_n cd304_0 rfl rfl ?_
  refine g_iconst cd304_1 rfl ?_
  refine g_aload_n cd304_2 rfl rfl ?_
  refine g_iload_n cd304_3 rfl rfl ?_
  refine g_iload_n cd304_4 rfl rfl ?_
  refine g_callHJ (L := [some (.ref 0), some (.int l1), some (.int l2), none, none]) cd304_5 rfl rfl rfl rfl rfl (OH.o hw) (t_Hol_gains (by omega) hc hw h) ?_
  refine g_last cd304_8 rfl (by rw [hO]; exact ⟨rfl, by decide⟩) ?_
  refine g_goto (ls2 := [some (.ref 0), some (.int l1), some (.int l2), some (.ref 225), none]) cd304_9 rfl rfl ?_
  refine g_iconst cd304_16 rfl ?_
  exact g_iret cd304_17 (Or.inl rfl) rfl
theorem h_gains_no {N : Nat} {c : Nat × Nat} {l1 l2 : Int32} (hd : 10 ≤ d) (hc : c.1 < oFF) (hw : OH S P ln sp sn ss) (h : Hol_gains N ln sp sn ss l1 l2 I J = some (none, J)) : Go d 304 0 [some (.ref 0), some (.int l1), some (.int l2), some (.ref 225), none] [] (c, S, I, J, P) (some (.int 1), false, ((c.1 + 1, c.2 + 6), (fun b => if b = c.1 then (9, 0) else S b), z2 I c.1 0, z2 J c.1 0, z2 P c.1 none)) := by
  obtain ⟨d, rfl⟩ : ∃ e, d = e + 1 := ⟨d - 1, by omega⟩
  refine g_aload_n cd304_0 rfl rfl ?_
  refine g_iconst cd304_1 rfl ?_
  refine g_aload_n cd304_2 rfl rfl ?_
  refine g_iload_n cd304_3 rfl rfl ?_
  refine g_iload_n cd304_4 rfl rfl ?_
  refine g_callXJ (L := [some (.ref 0), some (.int l1), some (.int l2), none, none]) cd304_5 rfl rfl rfl rfl rfl (OH.o hw) (t_Hol_gains (by omega) hc hw h) ?_
  refine g_astore (ls2 := [some (.ref 0), some (.int l1), some (.int l2), some (.ref 225), some (.ref (c.1 + 1 - 1))]) cd304_12 rfl rfl ?_
  refine g_iconst cd304_14 rfl ?_
  exact g_iret cd304_15 (Or.inl rfl) rfl
end LAW0
