theorem dK_l_0 : dk_P cL_law [(0, (.new 7, 3)), (3, (.dup, 1)), (4, (.invokespecial 9, 3)), (7, (.astore_n 1, 1)), (8, (.new 10, 3)), (11, (.dup, 1)), (12, (.invokespecial 12, 3)), (15, (.astore_n 2, 1))] := dk_of 0 (by decide +kernel)
theorem dL_law_0 : decode cL_law 0 = .ok (.new 7, 3) := dK_l_0.1
theorem dL_law_3 : decode cL_law 3 = .ok (.dup, 1) := dK_l_0.2.1
theorem dL_law_4 : decode cL_law 4 = .ok (.invokespecial 9, 3) := dK_l_0.2.2.1
theorem dL_law_7 : decode cL_law 7 = .ok (.astore_n 1, 1) := dK_l_0.2.2.2.1
theorem dL_law_8 : decode cL_law 8 = .ok (.new 10, 3) := dK_l_0.2.2.2.2.1
theorem dL_law_11 : decode cL_law 11 = .ok (.dup, 1) := dK_l_0.2.2.2.2.2.1
theorem dL_law_12 : decode cL_law 12 = .ok (.invokespecial 12, 3) := dK_l_0.2.2.2.2.2.2.1
theorem dL_law_15 : decode cL_law 15 = .ok (.astore_n 2, 1) := dK_l_0.2.2.2.2.2.2.2.1
theorem dK_l_1 : dk_P cL_law [(16, (.iconst 0, 1)), (17, (.istore_n 3, 1)), (18, (.iload_n 3, 1)), (19, (.aload_n 0, 1)), (20, (.arraylength, 1)), (21, (.iconst 5, 1)), (22, (.isub, 1)), (23, (.if_icmp .gt 1554, 3))] := dk_of 16 (by decide +kernel)
theorem dL_law_16 : decode cL_law 16 = .ok (.iconst 0, 1) := dK_l_1.1
theorem dL_law_17 : decode cL_law 17 = .ok (.istore_n 3, 1) := dK_l_1.2.1
theorem dL_law_18 : decode cL_law 18 = .ok (.iload_n 3, 1) := dK_l_1.2.2.1
theorem dL_law_19 : decode cL_law 19 = .ok (.aload_n 0, 1) := dK_l_1.2.2.2.1
theorem dL_law_20 : decode cL_law 20 = .ok (.arraylength, 1) := dK_l_1.2.2.2.2.1
theorem dL_law_21 : decode cL_law 21 = .ok (.iconst 5, 1) := dK_l_1.2.2.2.2.2.1
theorem dL_law_22 : decode cL_law 22 = .ok (.isub, 1) := dK_l_1.2.2.2.2.2.2.1
theorem dL_law_23 : decode cL_law 23 = .ok (.if_icmp .gt 1554, 3) := dK_l_1.2.2.2.2.2.2.2.1
theorem dK_l_2 : dk_P cL_law [(26, (.aload_n 0, 1)), (27, (.iload_n 3, 1)), (28, (.iaload, 1)), (29, (.bipush 63, 2)), (31, (.iand, 1)), (32, (.tableswitch 1539 0 48 #[212, 235, 248, 281, 314, 347, 380, 403, 436, 459, 502, 545, 588, 631, 654, 687, 720, 733, 766, 799, 812, 845, 878, 901, 914, 927, 980, 993, 1006, 1029, 1052, 1085, 1108, 1121, 1134, 1187, 1220, 1253, 1296, 1319, 1342, 1375, 1408, 1431, 1454, 1477, 1490, 1503, 1516], 212)), (244, (.aload_n 1, 1)), (245, (.aload_n 0, 1))] := dk_of 26 (by decide +kernel)
theorem dL_law_26 : decode cL_law 26 = .ok (.aload_n 0, 1) := dK_l_2.1
theorem dL_law_27 : decode cL_law 27 = .ok (.iload_n 3, 1) := dK_l_2.2.1
theorem dL_law_28 : decode cL_law 28 = .ok (.iaload, 1) := dK_l_2.2.2.1
theorem dL_law_29 : decode cL_law 29 = .ok (.bipush 63, 2) := dK_l_2.2.2.2.1
theorem dL_law_31 : decode cL_law 31 = .ok (.iand, 1) := dK_l_2.2.2.2.2.1
theorem dL_law_32 : decode cL_law 32 = .ok (.tableswitch 1539 0 48 #[212, 235, 248, 281, 314, 347, 380, 403, 436, 459, 502, 545, 588, 631, 654, 687, 720, 733, 766, 799, 812, 845, 878, 901, 914, 927, 980, 993, 1006, 1029, 1052, 1085, 1108, 1121, 1134, 1187, 1220, 1253, 1296, 1319, 1342, 1375, 1408, 1431, 1454, 1477, 1490, 1503, 1516], 212) := dK_l_2.2.2.2.2.2.1
theorem dL_law_244 : decode cL_law 244 = .ok (.aload_n 1, 1) := dK_l_2.2.2.2.2.2.2.1
theorem dL_law_245 : decode cL_law 245 = .ok (.aload_n 0, 1) := dK_l_2.2.2.2.2.2.2.2.1
theorem dK_l_3 : dk_P cL_law [(246, (.iload_n 3, 1)), (247, (.iconst 1, 1)), (248, (.iadd, 1)), (249, (.iaload, 1)), (250, (.invokevirtual 13, 3)), (253, (.pop, 1)), (254, (.aload_n 2, 1)), (255, (.aload_n 0, 1))] := dk_of 246 (by decide +kernel)
theorem dL_law_246 : decode cL_law 246 = .ok (.iload_n 3, 1) := dK_l_3.1
theorem dL_law_247 : decode cL_law 247 = .ok (.iconst 1, 1) := dK_l_3.2.1
theorem dL_law_248 : decode cL_law 248 = .ok (.iadd, 1) := dK_l_3.2.2.1
theorem dL_law_249 : decode cL_law 249 = .ok (.iaload, 1) := dK_l_3.2.2.2.1
theorem dL_law_250 : decode cL_law 250 = .ok (.invokevirtual 13, 3) := dK_l_3.2.2.2.2.1
theorem dL_law_253 : decode cL_law 253 = .ok (.pop, 1) := dK_l_3.2.2.2.2.2.1
theorem dL_law_254 : decode cL_law 254 = .ok (.aload_n 2, 1) := dK_l_3.2.2.2.2.2.2.1
theorem dL_law_255 : decode cL_law 255 = .ok (.aload_n 0, 1) := dK_l_3.2.2.2.2.2.2.2.1
theorem dK_l_4 : dk_P cL_law [(256, (.iload_n 3, 1)), (257, (.iconst 1, 1)), (258, (.iadd, 1)), (259, (.iaload, 1)), (260, (.invokevirtual 17, 3)), (263, (.pop, 1)), (264, (.goto 1307, 3)), (267, (.aload_n 1, 1))] := dk_of 256 (by decide +kernel)
theorem dL_law_256 : decode cL_law 256 = .ok (.iload_n 3, 1) := dK_l_4.1
theorem dL_law_257 : decode cL_law 257 = .ok (.iconst 1, 1) := dK_l_4.2.1
theorem dL_law_258 : decode cL_law 258 = .ok (.iadd, 1) := dK_l_4.2.2.1
theorem dL_law_259 : decode cL_law 259 = .ok (.iaload, 1) := dK_l_4.2.2.2.1
theorem dL_law_260 : decode cL_law 260 = .ok (.invokevirtual 17, 3) := dK_l_4.2.2.2.2.1
theorem dL_law_263 : decode cL_law 263 = .ok (.pop, 1) := dK_l_4.2.2.2.2.2.1
theorem dL_law_264 : decode cL_law 264 = .ok (.goto 1307, 3) := dK_l_4.2.2.2.2.2.2.1
theorem dL_law_267 : decode cL_law 267 = .ok (.aload_n 1, 1) := dK_l_4.2.2.2.2.2.2.2.1
theorem dK_l_5 : dk_P cL_law [(268, (.invokevirtual 18, 3)), (271, (.pop, 1)), (272, (.aload_n 2, 1)), (273, (.invokevirtual 22, 3)), (276, (.pop, 1)), (277, (.goto 1294, 3)), (280, (.aload_n 1, 1)), (281, (.aload_n 0, 1))] := dk_of 268 (by decide +kernel)
theorem dL_law_268 : decode cL_law 268 = .ok (.invokevirtual 18, 3) := dK_l_5.1
theorem dL_law_271 : decode cL_law 271 = .ok (.pop, 1) := dK_l_5.2.1
theorem dL_law_272 : decode cL_law 272 = .ok (.aload_n 2, 1) := dK_l_5.2.2.1
theorem dL_law_273 : decode cL_law 273 = .ok (.invokevirtual 22, 3) := dK_l_5.2.2.2.1
theorem dL_law_276 : decode cL_law 276 = .ok (.pop, 1) := dK_l_5.2.2.2.2.1
theorem dL_law_277 : decode cL_law 277 = .ok (.goto 1294, 3) := dK_l_5.2.2.2.2.2.1
theorem dL_law_280 : decode cL_law 280 = .ok (.aload_n 1, 1) := dK_l_5.2.2.2.2.2.2.1
theorem dL_law_281 : decode cL_law 281 = .ok (.aload_n 0, 1) := dK_l_5.2.2.2.2.2.2.2.1
theorem dK_l_6 : dk_P cL_law [(282, (.iload_n 3, 1)), (283, (.iconst 1, 1)), (284, (.iadd, 1)), (285, (.iaload, 1)), (286, (.aload_n 0, 1)), (287, (.iload_n 3, 1)), (288, (.iconst 2, 1)), (289, (.iadd, 1))] := dk_of 282 (by decide +kernel)
theorem dL_law_282 : decode cL_law 282 = .ok (.iload_n 3, 1) := dK_l_6.1
theorem dL_law_283 : decode cL_law 283 = .ok (.iconst 1, 1) := dK_l_6.2.1
theorem dL_law_284 : decode cL_law 284 = .ok (.iadd, 1) := dK_l_6.2.2.1
theorem dL_law_285 : decode cL_law 285 = .ok (.iaload, 1) := dK_l_6.2.2.2.1
theorem dL_law_286 : decode cL_law 286 = .ok (.aload_n 0, 1) := dK_l_6.2.2.2.2.1
theorem dL_law_287 : decode cL_law 287 = .ok (.iload_n 3, 1) := dK_l_6.2.2.2.2.2.1
theorem dL_law_288 : decode cL_law 288 = .ok (.iconst 2, 1) := dK_l_6.2.2.2.2.2.2.1
theorem dL_law_289 : decode cL_law 289 = .ok (.iadd, 1) := dK_l_6.2.2.2.2.2.2.2.1
theorem dK_l_7 : dk_P cL_law [(290, (.iaload, 1)), (291, (.invokevirtual 23, 3)), (294, (.pop, 1)), (295, (.aload_n 2, 1)), (296, (.aload_n 0, 1)), (297, (.iload_n 3, 1)), (298, (.iconst 1, 1)), (299, (.iadd, 1))] := dk_of 290 (by decide +kernel)
theorem dL_law_290 : decode cL_law 290 = .ok (.iaload, 1) := dK_l_7.1
theorem dL_law_291 : decode cL_law 291 = .ok (.invokevirtual 23, 3) := dK_l_7.2.1
theorem dL_law_294 : decode cL_law 294 = .ok (.pop, 1) := dK_l_7.2.2.1
theorem dL_law_295 : decode cL_law 295 = .ok (.aload_n 2, 1) := dK_l_7.2.2.2.1
theorem dL_law_296 : decode cL_law 296 = .ok (.aload_n 0, 1) := dK_l_7.2.2.2.2.1
theorem dL_law_297 : decode cL_law 297 = .ok (.iload_n 3, 1) := dK_l_7.2.2.2.2.2.1
theorem dL_law_298 : decode cL_law 298 = .ok (.iconst 1, 1) := dK_l_7.2.2.2.2.2.2.1
theorem dL_law_299 : decode cL_law 299 = .ok (.iadd, 1) := dK_l_7.2.2.2.2.2.2.2.1
theorem dK_l_8 : dk_P cL_law [(300, (.iaload, 1)), (301, (.aload_n 0, 1)), (302, (.iload_n 3, 1)), (303, (.iconst 2, 1)), (304, (.iadd, 1)), (305, (.iaload, 1)), (306, (.invokevirtual 27, 3)), (309, (.pop, 1))] := dk_of 300 (by decide +kernel)
theorem dL_law_300 : decode cL_law 300 = .ok (.iaload, 1) := dK_l_8.1
theorem dL_law_301 : decode cL_law 301 = .ok (.aload_n 0, 1) := dK_l_8.2.1
theorem dL_law_302 : decode cL_law 302 = .ok (.iload_n 3, 1) := dK_l_8.2.2.1
theorem dL_law_303 : decode cL_law 303 = .ok (.iconst 2, 1) := dK_l_8.2.2.2.1
theorem dL_law_304 : decode cL_law 304 = .ok (.iadd, 1) := dK_l_8.2.2.2.2.1
theorem dL_law_305 : decode cL_law 305 = .ok (.iaload, 1) := dK_l_8.2.2.2.2.2.1
theorem dL_law_306 : decode cL_law 306 = .ok (.invokevirtual 27, 3) := dK_l_8.2.2.2.2.2.2.1
theorem dL_law_309 : decode cL_law 309 = .ok (.pop, 1) := dK_l_8.2.2.2.2.2.2.2.1
theorem dK_l_9 : dk_P cL_law [(310, (.goto 1261, 3)), (313, (.aload_n 1, 1)), (314, (.aload_n 0, 1)), (315, (.iload_n 3, 1)), (316, (.iconst 1, 1)), (317, (.iadd, 1)), (318, (.iaload, 1)), (319, (.aload_n 0, 1))] := dk_of 310 (by decide +kernel)
theorem dL_law_310 : decode cL_law 310 = .ok (.goto 1261, 3) := dK_l_9.1
theorem dL_law_313 : decode cL_law 313 = .ok (.aload_n 1, 1) := dK_l_9.2.1
theorem dL_law_314 : decode cL_law 314 = .ok (.aload_n 0, 1) := dK_l_9.2.2.1
theorem dL_law_315 : decode cL_law 315 = .ok (.iload_n 3, 1) := dK_l_9.2.2.2.1
theorem dL_law_316 : decode cL_law 316 = .ok (.iconst 1, 1) := dK_l_9.2.2.2.2.1
theorem dL_law_317 : decode cL_law 317 = .ok (.iadd, 1) := dK_l_9.2.2.2.2.2.1
theorem dL_law_318 : decode cL_law 318 = .ok (.iaload, 1) := dK_l_9.2.2.2.2.2.2.1
theorem dL_law_319 : decode cL_law 319 = .ok (.aload_n 0, 1) := dK_l_9.2.2.2.2.2.2.2.1
theorem dK_l_10 : dk_P cL_law [(320, (.iload_n 3, 1)), (321, (.iconst 2, 1)), (322, (.iadd, 1)), (323, (.iaload, 1)), (324, (.invokevirtual 28, 3)), (327, (.pop, 1)), (328, (.aload_n 2, 1)), (329, (.aload_n 0, 1))] := dk_of 320 (by decide +kernel)
theorem dL_law_320 : decode cL_law 320 = .ok (.iload_n 3, 1) := dK_l_10.1
theorem dL_law_321 : decode cL_law 321 = .ok (.iconst 2, 1) := dK_l_10.2.1
theorem dL_law_322 : decode cL_law 322 = .ok (.iadd, 1) := dK_l_10.2.2.1
theorem dL_law_323 : decode cL_law 323 = .ok (.iaload, 1) := dK_l_10.2.2.2.1
theorem dL_law_324 : decode cL_law 324 = .ok (.invokevirtual 28, 3) := dK_l_10.2.2.2.2.1
theorem dL_law_327 : decode cL_law 327 = .ok (.pop, 1) := dK_l_10.2.2.2.2.2.1
theorem dL_law_328 : decode cL_law 328 = .ok (.aload_n 2, 1) := dK_l_10.2.2.2.2.2.2.1
theorem dL_law_329 : decode cL_law 329 = .ok (.aload_n 0, 1) := dK_l_10.2.2.2.2.2.2.2.1
theorem dK_l_11 : dk_P cL_law [(330, (.iload_n 3, 1)), (331, (.iconst 1, 1)), (332, (.iadd, 1)), (333, (.iaload, 1)), (334, (.aload_n 0, 1)), (335, (.iload_n 3, 1)), (336, (.iconst 2, 1)), (337, (.iadd, 1))] := dk_of 330 (by decide +kernel)
theorem dL_law_330 : decode cL_law 330 = .ok (.iload_n 3, 1) := dK_l_11.1
theorem dL_law_331 : decode cL_law 331 = .ok (.iconst 1, 1) := dK_l_11.2.1
theorem dL_law_332 : decode cL_law 332 = .ok (.iadd, 1) := dK_l_11.2.2.1
theorem dL_law_333 : decode cL_law 333 = .ok (.iaload, 1) := dK_l_11.2.2.2.1
theorem dL_law_334 : decode cL_law 334 = .ok (.aload_n 0, 1) := dK_l_11.2.2.2.2.1
theorem dL_law_335 : decode cL_law 335 = .ok (.iload_n 3, 1) := dK_l_11.2.2.2.2.2.1
theorem dL_law_336 : decode cL_law 336 = .ok (.iconst 2, 1) := dK_l_11.2.2.2.2.2.2.1
theorem dL_law_337 : decode cL_law 337 = .ok (.iadd, 1) := dK_l_11.2.2.2.2.2.2.2.1
theorem dK_l_12 : dk_P cL_law [(338, (.iaload, 1)), (339, (.invokevirtual 31, 3)), (342, (.pop, 1)), (343, (.goto 1228, 3)), (346, (.aload_n 1, 1)), (347, (.aload_n 0, 1)), (348, (.iload_n 3, 1)), (349, (.iconst 1, 1))] := dk_of 338 (by decide +kernel)
theorem dL_law_338 : decode cL_law 338 = .ok (.iaload, 1) := dK_l_12.1
theorem dL_law_339 : decode cL_law 339 = .ok (.invokevirtual 31, 3) := dK_l_12.2.1
theorem dL_law_342 : decode cL_law 342 = .ok (.pop, 1) := dK_l_12.2.2.1
theorem dL_law_343 : decode cL_law 343 = .ok (.goto 1228, 3) := dK_l_12.2.2.2.1
theorem dL_law_346 : decode cL_law 346 = .ok (.aload_n 1, 1) := dK_l_12.2.2.2.2.1
theorem dL_law_347 : decode cL_law 347 = .ok (.aload_n 0, 1) := dK_l_12.2.2.2.2.2.1
theorem dL_law_348 : decode cL_law 348 = .ok (.iload_n 3, 1) := dK_l_12.2.2.2.2.2.2.1
theorem dL_law_349 : decode cL_law 349 = .ok (.iconst 1, 1) := dK_l_12.2.2.2.2.2.2.2.1
theorem dK_l_13 : dk_P cL_law [(350, (.iadd, 1)), (351, (.iaload, 1)), (352, (.aload_n 0, 1)), (353, (.iload_n 3, 1)), (354, (.iconst 2, 1)), (355, (.iadd, 1)), (356, (.iaload, 1)), (357, (.invokevirtual 32, 3))] := dk_of 350 (by decide +kernel)
theorem dL_law_350 : decode cL_law 350 = .ok (.iadd, 1) := dK_l_13.1
theorem dL_law_351 : decode cL_law 351 = .ok (.iaload, 1) := dK_l_13.2.1
theorem dL_law_352 : decode cL_law 352 = .ok (.aload_n 0, 1) := dK_l_13.2.2.1
theorem dL_law_353 : decode cL_law 353 = .ok (.iload_n 3, 1) := dK_l_13.2.2.2.1
theorem dL_law_354 : decode cL_law 354 = .ok (.iconst 2, 1) := dK_l_13.2.2.2.2.1
theorem dL_law_355 : decode cL_law 355 = .ok (.iadd, 1) := dK_l_13.2.2.2.2.2.1
theorem dL_law_356 : decode cL_law 356 = .ok (.iaload, 1) := dK_l_13.2.2.2.2.2.2.1
theorem dL_law_357 : decode cL_law 357 = .ok (.invokevirtual 32, 3) := dK_l_13.2.2.2.2.2.2.2.1
theorem dK_l_14 : dk_P cL_law [(360, (.aload_n 2, 1)), (361, (.aload_n 0, 1)), (362, (.iload_n 3, 1)), (363, (.iconst 1, 1)), (364, (.iadd, 1)), (365, (.iaload, 1)), (366, (.aload_n 0, 1)), (367, (.iload_n 3, 1))] := dk_of 360 (by decide +kernel)
theorem dL_law_360 : decode cL_law 360 = .ok (.aload_n 2, 1) := dK_l_14.1
theorem dL_law_361 : decode cL_law 361 = .ok (.aload_n 0, 1) := dK_l_14.2.1
theorem dL_law_362 : decode cL_law 362 = .ok (.iload_n 3, 1) := dK_l_14.2.2.1
theorem dL_law_363 : decode cL_law 363 = .ok (.iconst 1, 1) := dK_l_14.2.2.2.1
theorem dL_law_364 : decode cL_law 364 = .ok (.iadd, 1) := dK_l_14.2.2.2.2.1
theorem dL_law_365 : decode cL_law 365 = .ok (.iaload, 1) := dK_l_14.2.2.2.2.2.1
theorem dL_law_366 : decode cL_law 366 = .ok (.aload_n 0, 1) := dK_l_14.2.2.2.2.2.2.1
theorem dL_law_367 : decode cL_law 367 = .ok (.iload_n 3, 1) := dK_l_14.2.2.2.2.2.2.2.1
theorem dK_l_15 : dk_P cL_law [(368, (.iconst 2, 1)), (369, (.iadd, 1)), (370, (.iaload, 1)), (371, (.invokevirtual 35, 3)), (374, (.if_icmp .eq 1197, 3)), (377, (.iconst 0, 1)), (378, (.ireturn, 1)), (379, (.aload_n 1, 1))] := dk_of 368 (by decide +kernel)
theorem dL_law_368 : decode cL_law 368 = .ok (.iconst 2, 1) := dK_l_15.1
theorem dL_law_369 : decode cL_law 369 = .ok (.iadd, 1) := dK_l_15.2.1
theorem dL_law_370 : decode cL_law 370 = .ok (.iaload, 1) := dK_l_15.2.2.1
theorem dL_law_371 : decode cL_law 371 = .ok (.invokevirtual 35, 3) := dK_l_15.2.2.2.1
theorem dL_law_374 : decode cL_law 374 = .ok (.if_icmp .eq 1197, 3) := dK_l_15.2.2.2.2.1
theorem dL_law_377 : decode cL_law 377 = .ok (.iconst 0, 1) := dK_l_15.2.2.2.2.2.1
theorem dL_law_378 : decode cL_law 378 = .ok (.ireturn, 1) := dK_l_15.2.2.2.2.2.2.1
theorem dL_law_379 : decode cL_law 379 = .ok (.aload_n 1, 1) := dK_l_15.2.2.2.2.2.2.2.1
theorem dK_l_16 : dk_P cL_law [(380, (.aload_n 0, 1)), (381, (.iload_n 3, 1)), (382, (.iconst 1, 1)), (383, (.iadd, 1)), (384, (.iaload, 1)), (385, (.aload_n 0, 1)), (386, (.iload_n 3, 1)), (387, (.iconst 2, 1))] := dk_of 380 (by decide +kernel)
theorem dL_law_380 : decode cL_law 380 = .ok (.aload_n 0, 1) := dK_l_16.1
theorem dL_law_381 : decode cL_law 381 = .ok (.iload_n 3, 1) := dK_l_16.2.1
theorem dL_law_382 : decode cL_law 382 = .ok (.iconst 1, 1) := dK_l_16.2.2.1
theorem dL_law_383 : decode cL_law 383 = .ok (.iadd, 1) := dK_l_16.2.2.2.1
theorem dL_law_384 : decode cL_law 384 = .ok (.iaload, 1) := dK_l_16.2.2.2.2.1
theorem dL_law_385 : decode cL_law 385 = .ok (.aload_n 0, 1) := dK_l_16.2.2.2.2.2.1
theorem dL_law_386 : decode cL_law 386 = .ok (.iload_n 3, 1) := dK_l_16.2.2.2.2.2.2.1
theorem dL_law_387 : decode cL_law 387 = .ok (.iconst 2, 1) := dK_l_16.2.2.2.2.2.2.2.1
theorem dK_l_17 : dk_P cL_law [(388, (.iadd, 1)), (389, (.iaload, 1)), (390, (.invokevirtual 36, 3)), (393, (.pop, 1)), (394, (.aload_n 2, 1)), (395, (.aload_n 0, 1)), (396, (.iload_n 3, 1)), (397, (.iconst 1, 1))] := dk_of 388 (by decide +kernel)
theorem dL_law_388 : decode cL_law 388 = .ok (.iadd, 1) := dK_l_17.1
theorem dL_law_389 : decode cL_law 389 = .ok (.iaload, 1) := dK_l_17.2.1
theorem dL_law_390 : decode cL_law 390 = .ok (.invokevirtual 36, 3) := dK_l_17.2.2.1
theorem dL_law_393 : decode cL_law 393 = .ok (.pop, 1) := dK_l_17.2.2.2.1
theorem dL_law_394 : decode cL_law 394 = .ok (.aload_n 2, 1) := dK_l_17.2.2.2.2.1
theorem dL_law_395 : decode cL_law 395 = .ok (.aload_n 0, 1) := dK_l_17.2.2.2.2.2.1
theorem dL_law_396 : decode cL_law 396 = .ok (.iload_n 3, 1) := dK_l_17.2.2.2.2.2.2.1
theorem dL_law_397 : decode cL_law 397 = .ok (.iconst 1, 1) := dK_l_17.2.2.2.2.2.2.2.1
theorem dK_l_18 : dk_P cL_law [(398, (.iadd, 1)), (399, (.iaload, 1)), (400, (.aload_n 0, 1)), (401, (.iload_n 3, 1)), (402, (.iconst 2, 1)), (403, (.iadd, 1)), (404, (.iaload, 1)), (405, (.invokevirtual 39, 3))] := dk_of 398 (by decide +kernel)
theorem dL_law_398 : decode cL_law 398 = .ok (.iadd, 1) := dK_l_18.1
theorem dL_law_399 : decode cL_law 399 = .ok (.iaload, 1) := dK_l_18.2.1
theorem dL_law_400 : decode cL_law 400 = .ok (.aload_n 0, 1) := dK_l_18.2.2.1
theorem dL_law_401 : decode cL_law 401 = .ok (.iload_n 3, 1) := dK_l_18.2.2.2.1
theorem dL_law_402 : decode cL_law 402 = .ok (.iconst 2, 1) := dK_l_18.2.2.2.2.1
theorem dL_law_403 : decode cL_law 403 = .ok (.iadd, 1) := dK_l_18.2.2.2.2.2.1
theorem dL_law_404 : decode cL_law 404 = .ok (.iaload, 1) := dK_l_18.2.2.2.2.2.2.1
theorem dL_law_405 : decode cL_law 405 = .ok (.invokevirtual 39, 3) := dK_l_18.2.2.2.2.2.2.2.1
theorem dK_l_19 : dk_P cL_law [(408, (.pop, 1)), (409, (.goto 1162, 3)), (412, (.aload_n 1, 1)), (413, (.aload_n 0, 1)), (414, (.iload_n 3, 1)), (415, (.iconst 1, 1)), (416, (.iadd, 1)), (417, (.iaload, 1))] := dk_of 408 (by decide +kernel)
theorem dL_law_408 : decode cL_law 408 = .ok (.pop, 1) := dK_l_19.1
theorem dL_law_409 : decode cL_law 409 = .ok (.goto 1162, 3) := dK_l_19.2.1
theorem dL_law_412 : decode cL_law 412 = .ok (.aload_n 1, 1) := dK_l_19.2.2.1
theorem dL_law_413 : decode cL_law 413 = .ok (.aload_n 0, 1) := dK_l_19.2.2.2.1
theorem dL_law_414 : decode cL_law 414 = .ok (.iload_n 3, 1) := dK_l_19.2.2.2.2.1
theorem dL_law_415 : decode cL_law 415 = .ok (.iconst 1, 1) := dK_l_19.2.2.2.2.2.1
theorem dL_law_416 : decode cL_law 416 = .ok (.iadd, 1) := dK_l_19.2.2.2.2.2.2.1
theorem dL_law_417 : decode cL_law 417 = .ok (.iaload, 1) := dK_l_19.2.2.2.2.2.2.2.1
theorem dK_l_20 : dk_P cL_law [(418, (.invokevirtual 40, 3)), (421, (.pop, 1)), (422, (.aload_n 2, 1)), (423, (.aload_n 0, 1)), (424, (.iload_n 3, 1)), (425, (.iconst 1, 1)), (426, (.iadd, 1)), (427, (.iaload, 1))] := dk_of 418 (by decide +kernel)
theorem dL_law_418 : decode cL_law 418 = .ok (.invokevirtual 40, 3) := dK_l_20.1
theorem dL_law_421 : decode cL_law 421 = .ok (.pop, 1) := dK_l_20.2.1
theorem dL_law_422 : decode cL_law 422 = .ok (.aload_n 2, 1) := dK_l_20.2.2.1
theorem dL_law_423 : decode cL_law 423 = .ok (.aload_n 0, 1) := dK_l_20.2.2.2.1
theorem dL_law_424 : decode cL_law 424 = .ok (.iload_n 3, 1) := dK_l_20.2.2.2.2.1
theorem dL_law_425 : decode cL_law 425 = .ok (.iconst 1, 1) := dK_l_20.2.2.2.2.2.1
theorem dL_law_426 : decode cL_law 426 = .ok (.iadd, 1) := dK_l_20.2.2.2.2.2.2.1
theorem dL_law_427 : decode cL_law 427 = .ok (.iaload, 1) := dK_l_20.2.2.2.2.2.2.2.1
theorem dK_l_21 : dk_P cL_law [(428, (.invokevirtual 43, 3)), (431, (.pop, 1)), (432, (.goto 1139, 3)), (435, (.aload_n 1, 1)), (436, (.aload_n 0, 1)), (437, (.iload_n 3, 1)), (438, (.iconst 1, 1)), (439, (.iadd, 1))] := dk_of 428 (by decide +kernel)
theorem dL_law_428 : decode cL_law 428 = .ok (.invokevirtual 43, 3) := dK_l_21.1
theorem dL_law_431 : decode cL_law 431 = .ok (.pop, 1) := dK_l_21.2.1
theorem dL_law_432 : decode cL_law 432 = .ok (.goto 1139, 3) := dK_l_21.2.2.1
theorem dL_law_435 : decode cL_law 435 = .ok (.aload_n 1, 1) := dK_l_21.2.2.2.1
theorem dL_law_436 : decode cL_law 436 = .ok (.aload_n 0, 1) := dK_l_21.2.2.2.2.1
theorem dL_law_437 : decode cL_law 437 = .ok (.iload_n 3, 1) := dK_l_21.2.2.2.2.2.1
theorem dL_law_438 : decode cL_law 438 = .ok (.iconst 1, 1) := dK_l_21.2.2.2.2.2.2.1
theorem dL_law_439 : decode cL_law 439 = .ok (.iadd, 1) := dK_l_21.2.2.2.2.2.2.2.1
theorem dK_l_22 : dk_P cL_law [(440, (.iaload, 1)), (441, (.aload_n 0, 1)), (442, (.iload_n 3, 1)), (443, (.iconst 2, 1)), (444, (.iadd, 1)), (445, (.iaload, 1)), (446, (.invokevirtual 44, 3)), (449, (.pop, 1))] := dk_of 440 (by decide +kernel)
theorem dL_law_440 : decode cL_law 440 = .ok (.iaload, 1) := dK_l_22.1
theorem dL_law_441 : decode cL_law 441 = .ok (.aload_n 0, 1) := dK_l_22.2.1
theorem dL_law_442 : decode cL_law 442 = .ok (.iload_n 3, 1) := dK_l_22.2.2.1
theorem dL_law_443 : decode cL_law 443 = .ok (.iconst 2, 1) := dK_l_22.2.2.2.1
theorem dL_law_444 : decode cL_law 444 = .ok (.iadd, 1) := dK_l_22.2.2.2.2.1
theorem dL_law_445 : decode cL_law 445 = .ok (.iaload, 1) := dK_l_22.2.2.2.2.2.1
theorem dL_law_446 : decode cL_law 446 = .ok (.invokevirtual 44, 3) := dK_l_22.2.2.2.2.2.2.1
theorem dL_law_449 : decode cL_law 449 = .ok (.pop, 1) := dK_l_22.2.2.2.2.2.2.2.1
theorem dK_l_23 : dk_P cL_law [(450, (.aload_n 2, 1)), (451, (.aload_n 0, 1)), (452, (.iload_n 3, 1)), (453, (.iconst 1, 1)), (454, (.iadd, 1)), (455, (.iaload, 1)), (456, (.aload_n 0, 1)), (457, (.iload_n 3, 1))] := dk_of 450 (by decide +kernel)
theorem dL_law_450 : decode cL_law 450 = .ok (.aload_n 2, 1) := dK_l_23.1
theorem dL_law_451 : decode cL_law 451 = .ok (.aload_n 0, 1) := dK_l_23.2.1
theorem dL_law_452 : decode cL_law 452 = .ok (.iload_n 3, 1) := dK_l_23.2.2.1
theorem dL_law_453 : decode cL_law 453 = .ok (.iconst 1, 1) := dK_l_23.2.2.2.1
theorem dL_law_454 : decode cL_law 454 = .ok (.iadd, 1) := dK_l_23.2.2.2.2.1
theorem dL_law_455 : decode cL_law 455 = .ok (.iaload, 1) := dK_l_23.2.2.2.2.2.1
theorem dL_law_456 : decode cL_law 456 = .ok (.aload_n 0, 1) := dK_l_23.2.2.2.2.2.2.1
theorem dL_law_457 : decode cL_law 457 = .ok (.iload_n 3, 1) := dK_l_23.2.2.2.2.2.2.2.1
theorem dK_l_24 : dk_P cL_law [(458, (.iconst 2, 1)), (459, (.iadd, 1)), (460, (.iaload, 1)), (461, (.invokevirtual 47, 3)), (464, (.pop, 1)), (465, (.goto 1106, 3)), (468, (.aload_n 1, 1)), (469, (.aload_n 0, 1))] := dk_of 458 (by decide +kernel)
theorem dL_law_458 : decode cL_law 458 = .ok (.iconst 2, 1) := dK_l_24.1
theorem dL_law_459 : decode cL_law 459 = .ok (.iadd, 1) := dK_l_24.2.1
theorem dL_law_460 : decode cL_law 460 = .ok (.iaload, 1) := dK_l_24.2.2.1
theorem dL_law_461 : decode cL_law 461 = .ok (.invokevirtual 47, 3) := dK_l_24.2.2.2.1
theorem dL_law_464 : decode cL_law 464 = .ok (.pop, 1) := dK_l_24.2.2.2.2.1
theorem dL_law_465 : decode cL_law 465 = .ok (.goto 1106, 3) := dK_l_24.2.2.2.2.2.1
theorem dL_law_468 : decode cL_law 468 = .ok (.aload_n 1, 1) := dK_l_24.2.2.2.2.2.2.1
theorem dL_law_469 : decode cL_law 469 = .ok (.aload_n 0, 1) := dK_l_24.2.2.2.2.2.2.2.1
theorem dK_l_25 : dk_P cL_law [(470, (.iload_n 3, 1)), (471, (.iconst 1, 1)), (472, (.iadd, 1)), (473, (.iaload, 1)), (474, (.invokevirtual 48, 3)), (477, (.pop, 1)), (478, (.aload_n 2, 1)), (479, (.aload_n 0, 1))] := dk_of 470 (by decide +kernel)
theorem dL_law_470 : decode cL_law 470 = .ok (.iload_n 3, 1) := dK_l_25.1
theorem dL_law_471 : decode cL_law 471 = .ok (.iconst 1, 1) := dK_l_25.2.1
theorem dL_law_472 : decode cL_law 472 = .ok (.iadd, 1) := dK_l_25.2.2.1
theorem dL_law_473 : decode cL_law 473 = .ok (.iaload, 1) := dK_l_25.2.2.2.1
theorem dL_law_474 : decode cL_law 474 = .ok (.invokevirtual 48, 3) := dK_l_25.2.2.2.2.1
theorem dL_law_477 : decode cL_law 477 = .ok (.pop, 1) := dK_l_25.2.2.2.2.2.1
theorem dL_law_478 : decode cL_law 478 = .ok (.aload_n 2, 1) := dK_l_25.2.2.2.2.2.2.1
theorem dL_law_479 : decode cL_law 479 = .ok (.aload_n 0, 1) := dK_l_25.2.2.2.2.2.2.2.1
theorem dK_l_26 : dk_P cL_law [(480, (.iload_n 3, 1)), (481, (.iconst 1, 1)), (482, (.iadd, 1)), (483, (.iaload, 1)), (484, (.invokevirtual 51, 3)), (487, (.pop, 1)), (488, (.goto 1083, 3)), (491, (.aload_n 1, 1))] := dk_of 480 (by decide +kernel)
theorem dL_law_480 : decode cL_law 480 = .ok (.iload_n 3, 1) := dK_l_26.1
theorem dL_law_481 : decode cL_law 481 = .ok (.iconst 1, 1) := dK_l_26.2.1
theorem dL_law_482 : decode cL_law 482 = .ok (.iadd, 1) := dK_l_26.2.2.1
theorem dL_law_483 : decode cL_law 483 = .ok (.iaload, 1) := dK_l_26.2.2.2.1
theorem dL_law_484 : decode cL_law 484 = .ok (.invokevirtual 51, 3) := dK_l_26.2.2.2.2.1
theorem dL_law_487 : decode cL_law 487 = .ok (.pop, 1) := dK_l_26.2.2.2.2.2.1
theorem dL_law_488 : decode cL_law 488 = .ok (.goto 1083, 3) := dK_l_26.2.2.2.2.2.2.1
theorem dL_law_491 : decode cL_law 491 = .ok (.aload_n 1, 1) := dK_l_26.2.2.2.2.2.2.2.1
theorem dK_l_27 : dk_P cL_law [(492, (.aload_n 0, 1)), (493, (.iload_n 3, 1)), (494, (.iconst 1, 1)), (495, (.iadd, 1)), (496, (.iaload, 1)), (497, (.aload_n 0, 1)), (498, (.iload_n 3, 1)), (499, (.iconst 2, 1))] := dk_of 492 (by decide +kernel)
theorem dL_law_492 : decode cL_law 492 = .ok (.aload_n 0, 1) := dK_l_27.1
theorem dL_law_493 : decode cL_law 493 = .ok (.iload_n 3, 1) := dK_l_27.2.1
theorem dL_law_494 : decode cL_law 494 = .ok (.iconst 1, 1) := dK_l_27.2.2.1
theorem dL_law_495 : decode cL_law 495 = .ok (.iadd, 1) := dK_l_27.2.2.2.1
theorem dL_law_496 : decode cL_law 496 = .ok (.iaload, 1) := dK_l_27.2.2.2.2.1
theorem dL_law_497 : decode cL_law 497 = .ok (.aload_n 0, 1) := dK_l_27.2.2.2.2.2.1
theorem dL_law_498 : decode cL_law 498 = .ok (.iload_n 3, 1) := dK_l_27.2.2.2.2.2.2.1
theorem dL_law_499 : decode cL_law 499 = .ok (.iconst 2, 1) := dK_l_27.2.2.2.2.2.2.2.1
theorem dK_l_28 : dk_P cL_law [(500, (.iadd, 1)), (501, (.iaload, 1)), (502, (.aload_n 0, 1)), (503, (.iload_n 3, 1)), (504, (.iconst 3, 1)), (505, (.iadd, 1)), (506, (.iaload, 1)), (507, (.invokevirtual 52, 3))] := dk_of 500 (by decide +kernel)
theorem dL_law_500 : decode cL_law 500 = .ok (.iadd, 1) := dK_l_28.1
theorem dL_law_501 : decode cL_law 501 = .ok (.iaload, 1) := dK_l_28.2.1
theorem dL_law_502 : decode cL_law 502 = .ok (.aload_n 0, 1) := dK_l_28.2.2.1
theorem dL_law_503 : decode cL_law 503 = .ok (.iload_n 3, 1) := dK_l_28.2.2.2.1
theorem dL_law_504 : decode cL_law 504 = .ok (.iconst 3, 1) := dK_l_28.2.2.2.2.1
theorem dL_law_505 : decode cL_law 505 = .ok (.iadd, 1) := dK_l_28.2.2.2.2.2.1
theorem dL_law_506 : decode cL_law 506 = .ok (.iaload, 1) := dK_l_28.2.2.2.2.2.2.1
theorem dL_law_507 : decode cL_law 507 = .ok (.invokevirtual 52, 3) := dK_l_28.2.2.2.2.2.2.2.1
theorem dK_l_29 : dk_P cL_law [(510, (.pop, 1)), (511, (.aload_n 2, 1)), (512, (.aload_n 0, 1)), (513, (.iload_n 3, 1)), (514, (.iconst 1, 1)), (515, (.iadd, 1)), (516, (.iaload, 1)), (517, (.aload_n 0, 1))] := dk_of 510 (by decide +kernel)
theorem dL_law_510 : decode cL_law 510 = .ok (.pop, 1) := dK_l_29.1
theorem dL_law_511 : decode cL_law 511 = .ok (.aload_n 2, 1) := dK_l_29.2.1
theorem dL_law_512 : decode cL_law 512 = .ok (.aload_n 0, 1) := dK_l_29.2.2.1
theorem dL_law_513 : decode cL_law 513 = .ok (.iload_n 3, 1) := dK_l_29.2.2.2.1
theorem dL_law_514 : decode cL_law 514 = .ok (.iconst 1, 1) := dK_l_29.2.2.2.2.1
theorem dL_law_515 : decode cL_law 515 = .ok (.iadd, 1) := dK_l_29.2.2.2.2.2.1
theorem dL_law_516 : decode cL_law 516 = .ok (.iaload, 1) := dK_l_29.2.2.2.2.2.2.1
theorem dL_law_517 : decode cL_law 517 = .ok (.aload_n 0, 1) := dK_l_29.2.2.2.2.2.2.2.1
theorem dK_l_30 : dk_P cL_law [(518, (.iload_n 3, 1)), (519, (.iconst 2, 1)), (520, (.iadd, 1)), (521, (.iaload, 1)), (522, (.aload_n 0, 1)), (523, (.iload_n 3, 1)), (524, (.iconst 3, 1)), (525, (.iadd, 1))] := dk_of 518 (by decide +kernel)
theorem dL_law_518 : decode cL_law 518 = .ok (.iload_n 3, 1) := dK_l_30.1
theorem dL_law_519 : decode cL_law 519 = .ok (.iconst 2, 1) := dK_l_30.2.1
theorem dL_law_520 : decode cL_law 520 = .ok (.iadd, 1) := dK_l_30.2.2.1
theorem dL_law_521 : decode cL_law 521 = .ok (.iaload, 1) := dK_l_30.2.2.2.1
theorem dL_law_522 : decode cL_law 522 = .ok (.aload_n 0, 1) := dK_l_30.2.2.2.2.1
theorem dL_law_523 : decode cL_law 523 = .ok (.iload_n 3, 1) := dK_l_30.2.2.2.2.2.1
theorem dL_law_524 : decode cL_law 524 = .ok (.iconst 3, 1) := dK_l_30.2.2.2.2.2.2.1
theorem dL_law_525 : decode cL_law 525 = .ok (.iadd, 1) := dK_l_30.2.2.2.2.2.2.2.1
theorem dK_l_31 : dk_P cL_law [(526, (.iaload, 1)), (527, (.invokevirtual 56, 3)), (530, (.pop, 1)), (531, (.goto 1040, 3)), (534, (.aload_n 1, 1)), (535, (.aload_n 0, 1)), (536, (.iload_n 3, 1)), (537, (.iconst 1, 1))] := dk_of 526 (by decide +kernel)
theorem dL_law_526 : decode cL_law 526 = .ok (.iaload, 1) := dK_l_31.1
theorem dL_law_527 : decode cL_law 527 = .ok (.invokevirtual 56, 3) := dK_l_31.2.1
theorem dL_law_530 : decode cL_law 530 = .ok (.pop, 1) := dK_l_31.2.2.1
theorem dL_law_531 : decode cL_law 531 = .ok (.goto 1040, 3) := dK_l_31.2.2.2.1
theorem dL_law_534 : decode cL_law 534 = .ok (.aload_n 1, 1) := dK_l_31.2.2.2.2.1
theorem dL_law_535 : decode cL_law 535 = .ok (.aload_n 0, 1) := dK_l_31.2.2.2.2.2.1
theorem dL_law_536 : decode cL_law 536 = .ok (.iload_n 3, 1) := dK_l_31.2.2.2.2.2.2.1
theorem dL_law_537 : decode cL_law 537 = .ok (.iconst 1, 1) := dK_l_31.2.2.2.2.2.2.2.1
theorem dK_l_32 : dk_P cL_law [(538, (.iadd, 1)), (539, (.iaload, 1)), (540, (.aload_n 0, 1)), (541, (.iload_n 3, 1)), (542, (.iconst 2, 1)), (543, (.iadd, 1)), (544, (.iaload, 1)), (545, (.aload_n 0, 1))] := dk_of 538 (by decide +kernel)
theorem dL_law_538 : decode cL_law 538 = .ok (.iadd, 1) := dK_l_32.1
theorem dL_law_539 : decode cL_law 539 = .ok (.iaload, 1) := dK_l_32.2.1
theorem dL_law_540 : decode cL_law 540 = .ok (.aload_n 0, 1) := dK_l_32.2.2.1
theorem dL_law_541 : decode cL_law 541 = .ok (.iload_n 3, 1) := dK_l_32.2.2.2.1
theorem dL_law_542 : decode cL_law 542 = .ok (.iconst 2, 1) := dK_l_32.2.2.2.2.1
theorem dL_law_543 : decode cL_law 543 = .ok (.iadd, 1) := dK_l_32.2.2.2.2.2.1
theorem dL_law_544 : decode cL_law 544 = .ok (.iaload, 1) := dK_l_32.2.2.2.2.2.2.1
theorem dL_law_545 : decode cL_law 545 = .ok (.aload_n 0, 1) := dK_l_32.2.2.2.2.2.2.2.1
theorem dK_l_33 : dk_P cL_law [(546, (.iload_n 3, 1)), (547, (.iconst 3, 1)), (548, (.iadd, 1)), (549, (.iaload, 1)), (550, (.invokevirtual 57, 3)), (553, (.pop2, 1)), (554, (.aload_n 2, 1)), (555, (.aload_n 0, 1))] := dk_of 546 (by decide +kernel)
theorem dL_law_546 : decode cL_law 546 = .ok (.iload_n 3, 1) := dK_l_33.1
theorem dL_law_547 : decode cL_law 547 = .ok (.iconst 3, 1) := dK_l_33.2.1
theorem dL_law_548 : decode cL_law 548 = .ok (.iadd, 1) := dK_l_33.2.2.1
theorem dL_law_549 : decode cL_law 549 = .ok (.iaload, 1) := dK_l_33.2.2.2.1
theorem dL_law_550 : decode cL_law 550 = .ok (.invokevirtual 57, 3) := dK_l_33.2.2.2.2.1
theorem dL_law_553 : decode cL_law 553 = .ok (.pop2, 1) := dK_l_33.2.2.2.2.2.1
theorem dL_law_554 : decode cL_law 554 = .ok (.aload_n 2, 1) := dK_l_33.2.2.2.2.2.2.1
theorem dL_law_555 : decode cL_law 555 = .ok (.aload_n 0, 1) := dK_l_33.2.2.2.2.2.2.2.1
theorem dK_l_34 : dk_P cL_law [(556, (.iload_n 3, 1)), (557, (.iconst 1, 1)), (558, (.iadd, 1)), (559, (.iaload, 1)), (560, (.aload_n 0, 1)), (561, (.iload_n 3, 1)), (562, (.iconst 2, 1)), (563, (.iadd, 1))] := dk_of 556 (by decide +kernel)
theorem dL_law_556 : decode cL_law 556 = .ok (.iload_n 3, 1) := dK_l_34.1
theorem dL_law_557 : decode cL_law 557 = .ok (.iconst 1, 1) := dK_l_34.2.1
theorem dL_law_558 : decode cL_law 558 = .ok (.iadd, 1) := dK_l_34.2.2.1
theorem dL_law_559 : decode cL_law 559 = .ok (.iaload, 1) := dK_l_34.2.2.2.1
theorem dL_law_560 : decode cL_law 560 = .ok (.aload_n 0, 1) := dK_l_34.2.2.2.2.1
theorem dL_law_561 : decode cL_law 561 = .ok (.iload_n 3, 1) := dK_l_34.2.2.2.2.2.1
theorem dL_law_562 : decode cL_law 562 = .ok (.iconst 2, 1) := dK_l_34.2.2.2.2.2.2.1
theorem dL_law_563 : decode cL_law 563 = .ok (.iadd, 1) := dK_l_34.2.2.2.2.2.2.2.1
theorem dK_l_35 : dk_P cL_law [(564, (.iaload, 1)), (565, (.aload_n 0, 1)), (566, (.iload_n 3, 1)), (567, (.iconst 3, 1)), (568, (.iadd, 1)), (569, (.iaload, 1)), (570, (.invokevirtual 61, 3)), (573, (.pop2, 1))] := dk_of 564 (by decide +kernel)
theorem dL_law_564 : decode cL_law 564 = .ok (.iaload, 1) := dK_l_35.1
theorem dL_law_565 : decode cL_law 565 = .ok (.aload_n 0, 1) := dK_l_35.2.1
theorem dL_law_566 : decode cL_law 566 = .ok (.iload_n 3, 1) := dK_l_35.2.2.1
theorem dL_law_567 : decode cL_law 567 = .ok (.iconst 3, 1) := dK_l_35.2.2.2.1
theorem dL_law_568 : decode cL_law 568 = .ok (.iadd, 1) := dK_l_35.2.2.2.2.1
theorem dL_law_569 : decode cL_law 569 = .ok (.iaload, 1) := dK_l_35.2.2.2.2.2.1
theorem dL_law_570 : decode cL_law 570 = .ok (.invokevirtual 61, 3) := dK_l_35.2.2.2.2.2.2.1
theorem dL_law_573 : decode cL_law 573 = .ok (.pop2, 1) := dK_l_35.2.2.2.2.2.2.2.1
theorem dK_l_36 : dk_P cL_law [(574, (.goto 997, 3)), (577, (.aload_n 1, 1)), (578, (.aload_n 0, 1)), (579, (.iload_n 3, 1)), (580, (.iconst 1, 1)), (581, (.iadd, 1)), (582, (.iaload, 1)), (583, (.aload_n 0, 1))] := dk_of 574 (by decide +kernel)
theorem dL_law_574 : decode cL_law 574 = .ok (.goto 997, 3) := dK_l_36.1
theorem dL_law_577 : decode cL_law 577 = .ok (.aload_n 1, 1) := dK_l_36.2.1
theorem dL_law_578 : decode cL_law 578 = .ok (.aload_n 0, 1) := dK_l_36.2.2.1
theorem dL_law_579 : decode cL_law 579 = .ok (.iload_n 3, 1) := dK_l_36.2.2.2.1
theorem dL_law_580 : decode cL_law 580 = .ok (.iconst 1, 1) := dK_l_36.2.2.2.2.1
theorem dL_law_581 : decode cL_law 581 = .ok (.iadd, 1) := dK_l_36.2.2.2.2.2.1
theorem dL_law_582 : decode cL_law 582 = .ok (.iaload, 1) := dK_l_36.2.2.2.2.2.2.1
theorem dL_law_583 : decode cL_law 583 = .ok (.aload_n 0, 1) := dK_l_36.2.2.2.2.2.2.2.1
theorem dK_l_37 : dk_P cL_law [(584, (.iload_n 3, 1)), (585, (.iconst 2, 1)), (586, (.iadd, 1)), (587, (.iaload, 1)), (588, (.aload_n 0, 1)), (589, (.iload_n 3, 1)), (590, (.iconst 3, 1)), (591, (.iadd, 1))] := dk_of 584 (by decide +kernel)
theorem dL_law_584 : decode cL_law 584 = .ok (.iload_n 3, 1) := dK_l_37.1
theorem dL_law_585 : decode cL_law 585 = .ok (.iconst 2, 1) := dK_l_37.2.1
theorem dL_law_586 : decode cL_law 586 = .ok (.iadd, 1) := dK_l_37.2.2.1
theorem dL_law_587 : decode cL_law 587 = .ok (.iaload, 1) := dK_l_37.2.2.2.1
theorem dL_law_588 : decode cL_law 588 = .ok (.aload_n 0, 1) := dK_l_37.2.2.2.2.1
theorem dL_law_589 : decode cL_law 589 = .ok (.iload_n 3, 1) := dK_l_37.2.2.2.2.2.1
theorem dL_law_590 : decode cL_law 590 = .ok (.iconst 3, 1) := dK_l_37.2.2.2.2.2.2.1
theorem dL_law_591 : decode cL_law 591 = .ok (.iadd, 1) := dK_l_37.2.2.2.2.2.2.2.1
theorem dK_l_38 : dk_P cL_law [(592, (.iaload, 1)), (593, (.invokevirtual 62, 3)), (596, (.pop2, 1)), (597, (.aload_n 2, 1)), (598, (.aload_n 0, 1)), (599, (.iload_n 3, 1)), (600, (.iconst 1, 1)), (601, (.iadd, 1))] := dk_of 592 (by decide +kernel)
theorem dL_law_592 : decode cL_law 592 = .ok (.iaload, 1) := dK_l_38.1
theorem dL_law_593 : decode cL_law 593 = .ok (.invokevirtual 62, 3) := dK_l_38.2.1
theorem dL_law_596 : decode cL_law 596 = .ok (.pop2, 1) := dK_l_38.2.2.1
theorem dL_law_597 : decode cL_law 597 = .ok (.aload_n 2, 1) := dK_l_38.2.2.2.1
theorem dL_law_598 : decode cL_law 598 = .ok (.aload_n 0, 1) := dK_l_38.2.2.2.2.1
theorem dL_law_599 : decode cL_law 599 = .ok (.iload_n 3, 1) := dK_l_38.2.2.2.2.2.1
theorem dL_law_600 : decode cL_law 600 = .ok (.iconst 1, 1) := dK_l_38.2.2.2.2.2.2.1
theorem dL_law_601 : decode cL_law 601 = .ok (.iadd, 1) := dK_l_38.2.2.2.2.2.2.2.1
theorem dK_l_39 : dk_P cL_law [(602, (.iaload, 1)), (603, (.aload_n 0, 1)), (604, (.iload_n 3, 1)), (605, (.iconst 2, 1)), (606, (.iadd, 1)), (607, (.iaload, 1)), (608, (.aload_n 0, 1)), (609, (.iload_n 3, 1))] := dk_of 602 (by decide +kernel)
theorem dL_law_602 : decode cL_law 602 = .ok (.iaload, 1) := dK_l_39.1
theorem dL_law_603 : decode cL_law 603 = .ok (.aload_n 0, 1) := dK_l_39.2.1
theorem dL_law_604 : decode cL_law 604 = .ok (.iload_n 3, 1) := dK_l_39.2.2.1
theorem dL_law_605 : decode cL_law 605 = .ok (.iconst 2, 1) := dK_l_39.2.2.2.1
theorem dL_law_606 : decode cL_law 606 = .ok (.iadd, 1) := dK_l_39.2.2.2.2.1
theorem dL_law_607 : decode cL_law 607 = .ok (.iaload, 1) := dK_l_39.2.2.2.2.2.1
theorem dL_law_608 : decode cL_law 608 = .ok (.aload_n 0, 1) := dK_l_39.2.2.2.2.2.2.1
theorem dL_law_609 : decode cL_law 609 = .ok (.iload_n 3, 1) := dK_l_39.2.2.2.2.2.2.2.1
theorem dK_l_40 : dk_P cL_law [(610, (.iconst 3, 1)), (611, (.iadd, 1)), (612, (.iaload, 1)), (613, (.invokevirtual 65, 3)), (616, (.pop2, 1)), (617, (.goto 954, 3)), (620, (.aload_n 1, 1)), (621, (.aload_n 0, 1))] := dk_of 610 (by decide +kernel)
theorem dL_law_610 : decode cL_law 610 = .ok (.iconst 3, 1) := dK_l_40.1
theorem dL_law_611 : decode cL_law 611 = .ok (.iadd, 1) := dK_l_40.2.1
theorem dL_law_612 : decode cL_law 612 = .ok (.iaload, 1) := dK_l_40.2.2.1
theorem dL_law_613 : decode cL_law 613 = .ok (.invokevirtual 65, 3) := dK_l_40.2.2.2.1
theorem dL_law_616 : decode cL_law 616 = .ok (.pop2, 1) := dK_l_40.2.2.2.2.1
theorem dL_law_617 : decode cL_law 617 = .ok (.goto 954, 3) := dK_l_40.2.2.2.2.2.1
theorem dL_law_620 : decode cL_law 620 = .ok (.aload_n 1, 1) := dK_l_40.2.2.2.2.2.2.1
theorem dL_law_621 : decode cL_law 621 = .ok (.aload_n 0, 1) := dK_l_40.2.2.2.2.2.2.2.1
theorem dK_l_41 : dk_P cL_law [(622, (.iload_n 3, 1)), (623, (.iconst 1, 1)), (624, (.iadd, 1)), (625, (.iaload, 1)), (626, (.aload_n 0, 1)), (627, (.iload_n 3, 1)), (628, (.iconst 2, 1)), (629, (.iadd, 1))] := dk_of 622 (by decide +kernel)
theorem dL_law_622 : decode cL_law 622 = .ok (.iload_n 3, 1) := dK_l_41.1
theorem dL_law_623 : decode cL_law 623 = .ok (.iconst 1, 1) := dK_l_41.2.1
theorem dL_law_624 : decode cL_law 624 = .ok (.iadd, 1) := dK_l_41.2.2.1
theorem dL_law_625 : decode cL_law 625 = .ok (.iaload, 1) := dK_l_41.2.2.2.1
theorem dL_law_626 : decode cL_law 626 = .ok (.aload_n 0, 1) := dK_l_41.2.2.2.2.1
theorem dL_law_627 : decode cL_law 627 = .ok (.iload_n 3, 1) := dK_l_41.2.2.2.2.2.1
theorem dL_law_628 : decode cL_law 628 = .ok (.iconst 2, 1) := dK_l_41.2.2.2.2.2.2.1
theorem dL_law_629 : decode cL_law 629 = .ok (.iadd, 1) := dK_l_41.2.2.2.2.2.2.2.1
theorem dK_l_42 : dk_P cL_law [(630, (.iaload, 1)), (631, (.aload_n 0, 1)), (632, (.iload_n 3, 1)), (633, (.iconst 3, 1)), (634, (.iadd, 1)), (635, (.iaload, 1)), (636, (.invokevirtual 66, 3)), (639, (.pop2, 1))] := dk_of 630 (by decide +kernel)
theorem dL_law_630 : decode cL_law 630 = .ok (.iaload, 1) := dK_l_42.1
theorem dL_law_631 : decode cL_law 631 = .ok (.aload_n 0, 1) := dK_l_42.2.1
theorem dL_law_632 : decode cL_law 632 = .ok (.iload_n 3, 1) := dK_l_42.2.2.1
theorem dL_law_633 : decode cL_law 633 = .ok (.iconst 3, 1) := dK_l_42.2.2.2.1
theorem dL_law_634 : decode cL_law 634 = .ok (.iadd, 1) := dK_l_42.2.2.2.2.1
theorem dL_law_635 : decode cL_law 635 = .ok (.iaload, 1) := dK_l_42.2.2.2.2.2.1
theorem dL_law_636 : decode cL_law 636 = .ok (.invokevirtual 66, 3) := dK_l_42.2.2.2.2.2.2.1
theorem dL_law_639 : decode cL_law 639 = .ok (.pop2, 1) := dK_l_42.2.2.2.2.2.2.2.1
theorem dK_l_43 : dk_P cL_law [(640, (.aload_n 2, 1)), (641, (.aload_n 0, 1)), (642, (.iload_n 3, 1)), (643, (.iconst 1, 1)), (644, (.iadd, 1)), (645, (.iaload, 1)), (646, (.aload_n 0, 1)), (647, (.iload_n 3, 1))] := dk_of 640 (by decide +kernel)
theorem dL_law_640 : decode cL_law 640 = .ok (.aload_n 2, 1) := dK_l_43.1
theorem dL_law_641 : decode cL_law 641 = .ok (.aload_n 0, 1) := dK_l_43.2.1
theorem dL_law_642 : decode cL_law 642 = .ok (.iload_n 3, 1) := dK_l_43.2.2.1
theorem dL_law_643 : decode cL_law 643 = .ok (.iconst 1, 1) := dK_l_43.2.2.2.1
theorem dL_law_644 : decode cL_law 644 = .ok (.iadd, 1) := dK_l_43.2.2.2.2.1
theorem dL_law_645 : decode cL_law 645 = .ok (.iaload, 1) := dK_l_43.2.2.2.2.2.1
theorem dL_law_646 : decode cL_law 646 = .ok (.aload_n 0, 1) := dK_l_43.2.2.2.2.2.2.1
theorem dL_law_647 : decode cL_law 647 = .ok (.iload_n 3, 1) := dK_l_43.2.2.2.2.2.2.2.1
theorem dK_l_44 : dk_P cL_law [(648, (.iconst 2, 1)), (649, (.iadd, 1)), (650, (.iaload, 1)), (651, (.aload_n 0, 1)), (652, (.iload_n 3, 1)), (653, (.iconst 3, 1)), (654, (.iadd, 1)), (655, (.iaload, 1))] := dk_of 648 (by decide +kernel)
theorem dL_law_648 : decode cL_law 648 = .ok (.iconst 2, 1) := dK_l_44.1
theorem dL_law_649 : decode cL_law 649 = .ok (.iadd, 1) := dK_l_44.2.1
theorem dL_law_650 : decode cL_law 650 = .ok (.iaload, 1) := dK_l_44.2.2.1
theorem dL_law_651 : decode cL_law 651 = .ok (.aload_n 0, 1) := dK_l_44.2.2.2.1
theorem dL_law_652 : decode cL_law 652 = .ok (.iload_n 3, 1) := dK_l_44.2.2.2.2.1
theorem dL_law_653 : decode cL_law 653 = .ok (.iconst 3, 1) := dK_l_44.2.2.2.2.2.1
theorem dL_law_654 : decode cL_law 654 = .ok (.iadd, 1) := dK_l_44.2.2.2.2.2.2.1
theorem dL_law_655 : decode cL_law 655 = .ok (.iaload, 1) := dK_l_44.2.2.2.2.2.2.2.1
theorem dK_l_45 : dk_P cL_law [(656, (.invokevirtual 69, 3)), (659, (.pop2, 1)), (660, (.goto 911, 3)), (663, (.aload_n 1, 1)), (664, (.aload_n 0, 1)), (665, (.iload_n 3, 1)), (666, (.iconst 1, 1)), (667, (.iadd, 1))] := dk_of 656 (by decide +kernel)
theorem dL_law_656 : decode cL_law 656 = .ok (.invokevirtual 69, 3) := dK_l_45.1
theorem dL_law_659 : decode cL_law 659 = .ok (.pop2, 1) := dK_l_45.2.1
theorem dL_law_660 : decode cL_law 660 = .ok (.goto 911, 3) := dK_l_45.2.2.1
theorem dL_law_663 : decode cL_law 663 = .ok (.aload_n 1, 1) := dK_l_45.2.2.2.1
theorem dL_law_664 : decode cL_law 664 = .ok (.aload_n 0, 1) := dK_l_45.2.2.2.2.1
theorem dL_law_665 : decode cL_law 665 = .ok (.iload_n 3, 1) := dK_l_45.2.2.2.2.2.1
theorem dL_law_666 : decode cL_law 666 = .ok (.iconst 1, 1) := dK_l_45.2.2.2.2.2.2.1
theorem dL_law_667 : decode cL_law 667 = .ok (.iadd, 1) := dK_l_45.2.2.2.2.2.2.2.1
theorem dK_l_46 : dk_P cL_law [(668, (.iaload, 1)), (669, (.invokevirtual 70, 3)), (672, (.pop, 1)), (673, (.aload_n 2, 1)), (674, (.aload_n 0, 1)), (675, (.iload_n 3, 1)), (676, (.iconst 1, 1)), (677, (.iadd, 1))] := dk_of 668 (by decide +kernel)
theorem dL_law_668 : decode cL_law 668 = .ok (.iaload, 1) := dK_l_46.1
theorem dL_law_669 : decode cL_law 669 = .ok (.invokevirtual 70, 3) := dK_l_46.2.1
theorem dL_law_672 : decode cL_law 672 = .ok (.pop, 1) := dK_l_46.2.2.1
theorem dL_law_673 : decode cL_law 673 = .ok (.aload_n 2, 1) := dK_l_46.2.2.2.1
theorem dL_law_674 : decode cL_law 674 = .ok (.aload_n 0, 1) := dK_l_46.2.2.2.2.1
theorem dL_law_675 : decode cL_law 675 = .ok (.iload_n 3, 1) := dK_l_46.2.2.2.2.2.1
theorem dL_law_676 : decode cL_law 676 = .ok (.iconst 1, 1) := dK_l_46.2.2.2.2.2.2.1
theorem dL_law_677 : decode cL_law 677 = .ok (.iadd, 1) := dK_l_46.2.2.2.2.2.2.2.1
theorem dK_l_47 : dk_P cL_law [(678, (.iaload, 1)), (679, (.invokevirtual 73, 3)), (682, (.pop, 1)), (683, (.goto 888, 3)), (686, (.aload_n 1, 1)), (687, (.aload_n 0, 1)), (688, (.iload_n 3, 1)), (689, (.iconst 1, 1))] := dk_of 678 (by decide +kernel)
theorem dL_law_678 : decode cL_law 678 = .ok (.iaload, 1) := dK_l_47.1
theorem dL_law_679 : decode cL_law 679 = .ok (.invokevirtual 73, 3) := dK_l_47.2.1
theorem dL_law_682 : decode cL_law 682 = .ok (.pop, 1) := dK_l_47.2.2.1
theorem dL_law_683 : decode cL_law 683 = .ok (.goto 888, 3) := dK_l_47.2.2.2.1
theorem dL_law_686 : decode cL_law 686 = .ok (.aload_n 1, 1) := dK_l_47.2.2.2.2.1
theorem dL_law_687 : decode cL_law 687 = .ok (.aload_n 0, 1) := dK_l_47.2.2.2.2.2.1
theorem dL_law_688 : decode cL_law 688 = .ok (.iload_n 3, 1) := dK_l_47.2.2.2.2.2.2.1
theorem dL_law_689 : decode cL_law 689 = .ok (.iconst 1, 1) := dK_l_47.2.2.2.2.2.2.2.1
theorem dK_l_48 : dk_P cL_law [(690, (.iadd, 1)), (691, (.iaload, 1)), (692, (.aload_n 0, 1)), (693, (.iload_n 3, 1)), (694, (.iconst 2, 1)), (695, (.iadd, 1)), (696, (.iaload, 1)), (697, (.invokevirtual 74, 3))] := dk_of 690 (by decide +kernel)
theorem dL_law_690 : decode cL_law 690 = .ok (.iadd, 1) := dK_l_48.1
theorem dL_law_691 : decode cL_law 691 = .ok (.iaload, 1) := dK_l_48.2.1
theorem dL_law_692 : decode cL_law 692 = .ok (.aload_n 0, 1) := dK_l_48.2.2.1
theorem dL_law_693 : decode cL_law 693 = .ok (.iload_n 3, 1) := dK_l_48.2.2.2.1
theorem dL_law_694 : decode cL_law 694 = .ok (.iconst 2, 1) := dK_l_48.2.2.2.2.1
theorem dL_law_695 : decode cL_law 695 = .ok (.iadd, 1) := dK_l_48.2.2.2.2.2.1
theorem dL_law_696 : decode cL_law 696 = .ok (.iaload, 1) := dK_l_48.2.2.2.2.2.2.1
theorem dL_law_697 : decode cL_law 697 = .ok (.invokevirtual 74, 3) := dK_l_48.2.2.2.2.2.2.2.1
theorem dK_l_49 : dk_P cL_law [(700, (.pop, 1)), (701, (.aload_n 2, 1)), (702, (.aload_n 0, 1)), (703, (.iload_n 3, 1)), (704, (.iconst 1, 1)), (705, (.iadd, 1)), (706, (.iaload, 1)), (707, (.aload_n 0, 1))] := dk_of 700 (by decide +kernel)
theorem dL_law_700 : decode cL_law 700 = .ok (.pop, 1) := dK_l_49.1
theorem dL_law_701 : decode cL_law 701 = .ok (.aload_n 2, 1) := dK_l_49.2.1
theorem dL_law_702 : decode cL_law 702 = .ok (.aload_n 0, 1) := dK_l_49.2.2.1
theorem dL_law_703 : decode cL_law 703 = .ok (.iload_n 3, 1) := dK_l_49.2.2.2.1
theorem dL_law_704 : decode cL_law 704 = .ok (.iconst 1, 1) := dK_l_49.2.2.2.2.1
theorem dL_law_705 : decode cL_law 705 = .ok (.iadd, 1) := dK_l_49.2.2.2.2.2.1
theorem dL_law_706 : decode cL_law 706 = .ok (.iaload, 1) := dK_l_49.2.2.2.2.2.2.1
theorem dL_law_707 : decode cL_law 707 = .ok (.aload_n 0, 1) := dK_l_49.2.2.2.2.2.2.2.1
theorem dK_l_50 : dk_P cL_law [(708, (.iload_n 3, 1)), (709, (.iconst 2, 1)), (710, (.iadd, 1)), (711, (.iaload, 1)), (712, (.invokevirtual 77, 3)), (715, (.pop, 1)), (716, (.goto 855, 3)), (719, (.aload_n 1, 1))] := dk_of 708 (by decide +kernel)
theorem dL_law_708 : decode cL_law 708 = .ok (.iload_n 3, 1) := dK_l_50.1
theorem dL_law_709 : decode cL_law 709 = .ok (.iconst 2, 1) := dK_l_50.2.1
theorem dL_law_710 : decode cL_law 710 = .ok (.iadd, 1) := dK_l_50.2.2.1
theorem dL_law_711 : decode cL_law 711 = .ok (.iaload, 1) := dK_l_50.2.2.2.1
theorem dL_law_712 : decode cL_law 712 = .ok (.invokevirtual 77, 3) := dK_l_50.2.2.2.2.1
theorem dL_law_715 : decode cL_law 715 = .ok (.pop, 1) := dK_l_50.2.2.2.2.2.1
theorem dL_law_716 : decode cL_law 716 = .ok (.goto 855, 3) := dK_l_50.2.2.2.2.2.2.1
theorem dL_law_719 : decode cL_law 719 = .ok (.aload_n 1, 1) := dK_l_50.2.2.2.2.2.2.2.1
theorem dK_l_51 : dk_P cL_law [(720, (.aload_n 0, 1)), (721, (.iload_n 3, 1)), (722, (.iconst 1, 1)), (723, (.iadd, 1)), (724, (.iaload, 1)), (725, (.aload_n 0, 1)), (726, (.iload_n 3, 1)), (727, (.iconst 2, 1))] := dk_of 720 (by decide +kernel)
theorem dL_law_720 : decode cL_law 720 = .ok (.aload_n 0, 1) := dK_l_51.1
theorem dL_law_721 : decode cL_law 721 = .ok (.iload_n 3, 1) := dK_l_51.2.1
theorem dL_law_722 : decode cL_law 722 = .ok (.iconst 1, 1) := dK_l_51.2.2.1
theorem dL_law_723 : decode cL_law 723 = .ok (.iadd, 1) := dK_l_51.2.2.2.1
theorem dL_law_724 : decode cL_law 724 = .ok (.iaload, 1) := dK_l_51.2.2.2.2.1
theorem dL_law_725 : decode cL_law 725 = .ok (.aload_n 0, 1) := dK_l_51.2.2.2.2.2.1
theorem dL_law_726 : decode cL_law 726 = .ok (.iload_n 3, 1) := dK_l_51.2.2.2.2.2.2.1
theorem dL_law_727 : decode cL_law 727 = .ok (.iconst 2, 1) := dK_l_51.2.2.2.2.2.2.2.1
theorem dK_l_52 : dk_P cL_law [(728, (.iadd, 1)), (729, (.iaload, 1)), (730, (.invokevirtual 78, 3)), (733, (.pop, 1)), (734, (.aload_n 2, 1)), (735, (.aload_n 0, 1)), (736, (.iload_n 3, 1)), (737, (.iconst 1, 1))] := dk_of 728 (by decide +kernel)
theorem dL_law_728 : decode cL_law 728 = .ok (.iadd, 1) := dK_l_52.1
theorem dL_law_729 : decode cL_law 729 = .ok (.iaload, 1) := dK_l_52.2.1
theorem dL_law_730 : decode cL_law 730 = .ok (.invokevirtual 78, 3) := dK_l_52.2.2.1
theorem dL_law_733 : decode cL_law 733 = .ok (.pop, 1) := dK_l_52.2.2.2.1
theorem dL_law_734 : decode cL_law 734 = .ok (.aload_n 2, 1) := dK_l_52.2.2.2.2.1
theorem dL_law_735 : decode cL_law 735 = .ok (.aload_n 0, 1) := dK_l_52.2.2.2.2.2.1
theorem dL_law_736 : decode cL_law 736 = .ok (.iload_n 3, 1) := dK_l_52.2.2.2.2.2.2.1
theorem dL_law_737 : decode cL_law 737 = .ok (.iconst 1, 1) := dK_l_52.2.2.2.2.2.2.2.1
theorem dK_l_53 : dk_P cL_law [(738, (.iadd, 1)), (739, (.iaload, 1)), (740, (.aload_n 0, 1)), (741, (.iload_n 3, 1)), (742, (.iconst 2, 1)), (743, (.iadd, 1)), (744, (.iaload, 1)), (745, (.invokevirtual 81, 3))] := dk_of 738 (by decide +kernel)
theorem dL_law_738 : decode cL_law 738 = .ok (.iadd, 1) := dK_l_53.1
theorem dL_law_739 : decode cL_law 739 = .ok (.iaload, 1) := dK_l_53.2.1
theorem dL_law_740 : decode cL_law 740 = .ok (.aload_n 0, 1) := dK_l_53.2.2.1
theorem dL_law_741 : decode cL_law 741 = .ok (.iload_n 3, 1) := dK_l_53.2.2.2.1
theorem dL_law_742 : decode cL_law 742 = .ok (.iconst 2, 1) := dK_l_53.2.2.2.2.1
theorem dL_law_743 : decode cL_law 743 = .ok (.iadd, 1) := dK_l_53.2.2.2.2.2.1
theorem dL_law_744 : decode cL_law 744 = .ok (.iaload, 1) := dK_l_53.2.2.2.2.2.2.1
theorem dL_law_745 : decode cL_law 745 = .ok (.invokevirtual 81, 3) := dK_l_53.2.2.2.2.2.2.2.1
theorem dK_l_54 : dk_P cL_law [(748, (.pop, 1)), (749, (.goto 822, 3)), (752, (.aload_n 1, 1)), (753, (.invokevirtual 82, 3)), (756, (.pop, 1)), (757, (.aload_n 2, 1)), (758, (.invokevirtual 85, 3)), (761, (.pop, 1))] := dk_of 748 (by decide +kernel)
theorem dL_law_748 : decode cL_law 748 = .ok (.pop, 1) := dK_l_54.1
theorem dL_law_749 : decode cL_law 749 = .ok (.goto 822, 3) := dK_l_54.2.1
theorem dL_law_752 : decode cL_law 752 = .ok (.aload_n 1, 1) := dK_l_54.2.2.1
theorem dL_law_753 : decode cL_law 753 = .ok (.invokevirtual 82, 3) := dK_l_54.2.2.2.1
theorem dL_law_756 : decode cL_law 756 = .ok (.pop, 1) := dK_l_54.2.2.2.2.1
theorem dL_law_757 : decode cL_law 757 = .ok (.aload_n 2, 1) := dK_l_54.2.2.2.2.2.1
theorem dL_law_758 : decode cL_law 758 = .ok (.invokevirtual 85, 3) := dK_l_54.2.2.2.2.2.2.1
theorem dL_law_761 : decode cL_law 761 = .ok (.pop, 1) := dK_l_54.2.2.2.2.2.2.2.1
theorem dK_l_55 : dk_P cL_law [(762, (.goto 809, 3)), (765, (.aload_n 1, 1)), (766, (.aload_n 0, 1)), (767, (.iload_n 3, 1)), (768, (.iconst 1, 1)), (769, (.iadd, 1)), (770, (.iaload, 1)), (771, (.aload_n 0, 1))] := dk_of 762 (by decide +kernel)
theorem dL_law_762 : decode cL_law 762 = .ok (.goto 809, 3) := dK_l_55.1
theorem dL_law_765 : decode cL_law 765 = .ok (.aload_n 1, 1) := dK_l_55.2.1
theorem dL_law_766 : decode cL_law 766 = .ok (.aload_n 0, 1) := dK_l_55.2.2.1
theorem dL_law_767 : decode cL_law 767 = .ok (.iload_n 3, 1) := dK_l_55.2.2.2.1
theorem dL_law_768 : decode cL_law 768 = .ok (.iconst 1, 1) := dK_l_55.2.2.2.2.1
theorem dL_law_769 : decode cL_law 769 = .ok (.iadd, 1) := dK_l_55.2.2.2.2.2.1
theorem dL_law_770 : decode cL_law 770 = .ok (.iaload, 1) := dK_l_55.2.2.2.2.2.2.1
theorem dL_law_771 : decode cL_law 771 = .ok (.aload_n 0, 1) := dK_l_55.2.2.2.2.2.2.2.1
theorem dK_l_56 : dk_P cL_law [(772, (.iload_n 3, 1)), (773, (.iconst 2, 1)), (774, (.iadd, 1)), (775, (.iaload, 1)), (776, (.invokevirtual 86, 3)), (779, (.pop, 1)), (780, (.aload_n 2, 1)), (781, (.aload_n 0, 1))] := dk_of 772 (by decide +kernel)
theorem dL_law_772 : decode cL_law 772 = .ok (.iload_n 3, 1) := dK_l_56.1
theorem dL_law_773 : decode cL_law 773 = .ok (.iconst 2, 1) := dK_l_56.2.1
theorem dL_law_774 : decode cL_law 774 = .ok (.iadd, 1) := dK_l_56.2.2.1
theorem dL_law_775 : decode cL_law 775 = .ok (.iaload, 1) := dK_l_56.2.2.2.1
theorem dL_law_776 : decode cL_law 776 = .ok (.invokevirtual 86, 3) := dK_l_56.2.2.2.2.1
theorem dL_law_779 : decode cL_law 779 = .ok (.pop, 1) := dK_l_56.2.2.2.2.2.1
theorem dL_law_780 : decode cL_law 780 = .ok (.aload_n 2, 1) := dK_l_56.2.2.2.2.2.2.1
theorem dL_law_781 : decode cL_law 781 = .ok (.aload_n 0, 1) := dK_l_56.2.2.2.2.2.2.2.1
theorem dK_l_57 : dk_P cL_law [(782, (.iload_n 3, 1)), (783, (.iconst 1, 1)), (784, (.iadd, 1)), (785, (.iaload, 1)), (786, (.aload_n 0, 1)), (787, (.iload_n 3, 1)), (788, (.iconst 2, 1)), (789, (.iadd, 1))] := dk_of 782 (by decide +kernel)
theorem dL_law_782 : decode cL_law 782 = .ok (.iload_n 3, 1) := dK_l_57.1
theorem dL_law_783 : decode cL_law 783 = .ok (.iconst 1, 1) := dK_l_57.2.1
theorem dL_law_784 : decode cL_law 784 = .ok (.iadd, 1) := dK_l_57.2.2.1
theorem dL_law_785 : decode cL_law 785 = .ok (.iaload, 1) := dK_l_57.2.2.2.1
theorem dL_law_786 : decode cL_law 786 = .ok (.aload_n 0, 1) := dK_l_57.2.2.2.2.1
theorem dL_law_787 : decode cL_law 787 = .ok (.iload_n 3, 1) := dK_l_57.2.2.2.2.2.1
theorem dL_law_788 : decode cL_law 788 = .ok (.iconst 2, 1) := dK_l_57.2.2.2.2.2.2.1
theorem dL_law_789 : decode cL_law 789 = .ok (.iadd, 1) := dK_l_57.2.2.2.2.2.2.2.1
theorem dK_l_58 : dk_P cL_law [(790, (.iaload, 1)), (791, (.invokevirtual 89, 3)), (794, (.pop, 1)), (795, (.goto 776, 3)), (798, (.aload_n 1, 1)), (799, (.aload_n 0, 1)), (800, (.iload_n 3, 1)), (801, (.iconst 1, 1))] := dk_of 790 (by decide +kernel)
theorem dL_law_790 : decode cL_law 790 = .ok (.iaload, 1) := dK_l_58.1
theorem dL_law_791 : decode cL_law 791 = .ok (.invokevirtual 89, 3) := dK_l_58.2.1
theorem dL_law_794 : decode cL_law 794 = .ok (.pop, 1) := dK_l_58.2.2.1
theorem dL_law_795 : decode cL_law 795 = .ok (.goto 776, 3) := dK_l_58.2.2.2.1
theorem dL_law_798 : decode cL_law 798 = .ok (.aload_n 1, 1) := dK_l_58.2.2.2.2.1
theorem dL_law_799 : decode cL_law 799 = .ok (.aload_n 0, 1) := dK_l_58.2.2.2.2.2.1
theorem dL_law_800 : decode cL_law 800 = .ok (.iload_n 3, 1) := dK_l_58.2.2.2.2.2.2.1
theorem dL_law_801 : decode cL_law 801 = .ok (.iconst 1, 1) := dK_l_58.2.2.2.2.2.2.2.1
theorem dK_l_59 : dk_P cL_law [(802, (.iadd, 1)), (803, (.iaload, 1)), (804, (.aload_n 0, 1)), (805, (.iload_n 3, 1)), (806, (.iconst 2, 1)), (807, (.iadd, 1)), (808, (.iaload, 1)), (809, (.invokevirtual 90, 3))] := dk_of 802 (by decide +kernel)
theorem dL_law_802 : decode cL_law 802 = .ok (.iadd, 1) := dK_l_59.1
theorem dL_law_803 : decode cL_law 803 = .ok (.iaload, 1) := dK_l_59.2.1
theorem dL_law_804 : decode cL_law 804 = .ok (.aload_n 0, 1) := dK_l_59.2.2.1
theorem dL_law_805 : decode cL_law 805 = .ok (.iload_n 3, 1) := dK_l_59.2.2.2.1
theorem dL_law_806 : decode cL_law 806 = .ok (.iconst 2, 1) := dK_l_59.2.2.2.2.1
theorem dL_law_807 : decode cL_law 807 = .ok (.iadd, 1) := dK_l_59.2.2.2.2.2.1
theorem dL_law_808 : decode cL_law 808 = .ok (.iaload, 1) := dK_l_59.2.2.2.2.2.2.1
theorem dL_law_809 : decode cL_law 809 = .ok (.invokevirtual 90, 3) := dK_l_59.2.2.2.2.2.2.2.1
theorem dK_l_60 : dk_P cL_law [(812, (.pop, 1)), (813, (.aload_n 2, 1)), (814, (.aload_n 0, 1)), (815, (.iload_n 3, 1)), (816, (.iconst 1, 1)), (817, (.iadd, 1)), (818, (.iaload, 1)), (819, (.aload_n 0, 1))] := dk_of 812 (by decide +kernel)
theorem dL_law_812 : decode cL_law 812 = .ok (.pop, 1) := dK_l_60.1
theorem dL_law_813 : decode cL_law 813 = .ok (.aload_n 2, 1) := dK_l_60.2.1
theorem dL_law_814 : decode cL_law 814 = .ok (.aload_n 0, 1) := dK_l_60.2.2.1
theorem dL_law_815 : decode cL_law 815 = .ok (.iload_n 3, 1) := dK_l_60.2.2.2.1
theorem dL_law_816 : decode cL_law 816 = .ok (.iconst 1, 1) := dK_l_60.2.2.2.2.1
theorem dL_law_817 : decode cL_law 817 = .ok (.iadd, 1) := dK_l_60.2.2.2.2.2.1
theorem dL_law_818 : decode cL_law 818 = .ok (.iaload, 1) := dK_l_60.2.2.2.2.2.2.1
theorem dL_law_819 : decode cL_law 819 = .ok (.aload_n 0, 1) := dK_l_60.2.2.2.2.2.2.2.1
theorem dK_l_61 : dk_P cL_law [(820, (.iload_n 3, 1)), (821, (.iconst 2, 1)), (822, (.iadd, 1)), (823, (.iaload, 1)), (824, (.invokevirtual 93, 3)), (827, (.pop, 1)), (828, (.goto 743, 3)), (831, (.aload_n 1, 1))] := dk_of 820 (by decide +kernel)
theorem dL_law_820 : decode cL_law 820 = .ok (.iload_n 3, 1) := dK_l_61.1
theorem dL_law_821 : decode cL_law 821 = .ok (.iconst 2, 1) := dK_l_61.2.1
theorem dL_law_822 : decode cL_law 822 = .ok (.iadd, 1) := dK_l_61.2.2.1
theorem dL_law_823 : decode cL_law 823 = .ok (.iaload, 1) := dK_l_61.2.2.2.1
theorem dL_law_824 : decode cL_law 824 = .ok (.invokevirtual 93, 3) := dK_l_61.2.2.2.2.1
theorem dL_law_827 : decode cL_law 827 = .ok (.pop, 1) := dK_l_61.2.2.2.2.2.1
theorem dL_law_828 : decode cL_law 828 = .ok (.goto 743, 3) := dK_l_61.2.2.2.2.2.2.1
theorem dL_law_831 : decode cL_law 831 = .ok (.aload_n 1, 1) := dK_l_61.2.2.2.2.2.2.2.1
theorem dK_l_62 : dk_P cL_law [(832, (.invokevirtual 94, 3)), (835, (.pop, 1)), (836, (.aload_n 2, 1)), (837, (.invokevirtual 97, 3)), (840, (.pop, 1)), (841, (.goto 730, 3)), (844, (.aload_n 1, 1)), (845, (.aload_n 0, 1))] := dk_of 832 (by decide +kernel)
theorem dL_law_832 : decode cL_law 832 = .ok (.invokevirtual 94, 3) := dK_l_62.1
theorem dL_law_835 : decode cL_law 835 = .ok (.pop, 1) := dK_l_62.2.1
theorem dL_law_836 : decode cL_law 836 = .ok (.aload_n 2, 1) := dK_l_62.2.2.1
theorem dL_law_837 : decode cL_law 837 = .ok (.invokevirtual 97, 3) := dK_l_62.2.2.2.1
theorem dL_law_840 : decode cL_law 840 = .ok (.pop, 1) := dK_l_62.2.2.2.2.1
theorem dL_law_841 : decode cL_law 841 = .ok (.goto 730, 3) := dK_l_62.2.2.2.2.2.1
theorem dL_law_844 : decode cL_law 844 = .ok (.aload_n 1, 1) := dK_l_62.2.2.2.2.2.2.1
theorem dL_law_845 : decode cL_law 845 = .ok (.aload_n 0, 1) := dK_l_62.2.2.2.2.2.2.2.1
theorem dK_l_63 : dk_P cL_law [(846, (.iload_n 3, 1)), (847, (.iconst 1, 1)), (848, (.iadd, 1)), (849, (.iaload, 1)), (850, (.aload_n 0, 1)), (851, (.iload_n 3, 1)), (852, (.iconst 2, 1)), (853, (.iadd, 1))] := dk_of 846 (by decide +kernel)
theorem dL_law_846 : decode cL_law 846 = .ok (.iload_n 3, 1) := dK_l_63.1
theorem dL_law_847 : decode cL_law 847 = .ok (.iconst 1, 1) := dK_l_63.2.1
theorem dL_law_848 : decode cL_law 848 = .ok (.iadd, 1) := dK_l_63.2.2.1
theorem dL_law_849 : decode cL_law 849 = .ok (.iaload, 1) := dK_l_63.2.2.2.1
theorem dL_law_850 : decode cL_law 850 = .ok (.aload_n 0, 1) := dK_l_63.2.2.2.2.1
theorem dL_law_851 : decode cL_law 851 = .ok (.iload_n 3, 1) := dK_l_63.2.2.2.2.2.1
theorem dL_law_852 : decode cL_law 852 = .ok (.iconst 2, 1) := dK_l_63.2.2.2.2.2.2.1
theorem dL_law_853 : decode cL_law 853 = .ok (.iadd, 1) := dK_l_63.2.2.2.2.2.2.2.1
theorem dK_l_64 : dk_P cL_law [(854, (.iaload, 1)), (855, (.invokevirtual 98, 3)), (858, (.pop, 1)), (859, (.aload_n 2, 1)), (860, (.aload_n 0, 1)), (861, (.iload_n 3, 1)), (862, (.iconst 1, 1)), (863, (.iadd, 1))] := dk_of 854 (by decide +kernel)
theorem dL_law_854 : decode cL_law 854 = .ok (.iaload, 1) := dK_l_64.1
theorem dL_law_855 : decode cL_law 855 = .ok (.invokevirtual 98, 3) := dK_l_64.2.1
theorem dL_law_858 : decode cL_law 858 = .ok (.pop, 1) := dK_l_64.2.2.1
theorem dL_law_859 : decode cL_law 859 = .ok (.aload_n 2, 1) := dK_l_64.2.2.2.1
theorem dL_law_860 : decode cL_law 860 = .ok (.aload_n 0, 1) := dK_l_64.2.2.2.2.1
theorem dL_law_861 : decode cL_law 861 = .ok (.iload_n 3, 1) := dK_l_64.2.2.2.2.2.1
theorem dL_law_862 : decode cL_law 862 = .ok (.iconst 1, 1) := dK_l_64.2.2.2.2.2.2.1
theorem dL_law_863 : decode cL_law 863 = .ok (.iadd, 1) := dK_l_64.2.2.2.2.2.2.2.1
theorem dK_l_65 : dk_P cL_law [(864, (.iaload, 1)), (865, (.aload_n 0, 1)), (866, (.iload_n 3, 1)), (867, (.iconst 2, 1)), (868, (.iadd, 1)), (869, (.iaload, 1)), (870, (.invokevirtual 101, 3)), (873, (.pop, 1))] := dk_of 864 (by decide +kernel)
theorem dL_law_864 : decode cL_law 864 = .ok (.iaload, 1) := dK_l_65.1
theorem dL_law_865 : decode cL_law 865 = .ok (.aload_n 0, 1) := dK_l_65.2.1
theorem dL_law_866 : decode cL_law 866 = .ok (.iload_n 3, 1) := dK_l_65.2.2.1
theorem dL_law_867 : decode cL_law 867 = .ok (.iconst 2, 1) := dK_l_65.2.2.2.1
theorem dL_law_868 : decode cL_law 868 = .ok (.iadd, 1) := dK_l_65.2.2.2.2.1
theorem dL_law_869 : decode cL_law 869 = .ok (.iaload, 1) := dK_l_65.2.2.2.2.2.1
theorem dL_law_870 : decode cL_law 870 = .ok (.invokevirtual 101, 3) := dK_l_65.2.2.2.2.2.2.1
theorem dL_law_873 : decode cL_law 873 = .ok (.pop, 1) := dK_l_65.2.2.2.2.2.2.2.1
theorem dK_l_66 : dk_P cL_law [(874, (.goto 697, 3)), (877, (.aload_n 1, 1)), (878, (.aload_n 0, 1)), (879, (.iload_n 3, 1)), (880, (.iconst 1, 1)), (881, (.iadd, 1)), (882, (.iaload, 1)), (883, (.aload_n 0, 1))] := dk_of 874 (by decide +kernel)
theorem dL_law_874 : decode cL_law 874 = .ok (.goto 697, 3) := dK_l_66.1
theorem dL_law_877 : decode cL_law 877 = .ok (.aload_n 1, 1) := dK_l_66.2.1
theorem dL_law_878 : decode cL_law 878 = .ok (.aload_n 0, 1) := dK_l_66.2.2.1
theorem dL_law_879 : decode cL_law 879 = .ok (.iload_n 3, 1) := dK_l_66.2.2.2.1
theorem dL_law_880 : decode cL_law 880 = .ok (.iconst 1, 1) := dK_l_66.2.2.2.2.1
theorem dL_law_881 : decode cL_law 881 = .ok (.iadd, 1) := dK_l_66.2.2.2.2.2.1
theorem dL_law_882 : decode cL_law 882 = .ok (.iaload, 1) := dK_l_66.2.2.2.2.2.2.1
theorem dL_law_883 : decode cL_law 883 = .ok (.aload_n 0, 1) := dK_l_66.2.2.2.2.2.2.2.1
theorem dK_l_67 : dk_P cL_law [(884, (.iload_n 3, 1)), (885, (.iconst 2, 1)), (886, (.iadd, 1)), (887, (.iaload, 1)), (888, (.invokevirtual 102, 3)), (891, (.pop, 1)), (892, (.aload_n 2, 1)), (893, (.aload_n 0, 1))] := dk_of 884 (by decide +kernel)
theorem dL_law_884 : decode cL_law 884 = .ok (.iload_n 3, 1) := dK_l_67.1
theorem dL_law_885 : decode cL_law 885 = .ok (.iconst 2, 1) := dK_l_67.2.1
theorem dL_law_886 : decode cL_law 886 = .ok (.iadd, 1) := dK_l_67.2.2.1
theorem dL_law_887 : decode cL_law 887 = .ok (.iaload, 1) := dK_l_67.2.2.2.1
theorem dL_law_888 : decode cL_law 888 = .ok (.invokevirtual 102, 3) := dK_l_67.2.2.2.2.1
theorem dL_law_891 : decode cL_law 891 = .ok (.pop, 1) := dK_l_67.2.2.2.2.2.1
theorem dL_law_892 : decode cL_law 892 = .ok (.aload_n 2, 1) := dK_l_67.2.2.2.2.2.2.1
theorem dL_law_893 : decode cL_law 893 = .ok (.aload_n 0, 1) := dK_l_67.2.2.2.2.2.2.2.1
theorem dK_l_68 : dk_P cL_law [(894, (.iload_n 3, 1)), (895, (.iconst 1, 1)), (896, (.iadd, 1)), (897, (.iaload, 1)), (898, (.aload_n 0, 1)), (899, (.iload_n 3, 1)), (900, (.iconst 2, 1)), (901, (.iadd, 1))] := dk_of 894 (by decide +kernel)
theorem dL_law_894 : decode cL_law 894 = .ok (.iload_n 3, 1) := dK_l_68.1
theorem dL_law_895 : decode cL_law 895 = .ok (.iconst 1, 1) := dK_l_68.2.1
theorem dL_law_896 : decode cL_law 896 = .ok (.iadd, 1) := dK_l_68.2.2.1
theorem dL_law_897 : decode cL_law 897 = .ok (.iaload, 1) := dK_l_68.2.2.2.1
theorem dL_law_898 : decode cL_law 898 = .ok (.aload_n 0, 1) := dK_l_68.2.2.2.2.1
theorem dL_law_899 : decode cL_law 899 = .ok (.iload_n 3, 1) := dK_l_68.2.2.2.2.2.1
theorem dL_law_900 : decode cL_law 900 = .ok (.iconst 2, 1) := dK_l_68.2.2.2.2.2.2.1
theorem dL_law_901 : decode cL_law 901 = .ok (.iadd, 1) := dK_l_68.2.2.2.2.2.2.2.1
theorem dK_l_69 : dk_P cL_law [(902, (.iaload, 1)), (903, (.invokevirtual 105, 3)), (906, (.pop, 1)), (907, (.goto 664, 3)), (910, (.aload_n 1, 1)), (911, (.aload_n 0, 1)), (912, (.iload_n 3, 1)), (913, (.iconst 1, 1))] := dk_of 902 (by decide +kernel)
theorem dL_law_902 : decode cL_law 902 = .ok (.iaload, 1) := dK_l_69.1
theorem dL_law_903 : decode cL_law 903 = .ok (.invokevirtual 105, 3) := dK_l_69.2.1
theorem dL_law_906 : decode cL_law 906 = .ok (.pop, 1) := dK_l_69.2.2.1
theorem dL_law_907 : decode cL_law 907 = .ok (.goto 664, 3) := dK_l_69.2.2.2.1
theorem dL_law_910 : decode cL_law 910 = .ok (.aload_n 1, 1) := dK_l_69.2.2.2.2.1
theorem dL_law_911 : decode cL_law 911 = .ok (.aload_n 0, 1) := dK_l_69.2.2.2.2.2.1
theorem dL_law_912 : decode cL_law 912 = .ok (.iload_n 3, 1) := dK_l_69.2.2.2.2.2.2.1
theorem dL_law_913 : decode cL_law 913 = .ok (.iconst 1, 1) := dK_l_69.2.2.2.2.2.2.2.1
theorem dK_l_70 : dk_P cL_law [(914, (.iadd, 1)), (915, (.iaload, 1)), (916, (.invokevirtual 106, 3)), (919, (.pop, 1)), (920, (.aload_n 2, 1)), (921, (.aload_n 0, 1)), (922, (.iload_n 3, 1)), (923, (.iconst 1, 1))] := dk_of 914 (by decide +kernel)
theorem dL_law_914 : decode cL_law 914 = .ok (.iadd, 1) := dK_l_70.1
theorem dL_law_915 : decode cL_law 915 = .ok (.iaload, 1) := dK_l_70.2.1
theorem dL_law_916 : decode cL_law 916 = .ok (.invokevirtual 106, 3) := dK_l_70.2.2.1
theorem dL_law_919 : decode cL_law 919 = .ok (.pop, 1) := dK_l_70.2.2.2.1
theorem dL_law_920 : decode cL_law 920 = .ok (.aload_n 2, 1) := dK_l_70.2.2.2.2.1
theorem dL_law_921 : decode cL_law 921 = .ok (.aload_n 0, 1) := dK_l_70.2.2.2.2.2.1
theorem dL_law_922 : decode cL_law 922 = .ok (.iload_n 3, 1) := dK_l_70.2.2.2.2.2.2.1
theorem dL_law_923 : decode cL_law 923 = .ok (.iconst 1, 1) := dK_l_70.2.2.2.2.2.2.2.1
theorem dK_l_71 : dk_P cL_law [(924, (.iadd, 1)), (925, (.iaload, 1)), (926, (.invokevirtual 109, 3)), (929, (.pop, 1)), (930, (.goto 641, 3)), (933, (.aload_n 1, 1)), (934, (.invokevirtual 110, 3)), (937, (.pop, 1))] := dk_of 924 (by decide +kernel)
theorem dL_law_924 : decode cL_law 924 = .ok (.iadd, 1) := dK_l_71.1
theorem dL_law_925 : decode cL_law 925 = .ok (.iaload, 1) := dK_l_71.2.1
theorem dL_law_926 : decode cL_law 926 = .ok (.invokevirtual 109, 3) := dK_l_71.2.2.1
theorem dL_law_929 : decode cL_law 929 = .ok (.pop, 1) := dK_l_71.2.2.2.1
theorem dL_law_930 : decode cL_law 930 = .ok (.goto 641, 3) := dK_l_71.2.2.2.2.1
theorem dL_law_933 : decode cL_law 933 = .ok (.aload_n 1, 1) := dK_l_71.2.2.2.2.2.1
theorem dL_law_934 : decode cL_law 934 = .ok (.invokevirtual 110, 3) := dK_l_71.2.2.2.2.2.2.1
theorem dL_law_937 : decode cL_law 937 = .ok (.pop, 1) := dK_l_71.2.2.2.2.2.2.2.1
theorem dK_l_72 : dk_P cL_law [(938, (.aload_n 2, 1)), (939, (.invokevirtual 113, 3)), (942, (.pop, 1)), (943, (.goto 628, 3)), (946, (.aload_n 1, 1)), (947, (.invokevirtual 114, 3)), (950, (.pop, 1)), (951, (.aload_n 2, 1))] := dk_of 938 (by decide +kernel)
theorem dL_law_938 : decode cL_law 938 = .ok (.aload_n 2, 1) := dK_l_72.1
theorem dL_law_939 : decode cL_law 939 = .ok (.invokevirtual 113, 3) := dK_l_72.2.1
theorem dL_law_942 : decode cL_law 942 = .ok (.pop, 1) := dK_l_72.2.2.1
theorem dL_law_943 : decode cL_law 943 = .ok (.goto 628, 3) := dK_l_72.2.2.2.1
theorem dL_law_946 : decode cL_law 946 = .ok (.aload_n 1, 1) := dK_l_72.2.2.2.2.1
theorem dL_law_947 : decode cL_law 947 = .ok (.invokevirtual 114, 3) := dK_l_72.2.2.2.2.2.1
theorem dL_law_950 : decode cL_law 950 = .ok (.pop, 1) := dK_l_72.2.2.2.2.2.2.1
theorem dL_law_951 : decode cL_law 951 = .ok (.aload_n 2, 1) := dK_l_72.2.2.2.2.2.2.2.1
theorem dK_l_73 : dk_P cL_law [(952, (.invokevirtual 117, 3)), (955, (.pop, 1)), (956, (.goto 615, 3)), (959, (.aload_n 1, 1)), (960, (.aload_n 0, 1)), (961, (.iload_n 3, 1)), (962, (.iconst 1, 1)), (963, (.iadd, 1))] := dk_of 952 (by decide +kernel)
theorem dL_law_952 : decode cL_law 952 = .ok (.invokevirtual 117, 3) := dK_l_73.1
theorem dL_law_955 : decode cL_law 955 = .ok (.pop, 1) := dK_l_73.2.1
theorem dL_law_956 : decode cL_law 956 = .ok (.goto 615, 3) := dK_l_73.2.2.1
theorem dL_law_959 : decode cL_law 959 = .ok (.aload_n 1, 1) := dK_l_73.2.2.2.1
theorem dL_law_960 : decode cL_law 960 = .ok (.aload_n 0, 1) := dK_l_73.2.2.2.2.1
theorem dL_law_961 : decode cL_law 961 = .ok (.iload_n 3, 1) := dK_l_73.2.2.2.2.2.1
theorem dL_law_962 : decode cL_law 962 = .ok (.iconst 1, 1) := dK_l_73.2.2.2.2.2.2.1
theorem dL_law_963 : decode cL_law 963 = .ok (.iadd, 1) := dK_l_73.2.2.2.2.2.2.2.1
theorem dK_l_74 : dk_P cL_law [(964, (.iaload, 1)), (965, (.aload_n 0, 1)), (966, (.iload_n 3, 1)), (967, (.iconst 2, 1)), (968, (.iadd, 1)), (969, (.iaload, 1)), (970, (.aload_n 0, 1)), (971, (.iload_n 3, 1))] := dk_of 964 (by decide +kernel)
theorem dL_law_964 : decode cL_law 964 = .ok (.iaload, 1) := dK_l_74.1
theorem dL_law_965 : decode cL_law 965 = .ok (.aload_n 0, 1) := dK_l_74.2.1
theorem dL_law_966 : decode cL_law 966 = .ok (.iload_n 3, 1) := dK_l_74.2.2.1
theorem dL_law_967 : decode cL_law 967 = .ok (.iconst 2, 1) := dK_l_74.2.2.2.1
theorem dL_law_968 : decode cL_law 968 = .ok (.iadd, 1) := dK_l_74.2.2.2.2.1
theorem dL_law_969 : decode cL_law 969 = .ok (.iaload, 1) := dK_l_74.2.2.2.2.2.1
theorem dL_law_970 : decode cL_law 970 = .ok (.aload_n 0, 1) := dK_l_74.2.2.2.2.2.2.1
theorem dL_law_971 : decode cL_law 971 = .ok (.iload_n 3, 1) := dK_l_74.2.2.2.2.2.2.2.1
theorem dK_l_75 : dk_P cL_law [(972, (.iconst 3, 1)), (973, (.iadd, 1)), (974, (.iaload, 1)), (975, (.aload_n 0, 1)), (976, (.iload_n 3, 1)), (977, (.iconst 4, 1)), (978, (.iadd, 1)), (979, (.iaload, 1))] := dk_of 972 (by decide +kernel)
theorem dL_law_972 : decode cL_law 972 = .ok (.iconst 3, 1) := dK_l_75.1
theorem dL_law_973 : decode cL_law 973 = .ok (.iadd, 1) := dK_l_75.2.1
theorem dL_law_974 : decode cL_law 974 = .ok (.iaload, 1) := dK_l_75.2.2.1
theorem dL_law_975 : decode cL_law 975 = .ok (.aload_n 0, 1) := dK_l_75.2.2.2.1
theorem dL_law_976 : decode cL_law 976 = .ok (.iload_n 3, 1) := dK_l_75.2.2.2.2.1
theorem dL_law_977 : decode cL_law 977 = .ok (.iconst 4, 1) := dK_l_75.2.2.2.2.2.1
theorem dL_law_978 : decode cL_law 978 = .ok (.iadd, 1) := dK_l_75.2.2.2.2.2.2.1
theorem dL_law_979 : decode cL_law 979 = .ok (.iaload, 1) := dK_l_75.2.2.2.2.2.2.2.1
theorem dK_l_76 : dk_P cL_law [(980, (.invokevirtual 118, 3)), (983, (.pop, 1)), (984, (.aload_n 2, 1)), (985, (.aload_n 0, 1)), (986, (.iload_n 3, 1)), (987, (.iconst 1, 1)), (988, (.iadd, 1)), (989, (.iaload, 1))] := dk_of 980 (by decide +kernel)
theorem dL_law_980 : decode cL_law 980 = .ok (.invokevirtual 118, 3) := dK_l_76.1
theorem dL_law_983 : decode cL_law 983 = .ok (.pop, 1) := dK_l_76.2.1
theorem dL_law_984 : decode cL_law 984 = .ok (.aload_n 2, 1) := dK_l_76.2.2.1
theorem dL_law_985 : decode cL_law 985 = .ok (.aload_n 0, 1) := dK_l_76.2.2.2.1
theorem dL_law_986 : decode cL_law 986 = .ok (.iload_n 3, 1) := dK_l_76.2.2.2.2.1
theorem dL_law_987 : decode cL_law 987 = .ok (.iconst 1, 1) := dK_l_76.2.2.2.2.2.1
theorem dL_law_988 : decode cL_law 988 = .ok (.iadd, 1) := dK_l_76.2.2.2.2.2.2.1
theorem dL_law_989 : decode cL_law 989 = .ok (.iaload, 1) := dK_l_76.2.2.2.2.2.2.2.1
theorem dK_l_77 : dk_P cL_law [(990, (.aload_n 0, 1)), (991, (.iload_n 3, 1)), (992, (.iconst 2, 1)), (993, (.iadd, 1)), (994, (.iaload, 1)), (995, (.aload_n 0, 1)), (996, (.iload_n 3, 1)), (997, (.iconst 3, 1))] := dk_of 990 (by decide +kernel)
theorem dL_law_990 : decode cL_law 990 = .ok (.aload_n 0, 1) := dK_l_77.1
theorem dL_law_991 : decode cL_law 991 = .ok (.iload_n 3, 1) := dK_l_77.2.1
theorem dL_law_992 : decode cL_law 992 = .ok (.iconst 2, 1) := dK_l_77.2.2.1
theorem dL_law_993 : decode cL_law 993 = .ok (.iadd, 1) := dK_l_77.2.2.2.1
theorem dL_law_994 : decode cL_law 994 = .ok (.iaload, 1) := dK_l_77.2.2.2.2.1
theorem dL_law_995 : decode cL_law 995 = .ok (.aload_n 0, 1) := dK_l_77.2.2.2.2.2.1
theorem dL_law_996 : decode cL_law 996 = .ok (.iload_n 3, 1) := dK_l_77.2.2.2.2.2.2.1
theorem dL_law_997 : decode cL_law 997 = .ok (.iconst 3, 1) := dK_l_77.2.2.2.2.2.2.2.1
theorem dK_l_78 : dk_P cL_law [(998, (.iadd, 1)), (999, (.iaload, 1)), (1000, (.aload_n 0, 1)), (1001, (.iload_n 3, 1)), (1002, (.iconst 4, 1)), (1003, (.iadd, 1)), (1004, (.iaload, 1)), (1005, (.invokevirtual 122, 3))] := dk_of 998 (by decide +kernel)
theorem dL_law_998 : decode cL_law 998 = .ok (.iadd, 1) := dK_l_78.1
theorem dL_law_999 : decode cL_law 999 = .ok (.iaload, 1) := dK_l_78.2.1
theorem dL_law_1000 : decode cL_law 1000 = .ok (.aload_n 0, 1) := dK_l_78.2.2.1
theorem dL_law_1001 : decode cL_law 1001 = .ok (.iload_n 3, 1) := dK_l_78.2.2.2.1
theorem dL_law_1002 : decode cL_law 1002 = .ok (.iconst 4, 1) := dK_l_78.2.2.2.2.1
theorem dL_law_1003 : decode cL_law 1003 = .ok (.iadd, 1) := dK_l_78.2.2.2.2.2.1
theorem dL_law_1004 : decode cL_law 1004 = .ok (.iaload, 1) := dK_l_78.2.2.2.2.2.2.1
theorem dL_law_1005 : decode cL_law 1005 = .ok (.invokevirtual 122, 3) := dK_l_78.2.2.2.2.2.2.2.1
theorem dK_l_79 : dk_P cL_law [(1008, (.pop, 1)), (1009, (.goto 562, 3)), (1012, (.aload_n 1, 1)), (1013, (.invokevirtual 123, 3)), (1016, (.pop, 1)), (1017, (.aload_n 2, 1)), (1018, (.invokevirtual 126, 3)), (1021, (.pop, 1))] := dk_of 1008 (by decide +kernel)
theorem dL_law_1008 : decode cL_law 1008 = .ok (.pop, 1) := dK_l_79.1
theorem dL_law_1009 : decode cL_law 1009 = .ok (.goto 562, 3) := dK_l_79.2.1
theorem dL_law_1012 : decode cL_law 1012 = .ok (.aload_n 1, 1) := dK_l_79.2.2.1
theorem dL_law_1013 : decode cL_law 1013 = .ok (.invokevirtual 123, 3) := dK_l_79.2.2.2.1
theorem dL_law_1016 : decode cL_law 1016 = .ok (.pop, 1) := dK_l_79.2.2.2.2.1
theorem dL_law_1017 : decode cL_law 1017 = .ok (.aload_n 2, 1) := dK_l_79.2.2.2.2.2.1
theorem dL_law_1018 : decode cL_law 1018 = .ok (.invokevirtual 126, 3) := dK_l_79.2.2.2.2.2.2.1
theorem dL_law_1021 : decode cL_law 1021 = .ok (.pop, 1) := dK_l_79.2.2.2.2.2.2.2.1
theorem dK_l_80 : dk_P cL_law [(1022, (.goto 549, 3)), (1025, (.aload_n 1, 1)), (1026, (.invokevirtual 127, 3)), (1029, (.pop, 1)), (1030, (.aload_n 2, 1)), (1031, (.invokevirtual 130, 3)), (1034, (.pop, 1)), (1035, (.goto 536, 3))] := dk_of 1022 (by decide +kernel)
theorem dL_law_1022 : decode cL_law 1022 = .ok (.goto 549, 3) := dK_l_80.1
theorem dL_law_1025 : decode cL_law 1025 = .ok (.aload_n 1, 1) := dK_l_80.2.1
theorem dL_law_1026 : decode cL_law 1026 = .ok (.invokevirtual 127, 3) := dK_l_80.2.2.1
theorem dL_law_1029 : decode cL_law 1029 = .ok (.pop, 1) := dK_l_80.2.2.2.1
theorem dL_law_1030 : decode cL_law 1030 = .ok (.aload_n 2, 1) := dK_l_80.2.2.2.2.1
theorem dL_law_1031 : decode cL_law 1031 = .ok (.invokevirtual 130, 3) := dK_l_80.2.2.2.2.2.1
theorem dL_law_1034 : decode cL_law 1034 = .ok (.pop, 1) := dK_l_80.2.2.2.2.2.2.1
theorem dL_law_1035 : decode cL_law 1035 = .ok (.goto 536, 3) := dK_l_80.2.2.2.2.2.2.2.1
theorem dK_l_81 : dk_P cL_law [(1038, (.aload_n 1, 1)), (1039, (.aload_n 0, 1)), (1040, (.iload_n 3, 1)), (1041, (.iconst 1, 1)), (1042, (.iadd, 1)), (1043, (.iaload, 1)), (1044, (.invokevirtual 131, 3)), (1047, (.pop, 1))] := dk_of 1038 (by decide +kernel)
theorem dL_law_1038 : decode cL_law 1038 = .ok (.aload_n 1, 1) := dK_l_81.1
theorem dL_law_1039 : decode cL_law 1039 = .ok (.aload_n 0, 1) := dK_l_81.2.1
theorem dL_law_1040 : decode cL_law 1040 = .ok (.iload_n 3, 1) := dK_l_81.2.2.1
theorem dL_law_1041 : decode cL_law 1041 = .ok (.iconst 1, 1) := dK_l_81.2.2.2.1
theorem dL_law_1042 : decode cL_law 1042 = .ok (.iadd, 1) := dK_l_81.2.2.2.2.1
theorem dL_law_1043 : decode cL_law 1043 = .ok (.iaload, 1) := dK_l_81.2.2.2.2.2.1
theorem dL_law_1044 : decode cL_law 1044 = .ok (.invokevirtual 131, 3) := dK_l_81.2.2.2.2.2.2.1
theorem dL_law_1047 : decode cL_law 1047 = .ok (.pop, 1) := dK_l_81.2.2.2.2.2.2.2.1
theorem dK_l_82 : dk_P cL_law [(1048, (.aload_n 2, 1)), (1049, (.aload_n 0, 1)), (1050, (.iload_n 3, 1)), (1051, (.iconst 1, 1)), (1052, (.iadd, 1)), (1053, (.iaload, 1)), (1054, (.invokevirtual 134, 3)), (1057, (.pop, 1))] := dk_of 1048 (by decide +kernel)
theorem dL_law_1048 : decode cL_law 1048 = .ok (.aload_n 2, 1) := dK_l_82.1
theorem dL_law_1049 : decode cL_law 1049 = .ok (.aload_n 0, 1) := dK_l_82.2.1
theorem dL_law_1050 : decode cL_law 1050 = .ok (.iload_n 3, 1) := dK_l_82.2.2.1
theorem dL_law_1051 : decode cL_law 1051 = .ok (.iconst 1, 1) := dK_l_82.2.2.2.1
theorem dL_law_1052 : decode cL_law 1052 = .ok (.iadd, 1) := dK_l_82.2.2.2.2.1
theorem dL_law_1053 : decode cL_law 1053 = .ok (.iaload, 1) := dK_l_82.2.2.2.2.2.1
theorem dL_law_1054 : decode cL_law 1054 = .ok (.invokevirtual 134, 3) := dK_l_82.2.2.2.2.2.2.1
theorem dL_law_1057 : decode cL_law 1057 = .ok (.pop, 1) := dK_l_82.2.2.2.2.2.2.2.1
theorem dK_l_83 : dk_P cL_law [(1058, (.goto 513, 3)), (1061, (.aload_n 1, 1)), (1062, (.aload_n 0, 1)), (1063, (.iload_n 3, 1)), (1064, (.iconst 1, 1)), (1065, (.iadd, 1)), (1066, (.iaload, 1)), (1067, (.invokevirtual 135, 3))] := dk_of 1058 (by decide +kernel)
theorem dL_law_1058 : decode cL_law 1058 = .ok (.goto 513, 3) := dK_l_83.1
theorem dL_law_1061 : decode cL_law 1061 = .ok (.aload_n 1, 1) := dK_l_83.2.1
theorem dL_law_1062 : decode cL_law 1062 = .ok (.aload_n 0, 1) := dK_l_83.2.2.1
theorem dL_law_1063 : decode cL_law 1063 = .ok (.iload_n 3, 1) := dK_l_83.2.2.2.1
theorem dL_law_1064 : decode cL_law 1064 = .ok (.iconst 1, 1) := dK_l_83.2.2.2.2.1
theorem dL_law_1065 : decode cL_law 1065 = .ok (.iadd, 1) := dK_l_83.2.2.2.2.2.1
theorem dL_law_1066 : decode cL_law 1066 = .ok (.iaload, 1) := dK_l_83.2.2.2.2.2.2.1
theorem dL_law_1067 : decode cL_law 1067 = .ok (.invokevirtual 135, 3) := dK_l_83.2.2.2.2.2.2.2.1
theorem dK_l_84 : dk_P cL_law [(1070, (.pop, 1)), (1071, (.aload_n 2, 1)), (1072, (.aload_n 0, 1)), (1073, (.iload_n 3, 1)), (1074, (.iconst 1, 1)), (1075, (.iadd, 1)), (1076, (.iaload, 1)), (1077, (.invokevirtual 138, 3))] := dk_of 1070 (by decide +kernel)
theorem dL_law_1070 : decode cL_law 1070 = .ok (.pop, 1) := dK_l_84.1
theorem dL_law_1071 : decode cL_law 1071 = .ok (.aload_n 2, 1) := dK_l_84.2.1
theorem dL_law_1072 : decode cL_law 1072 = .ok (.aload_n 0, 1) := dK_l_84.2.2.1
theorem dL_law_1073 : decode cL_law 1073 = .ok (.iload_n 3, 1) := dK_l_84.2.2.2.1
theorem dL_law_1074 : decode cL_law 1074 = .ok (.iconst 1, 1) := dK_l_84.2.2.2.2.1
theorem dL_law_1075 : decode cL_law 1075 = .ok (.iadd, 1) := dK_l_84.2.2.2.2.2.1
theorem dL_law_1076 : decode cL_law 1076 = .ok (.iaload, 1) := dK_l_84.2.2.2.2.2.2.1
theorem dL_law_1077 : decode cL_law 1077 = .ok (.invokevirtual 138, 3) := dK_l_84.2.2.2.2.2.2.2.1
theorem dK_l_85 : dk_P cL_law [(1080, (.pop, 1)), (1081, (.goto 490, 3)), (1084, (.aload_n 1, 1)), (1085, (.aload_n 0, 1)), (1086, (.iload_n 3, 1)), (1087, (.iconst 1, 1)), (1088, (.iadd, 1)), (1089, (.iaload, 1))] := dk_of 1080 (by decide +kernel)
theorem dL_law_1080 : decode cL_law 1080 = .ok (.pop, 1) := dK_l_85.1
theorem dL_law_1081 : decode cL_law 1081 = .ok (.goto 490, 3) := dK_l_85.2.1
theorem dL_law_1084 : decode cL_law 1084 = .ok (.aload_n 1, 1) := dK_l_85.2.2.1
theorem dL_law_1085 : decode cL_law 1085 = .ok (.aload_n 0, 1) := dK_l_85.2.2.2.1
theorem dL_law_1086 : decode cL_law 1086 = .ok (.iload_n 3, 1) := dK_l_85.2.2.2.2.1
theorem dL_law_1087 : decode cL_law 1087 = .ok (.iconst 1, 1) := dK_l_85.2.2.2.2.2.1
theorem dL_law_1088 : decode cL_law 1088 = .ok (.iadd, 1) := dK_l_85.2.2.2.2.2.2.1
theorem dL_law_1089 : decode cL_law 1089 = .ok (.iaload, 1) := dK_l_85.2.2.2.2.2.2.2.1
theorem dK_l_86 : dk_P cL_law [(1090, (.aload_n 0, 1)), (1091, (.iload_n 3, 1)), (1092, (.iconst 2, 1)), (1093, (.iadd, 1)), (1094, (.iaload, 1)), (1095, (.invokevirtual 139, 3)), (1098, (.pop2, 1)), (1099, (.aload_n 2, 1))] := dk_of 1090 (by decide +kernel)
theorem dL_law_1090 : decode cL_law 1090 = .ok (.aload_n 0, 1) := dK_l_86.1
theorem dL_law_1091 : decode cL_law 1091 = .ok (.iload_n 3, 1) := dK_l_86.2.1
theorem dL_law_1092 : decode cL_law 1092 = .ok (.iconst 2, 1) := dK_l_86.2.2.1
theorem dL_law_1093 : decode cL_law 1093 = .ok (.iadd, 1) := dK_l_86.2.2.2.1
theorem dL_law_1094 : decode cL_law 1094 = .ok (.iaload, 1) := dK_l_86.2.2.2.2.1
theorem dL_law_1095 : decode cL_law 1095 = .ok (.invokevirtual 139, 3) := dK_l_86.2.2.2.2.2.1
theorem dL_law_1098 : decode cL_law 1098 = .ok (.pop2, 1) := dK_l_86.2.2.2.2.2.2.1
theorem dL_law_1099 : decode cL_law 1099 = .ok (.aload_n 2, 1) := dK_l_86.2.2.2.2.2.2.2.1
theorem dK_l_87 : dk_P cL_law [(1100, (.aload_n 0, 1)), (1101, (.iload_n 3, 1)), (1102, (.iconst 1, 1)), (1103, (.iadd, 1)), (1104, (.iaload, 1)), (1105, (.aload_n 0, 1)), (1106, (.iload_n 3, 1)), (1107, (.iconst 2, 1))] := dk_of 1100 (by decide +kernel)
theorem dL_law_1100 : decode cL_law 1100 = .ok (.aload_n 0, 1) := dK_l_87.1
theorem dL_law_1101 : decode cL_law 1101 = .ok (.iload_n 3, 1) := dK_l_87.2.1
theorem dL_law_1102 : decode cL_law 1102 = .ok (.iconst 1, 1) := dK_l_87.2.2.1
theorem dL_law_1103 : decode cL_law 1103 = .ok (.iadd, 1) := dK_l_87.2.2.2.1
theorem dL_law_1104 : decode cL_law 1104 = .ok (.iaload, 1) := dK_l_87.2.2.2.2.1
theorem dL_law_1105 : decode cL_law 1105 = .ok (.aload_n 0, 1) := dK_l_87.2.2.2.2.2.1
theorem dL_law_1106 : decode cL_law 1106 = .ok (.iload_n 3, 1) := dK_l_87.2.2.2.2.2.2.1
theorem dL_law_1107 : decode cL_law 1107 = .ok (.iconst 2, 1) := dK_l_87.2.2.2.2.2.2.2.1
theorem dK_l_88 : dk_P cL_law [(1108, (.iadd, 1)), (1109, (.iaload, 1)), (1110, (.invokevirtual 143, 3)), (1113, (.pop2, 1)), (1114, (.goto 457, 3)), (1117, (.aload_n 1, 1)), (1118, (.aload_n 0, 1)), (1119, (.iload_n 3, 1))] := dk_of 1108 (by decide +kernel)
theorem dL_law_1108 : decode cL_law 1108 = .ok (.iadd, 1) := dK_l_88.1
theorem dL_law_1109 : decode cL_law 1109 = .ok (.iaload, 1) := dK_l_88.2.1
theorem dL_law_1110 : decode cL_law 1110 = .ok (.invokevirtual 143, 3) := dK_l_88.2.2.1
theorem dL_law_1113 : decode cL_law 1113 = .ok (.pop2, 1) := dK_l_88.2.2.2.1
theorem dL_law_1114 : decode cL_law 1114 = .ok (.goto 457, 3) := dK_l_88.2.2.2.2.1
theorem dL_law_1117 : decode cL_law 1117 = .ok (.aload_n 1, 1) := dK_l_88.2.2.2.2.2.1
theorem dL_law_1118 : decode cL_law 1118 = .ok (.aload_n 0, 1) := dK_l_88.2.2.2.2.2.2.1
theorem dL_law_1119 : decode cL_law 1119 = .ok (.iload_n 3, 1) := dK_l_88.2.2.2.2.2.2.2.1
theorem dK_l_89 : dk_P cL_law [(1120, (.iconst 1, 1)), (1121, (.iadd, 1)), (1122, (.iaload, 1)), (1123, (.invokevirtual 144, 3)), (1126, (.pop, 1)), (1127, (.aload_n 2, 1)), (1128, (.aload_n 0, 1)), (1129, (.iload_n 3, 1))] := dk_of 1120 (by decide +kernel)
theorem dL_law_1120 : decode cL_law 1120 = .ok (.iconst 1, 1) := dK_l_89.1
theorem dL_law_1121 : decode cL_law 1121 = .ok (.iadd, 1) := dK_l_89.2.1
theorem dL_law_1122 : decode cL_law 1122 = .ok (.iaload, 1) := dK_l_89.2.2.1
theorem dL_law_1123 : decode cL_law 1123 = .ok (.invokevirtual 144, 3) := dK_l_89.2.2.2.1
theorem dL_law_1126 : decode cL_law 1126 = .ok (.pop, 1) := dK_l_89.2.2.2.2.1
theorem dL_law_1127 : decode cL_law 1127 = .ok (.aload_n 2, 1) := dK_l_89.2.2.2.2.2.1
theorem dL_law_1128 : decode cL_law 1128 = .ok (.aload_n 0, 1) := dK_l_89.2.2.2.2.2.2.1
theorem dL_law_1129 : decode cL_law 1129 = .ok (.iload_n 3, 1) := dK_l_89.2.2.2.2.2.2.2.1
theorem dK_l_90 : dk_P cL_law [(1130, (.iconst 1, 1)), (1131, (.iadd, 1)), (1132, (.iaload, 1)), (1133, (.invokevirtual 147, 3)), (1136, (.pop, 1)), (1137, (.goto 434, 3)), (1140, (.aload_n 1, 1)), (1141, (.invokevirtual 148, 3))] := dk_of 1130 (by decide +kernel)
theorem dL_law_1130 : decode cL_law 1130 = .ok (.iconst 1, 1) := dK_l_90.1
theorem dL_law_1131 : decode cL_law 1131 = .ok (.iadd, 1) := dK_l_90.2.1
theorem dL_law_1132 : decode cL_law 1132 = .ok (.iaload, 1) := dK_l_90.2.2.1
theorem dL_law_1133 : decode cL_law 1133 = .ok (.invokevirtual 147, 3) := dK_l_90.2.2.2.1
theorem dL_law_1136 : decode cL_law 1136 = .ok (.pop, 1) := dK_l_90.2.2.2.2.1
theorem dL_law_1137 : decode cL_law 1137 = .ok (.goto 434, 3) := dK_l_90.2.2.2.2.2.1
theorem dL_law_1140 : decode cL_law 1140 = .ok (.aload_n 1, 1) := dK_l_90.2.2.2.2.2.2.1
theorem dL_law_1141 : decode cL_law 1141 = .ok (.invokevirtual 148, 3) := dK_l_90.2.2.2.2.2.2.2.1
theorem dK_l_91 : dk_P cL_law [(1144, (.pop, 1)), (1145, (.aload_n 2, 1)), (1146, (.invokevirtual 151, 3)), (1149, (.pop, 1)), (1150, (.goto 421, 3)), (1153, (.aload_n 1, 1)), (1154, (.invokevirtual 152, 3)), (1157, (.pop, 1))] := dk_of 1144 (by decide +kernel)
theorem dL_law_1144 : decode cL_law 1144 = .ok (.pop, 1) := dK_l_91.1
theorem dL_law_1145 : decode cL_law 1145 = .ok (.aload_n 2, 1) := dK_l_91.2.1
theorem dL_law_1146 : decode cL_law 1146 = .ok (.invokevirtual 151, 3) := dK_l_91.2.2.1
theorem dL_law_1149 : decode cL_law 1149 = .ok (.pop, 1) := dK_l_91.2.2.2.1
theorem dL_law_1150 : decode cL_law 1150 = .ok (.goto 421, 3) := dK_l_91.2.2.2.2.1
theorem dL_law_1153 : decode cL_law 1153 = .ok (.aload_n 1, 1) := dK_l_91.2.2.2.2.2.1
theorem dL_law_1154 : decode cL_law 1154 = .ok (.invokevirtual 152, 3) := dK_l_91.2.2.2.2.2.2.1
theorem dL_law_1157 : decode cL_law 1157 = .ok (.pop, 1) := dK_l_91.2.2.2.2.2.2.2.1
theorem dK_l_92 : dk_P cL_law [(1158, (.aload_n 2, 1)), (1159, (.invokevirtual 155, 3)), (1162, (.pop, 1)), (1163, (.goto 408, 3)), (1166, (.aload_n 1, 1)), (1167, (.aload_n 0, 1)), (1168, (.iload_n 3, 1)), (1169, (.iconst 1, 1))] := dk_of 1158 (by decide +kernel)
theorem dL_law_1158 : decode cL_law 1158 = .ok (.aload_n 2, 1) := dK_l_92.1
theorem dL_law_1159 : decode cL_law 1159 = .ok (.invokevirtual 155, 3) := dK_l_92.2.1
theorem dL_law_1162 : decode cL_law 1162 = .ok (.pop, 1) := dK_l_92.2.2.1
theorem dL_law_1163 : decode cL_law 1163 = .ok (.goto 408, 3) := dK_l_92.2.2.2.1
theorem dL_law_1166 : decode cL_law 1166 = .ok (.aload_n 1, 1) := dK_l_92.2.2.2.2.1
theorem dL_law_1167 : decode cL_law 1167 = .ok (.aload_n 0, 1) := dK_l_92.2.2.2.2.2.1
theorem dL_law_1168 : decode cL_law 1168 = .ok (.iload_n 3, 1) := dK_l_92.2.2.2.2.2.2.1
theorem dL_law_1169 : decode cL_law 1169 = .ok (.iconst 1, 1) := dK_l_92.2.2.2.2.2.2.2.1
theorem dK_l_93 : dk_P cL_law [(1170, (.iadd, 1)), (1171, (.iaload, 1)), (1172, (.aload_n 0, 1)), (1173, (.iload_n 3, 1)), (1174, (.iconst 2, 1)), (1175, (.iadd, 1)), (1176, (.iaload, 1)), (1177, (.aload_n 0, 1))] := dk_of 1170 (by decide +kernel)
theorem dL_law_1170 : decode cL_law 1170 = .ok (.iadd, 1) := dK_l_93.1
theorem dL_law_1171 : decode cL_law 1171 = .ok (.iaload, 1) := dK_l_93.2.1
theorem dL_law_1172 : decode cL_law 1172 = .ok (.aload_n 0, 1) := dK_l_93.2.2.1
theorem dL_law_1173 : decode cL_law 1173 = .ok (.iload_n 3, 1) := dK_l_93.2.2.2.1
theorem dL_law_1174 : decode cL_law 1174 = .ok (.iconst 2, 1) := dK_l_93.2.2.2.2.1
theorem dL_law_1175 : decode cL_law 1175 = .ok (.iadd, 1) := dK_l_93.2.2.2.2.2.1
theorem dL_law_1176 : decode cL_law 1176 = .ok (.iaload, 1) := dK_l_93.2.2.2.2.2.2.1
theorem dL_law_1177 : decode cL_law 1177 = .ok (.aload_n 0, 1) := dK_l_93.2.2.2.2.2.2.2.1
theorem dK_l_94 : dk_P cL_law [(1178, (.iload_n 3, 1)), (1179, (.iconst 3, 1)), (1180, (.iadd, 1)), (1181, (.iaload, 1)), (1182, (.aload_n 0, 1)), (1183, (.iload_n 3, 1)), (1184, (.iconst 4, 1)), (1185, (.iadd, 1))] := dk_of 1178 (by decide +kernel)
theorem dL_law_1178 : decode cL_law 1178 = .ok (.iload_n 3, 1) := dK_l_94.1
theorem dL_law_1179 : decode cL_law 1179 = .ok (.iconst 3, 1) := dK_l_94.2.1
theorem dL_law_1180 : decode cL_law 1180 = .ok (.iadd, 1) := dK_l_94.2.2.1
theorem dL_law_1181 : decode cL_law 1181 = .ok (.iaload, 1) := dK_l_94.2.2.2.1
theorem dL_law_1182 : decode cL_law 1182 = .ok (.aload_n 0, 1) := dK_l_94.2.2.2.2.1
theorem dL_law_1183 : decode cL_law 1183 = .ok (.iload_n 3, 1) := dK_l_94.2.2.2.2.2.1
theorem dL_law_1184 : decode cL_law 1184 = .ok (.iconst 4, 1) := dK_l_94.2.2.2.2.2.2.1
theorem dL_law_1185 : decode cL_law 1185 = .ok (.iadd, 1) := dK_l_94.2.2.2.2.2.2.2.1
theorem dK_l_95 : dk_P cL_law [(1186, (.iaload, 1)), (1187, (.invokevirtual 156, 3)), (1190, (.pop, 1)), (1191, (.aload_n 2, 1)), (1192, (.aload_n 0, 1)), (1193, (.iload_n 3, 1)), (1194, (.iconst 1, 1)), (1195, (.iadd, 1))] := dk_of 1186 (by decide +kernel)
theorem dL_law_1186 : decode cL_law 1186 = .ok (.iaload, 1) := dK_l_95.1
theorem dL_law_1187 : decode cL_law 1187 = .ok (.invokevirtual 156, 3) := dK_l_95.2.1
theorem dL_law_1190 : decode cL_law 1190 = .ok (.pop, 1) := dK_l_95.2.2.1
theorem dL_law_1191 : decode cL_law 1191 = .ok (.aload_n 2, 1) := dK_l_95.2.2.2.1
theorem dL_law_1192 : decode cL_law 1192 = .ok (.aload_n 0, 1) := dK_l_95.2.2.2.2.1
theorem dL_law_1193 : decode cL_law 1193 = .ok (.iload_n 3, 1) := dK_l_95.2.2.2.2.2.1
theorem dL_law_1194 : decode cL_law 1194 = .ok (.iconst 1, 1) := dK_l_95.2.2.2.2.2.2.1
theorem dL_law_1195 : decode cL_law 1195 = .ok (.iadd, 1) := dK_l_95.2.2.2.2.2.2.2.1
theorem dK_l_96 : dk_P cL_law [(1196, (.iaload, 1)), (1197, (.aload_n 0, 1)), (1198, (.iload_n 3, 1)), (1199, (.iconst 2, 1)), (1200, (.iadd, 1)), (1201, (.iaload, 1)), (1202, (.aload_n 0, 1)), (1203, (.iload_n 3, 1))] := dk_of 1196 (by decide +kernel)
theorem dL_law_1196 : decode cL_law 1196 = .ok (.iaload, 1) := dK_l_96.1
theorem dL_law_1197 : decode cL_law 1197 = .ok (.aload_n 0, 1) := dK_l_96.2.1
theorem dL_law_1198 : decode cL_law 1198 = .ok (.iload_n 3, 1) := dK_l_96.2.2.1
theorem dL_law_1199 : decode cL_law 1199 = .ok (.iconst 2, 1) := dK_l_96.2.2.2.1
theorem dL_law_1200 : decode cL_law 1200 = .ok (.iadd, 1) := dK_l_96.2.2.2.2.1
theorem dL_law_1201 : decode cL_law 1201 = .ok (.iaload, 1) := dK_l_96.2.2.2.2.2.1
theorem dL_law_1202 : decode cL_law 1202 = .ok (.aload_n 0, 1) := dK_l_96.2.2.2.2.2.2.1
theorem dL_law_1203 : decode cL_law 1203 = .ok (.iload_n 3, 1) := dK_l_96.2.2.2.2.2.2.2.1
theorem dK_l_97 : dk_P cL_law [(1204, (.iconst 3, 1)), (1205, (.iadd, 1)), (1206, (.iaload, 1)), (1207, (.aload_n 0, 1)), (1208, (.iload_n 3, 1)), (1209, (.iconst 4, 1)), (1210, (.iadd, 1)), (1211, (.iaload, 1))] := dk_of 1204 (by decide +kernel)
theorem dL_law_1204 : decode cL_law 1204 = .ok (.iconst 3, 1) := dK_l_97.1
theorem dL_law_1205 : decode cL_law 1205 = .ok (.iadd, 1) := dK_l_97.2.1
theorem dL_law_1206 : decode cL_law 1206 = .ok (.iaload, 1) := dK_l_97.2.2.1
theorem dL_law_1207 : decode cL_law 1207 = .ok (.aload_n 0, 1) := dK_l_97.2.2.2.1
theorem dL_law_1208 : decode cL_law 1208 = .ok (.iload_n 3, 1) := dK_l_97.2.2.2.2.1
theorem dL_law_1209 : decode cL_law 1209 = .ok (.iconst 4, 1) := dK_l_97.2.2.2.2.2.1
theorem dL_law_1210 : decode cL_law 1210 = .ok (.iadd, 1) := dK_l_97.2.2.2.2.2.2.1
theorem dL_law_1211 : decode cL_law 1211 = .ok (.iaload, 1) := dK_l_97.2.2.2.2.2.2.2.1
theorem dK_l_98 : dk_P cL_law [(1212, (.invokevirtual 159, 3)), (1215, (.pop, 1)), (1216, (.goto 355, 3)), (1219, (.aload_n 1, 1)), (1220, (.aload_n 0, 1)), (1221, (.iload_n 3, 1)), (1222, (.iconst 1, 1)), (1223, (.iadd, 1))] := dk_of 1212 (by decide +kernel)
theorem dL_law_1212 : decode cL_law 1212 = .ok (.invokevirtual 159, 3) := dK_l_98.1
theorem dL_law_1215 : decode cL_law 1215 = .ok (.pop, 1) := dK_l_98.2.1
theorem dL_law_1216 : decode cL_law 1216 = .ok (.goto 355, 3) := dK_l_98.2.2.1
theorem dL_law_1219 : decode cL_law 1219 = .ok (.aload_n 1, 1) := dK_l_98.2.2.2.1
theorem dL_law_1220 : decode cL_law 1220 = .ok (.aload_n 0, 1) := dK_l_98.2.2.2.2.1
theorem dL_law_1221 : decode cL_law 1221 = .ok (.iload_n 3, 1) := dK_l_98.2.2.2.2.2.1
theorem dL_law_1222 : decode cL_law 1222 = .ok (.iconst 1, 1) := dK_l_98.2.2.2.2.2.2.1
theorem dL_law_1223 : decode cL_law 1223 = .ok (.iadd, 1) := dK_l_98.2.2.2.2.2.2.2.1
theorem dK_l_99 : dk_P cL_law [(1224, (.iaload, 1)), (1225, (.aload_n 0, 1)), (1226, (.iload_n 3, 1)), (1227, (.iconst 2, 1)), (1228, (.iadd, 1)), (1229, (.iaload, 1)), (1230, (.invokevirtual 160, 3)), (1233, (.pop, 1))] := dk_of 1224 (by decide +kernel)
theorem dL_law_1224 : decode cL_law 1224 = .ok (.iaload, 1) := dK_l_99.1
theorem dL_law_1225 : decode cL_law 1225 = .ok (.aload_n 0, 1) := dK_l_99.2.1
theorem dL_law_1226 : decode cL_law 1226 = .ok (.iload_n 3, 1) := dK_l_99.2.2.1
theorem dL_law_1227 : decode cL_law 1227 = .ok (.iconst 2, 1) := dK_l_99.2.2.2.1
theorem dL_law_1228 : decode cL_law 1228 = .ok (.iadd, 1) := dK_l_99.2.2.2.2.1
theorem dL_law_1229 : decode cL_law 1229 = .ok (.iaload, 1) := dK_l_99.2.2.2.2.2.1
theorem dL_law_1230 : decode cL_law 1230 = .ok (.invokevirtual 160, 3) := dK_l_99.2.2.2.2.2.2.1
theorem dL_law_1233 : decode cL_law 1233 = .ok (.pop, 1) := dK_l_99.2.2.2.2.2.2.2.1
theorem dK_l_100 : dk_P cL_law [(1234, (.aload_n 2, 1)), (1235, (.aload_n 0, 1)), (1236, (.iload_n 3, 1)), (1237, (.iconst 1, 1)), (1238, (.iadd, 1)), (1239, (.iaload, 1)), (1240, (.aload_n 0, 1)), (1241, (.iload_n 3, 1))] := dk_of 1234 (by decide +kernel)
theorem dL_law_1234 : decode cL_law 1234 = .ok (.aload_n 2, 1) := dK_l_100.1
theorem dL_law_1235 : decode cL_law 1235 = .ok (.aload_n 0, 1) := dK_l_100.2.1
theorem dL_law_1236 : decode cL_law 1236 = .ok (.iload_n 3, 1) := dK_l_100.2.2.1
theorem dL_law_1237 : decode cL_law 1237 = .ok (.iconst 1, 1) := dK_l_100.2.2.2.1
theorem dL_law_1238 : decode cL_law 1238 = .ok (.iadd, 1) := dK_l_100.2.2.2.2.1
theorem dL_law_1239 : decode cL_law 1239 = .ok (.iaload, 1) := dK_l_100.2.2.2.2.2.1
theorem dL_law_1240 : decode cL_law 1240 = .ok (.aload_n 0, 1) := dK_l_100.2.2.2.2.2.2.1
theorem dL_law_1241 : decode cL_law 1241 = .ok (.iload_n 3, 1) := dK_l_100.2.2.2.2.2.2.2.1
theorem dK_l_101 : dk_P cL_law [(1242, (.iconst 2, 1)), (1243, (.iadd, 1)), (1244, (.iaload, 1)), (1245, (.invokevirtual 163, 3)), (1248, (.pop, 1)), (1249, (.goto 322, 3)), (1252, (.aload_n 1, 1)), (1253, (.aload_n 0, 1))] := dk_of 1242 (by decide +kernel)
theorem dL_law_1242 : decode cL_law 1242 = .ok (.iconst 2, 1) := dK_l_101.1
theorem dL_law_1243 : decode cL_law 1243 = .ok (.iadd, 1) := dK_l_101.2.1
theorem dL_law_1244 : decode cL_law 1244 = .ok (.iaload, 1) := dK_l_101.2.2.1
theorem dL_law_1245 : decode cL_law 1245 = .ok (.invokevirtual 163, 3) := dK_l_101.2.2.2.1
theorem dL_law_1248 : decode cL_law 1248 = .ok (.pop, 1) := dK_l_101.2.2.2.2.1
theorem dL_law_1249 : decode cL_law 1249 = .ok (.goto 322, 3) := dK_l_101.2.2.2.2.2.1
theorem dL_law_1252 : decode cL_law 1252 = .ok (.aload_n 1, 1) := dK_l_101.2.2.2.2.2.2.1
theorem dL_law_1253 : decode cL_law 1253 = .ok (.aload_n 0, 1) := dK_l_101.2.2.2.2.2.2.2.1
theorem dK_l_102 : dk_P cL_law [(1254, (.iload_n 3, 1)), (1255, (.iconst 1, 1)), (1256, (.iadd, 1)), (1257, (.iaload, 1)), (1258, (.aload_n 0, 1)), (1259, (.iload_n 3, 1)), (1260, (.iconst 2, 1)), (1261, (.iadd, 1))] := dk_of 1254 (by decide +kernel)
theorem dL_law_1254 : decode cL_law 1254 = .ok (.iload_n 3, 1) := dK_l_102.1
theorem dL_law_1255 : decode cL_law 1255 = .ok (.iconst 1, 1) := dK_l_102.2.1
theorem dL_law_1256 : decode cL_law 1256 = .ok (.iadd, 1) := dK_l_102.2.2.1
theorem dL_law_1257 : decode cL_law 1257 = .ok (.iaload, 1) := dK_l_102.2.2.2.1
theorem dL_law_1258 : decode cL_law 1258 = .ok (.aload_n 0, 1) := dK_l_102.2.2.2.2.1
theorem dL_law_1259 : decode cL_law 1259 = .ok (.iload_n 3, 1) := dK_l_102.2.2.2.2.2.1
theorem dL_law_1260 : decode cL_law 1260 = .ok (.iconst 2, 1) := dK_l_102.2.2.2.2.2.2.1
theorem dL_law_1261 : decode cL_law 1261 = .ok (.iadd, 1) := dK_l_102.2.2.2.2.2.2.2.1
theorem dK_l_103 : dk_P cL_law [(1262, (.iaload, 1)), (1263, (.invokevirtual 164, 3)), (1266, (.pop, 1)), (1267, (.aload_n 2, 1)), (1268, (.aload_n 0, 1)), (1269, (.iload_n 3, 1)), (1270, (.iconst 1, 1)), (1271, (.iadd, 1))] := dk_of 1262 (by decide +kernel)
theorem dL_law_1262 : decode cL_law 1262 = .ok (.iaload, 1) := dK_l_103.1
theorem dL_law_1263 : decode cL_law 1263 = .ok (.invokevirtual 164, 3) := dK_l_103.2.1
theorem dL_law_1266 : decode cL_law 1266 = .ok (.pop, 1) := dK_l_103.2.2.1
theorem dL_law_1267 : decode cL_law 1267 = .ok (.aload_n 2, 1) := dK_l_103.2.2.2.1
theorem dL_law_1268 : decode cL_law 1268 = .ok (.aload_n 0, 1) := dK_l_103.2.2.2.2.1
theorem dL_law_1269 : decode cL_law 1269 = .ok (.iload_n 3, 1) := dK_l_103.2.2.2.2.2.1
theorem dL_law_1270 : decode cL_law 1270 = .ok (.iconst 1, 1) := dK_l_103.2.2.2.2.2.2.1
theorem dL_law_1271 : decode cL_law 1271 = .ok (.iadd, 1) := dK_l_103.2.2.2.2.2.2.2.1
theorem dK_l_104 : dk_P cL_law [(1272, (.iaload, 1)), (1273, (.aload_n 0, 1)), (1274, (.iload_n 3, 1)), (1275, (.iconst 2, 1)), (1276, (.iadd, 1)), (1277, (.iaload, 1)), (1278, (.invokevirtual 167, 3)), (1281, (.pop, 1))] := dk_of 1272 (by decide +kernel)
theorem dL_law_1272 : decode cL_law 1272 = .ok (.iaload, 1) := dK_l_104.1
theorem dL_law_1273 : decode cL_law 1273 = .ok (.aload_n 0, 1) := dK_l_104.2.1
theorem dL_law_1274 : decode cL_law 1274 = .ok (.iload_n 3, 1) := dK_l_104.2.2.1
theorem dL_law_1275 : decode cL_law 1275 = .ok (.iconst 2, 1) := dK_l_104.2.2.2.1
theorem dL_law_1276 : decode cL_law 1276 = .ok (.iadd, 1) := dK_l_104.2.2.2.2.1
theorem dL_law_1277 : decode cL_law 1277 = .ok (.iaload, 1) := dK_l_104.2.2.2.2.2.1
theorem dL_law_1278 : decode cL_law 1278 = .ok (.invokevirtual 167, 3) := dK_l_104.2.2.2.2.2.2.1
theorem dL_law_1281 : decode cL_law 1281 = .ok (.pop, 1) := dK_l_104.2.2.2.2.2.2.2.1
theorem dK_l_105 : dk_P cL_law [(1282, (.goto 289, 3)), (1285, (.aload_n 1, 1)), (1286, (.aload_n 0, 1)), (1287, (.iload_n 3, 1)), (1288, (.iconst 1, 1)), (1289, (.iadd, 1)), (1290, (.iaload, 1)), (1291, (.aload_n 0, 1))] := dk_of 1282 (by decide +kernel)
theorem dL_law_1282 : decode cL_law 1282 = .ok (.goto 289, 3) := dK_l_105.1
theorem dL_law_1285 : decode cL_law 1285 = .ok (.aload_n 1, 1) := dK_l_105.2.1
theorem dL_law_1286 : decode cL_law 1286 = .ok (.aload_n 0, 1) := dK_l_105.2.2.1
theorem dL_law_1287 : decode cL_law 1287 = .ok (.iload_n 3, 1) := dK_l_105.2.2.2.1
theorem dL_law_1288 : decode cL_law 1288 = .ok (.iconst 1, 1) := dK_l_105.2.2.2.2.1
theorem dL_law_1289 : decode cL_law 1289 = .ok (.iadd, 1) := dK_l_105.2.2.2.2.2.1
theorem dL_law_1290 : decode cL_law 1290 = .ok (.iaload, 1) := dK_l_105.2.2.2.2.2.2.1
theorem dL_law_1291 : decode cL_law 1291 = .ok (.aload_n 0, 1) := dK_l_105.2.2.2.2.2.2.2.1
theorem dK_l_106 : dk_P cL_law [(1292, (.iload_n 3, 1)), (1293, (.iconst 2, 1)), (1294, (.iadd, 1)), (1295, (.iaload, 1)), (1296, (.aload_n 0, 1)), (1297, (.iload_n 3, 1)), (1298, (.iconst 3, 1)), (1299, (.iadd, 1))] := dk_of 1292 (by decide +kernel)
theorem dL_law_1292 : decode cL_law 1292 = .ok (.iload_n 3, 1) := dK_l_106.1
theorem dL_law_1293 : decode cL_law 1293 = .ok (.iconst 2, 1) := dK_l_106.2.1
theorem dL_law_1294 : decode cL_law 1294 = .ok (.iadd, 1) := dK_l_106.2.2.1
theorem dL_law_1295 : decode cL_law 1295 = .ok (.iaload, 1) := dK_l_106.2.2.2.1
theorem dL_law_1296 : decode cL_law 1296 = .ok (.aload_n 0, 1) := dK_l_106.2.2.2.2.1
theorem dL_law_1297 : decode cL_law 1297 = .ok (.iload_n 3, 1) := dK_l_106.2.2.2.2.2.1
theorem dL_law_1298 : decode cL_law 1298 = .ok (.iconst 3, 1) := dK_l_106.2.2.2.2.2.2.1
theorem dL_law_1299 : decode cL_law 1299 = .ok (.iadd, 1) := dK_l_106.2.2.2.2.2.2.2.1
theorem dK_l_107 : dk_P cL_law [(1300, (.iaload, 1)), (1301, (.invokevirtual 168, 3)), (1304, (.pop, 1)), (1305, (.aload_n 2, 1)), (1306, (.aload_n 0, 1)), (1307, (.iload_n 3, 1)), (1308, (.iconst 1, 1)), (1309, (.iadd, 1))] := dk_of 1300 (by decide +kernel)
theorem dL_law_1300 : decode cL_law 1300 = .ok (.iaload, 1) := dK_l_107.1
theorem dL_law_1301 : decode cL_law 1301 = .ok (.invokevirtual 168, 3) := dK_l_107.2.1
theorem dL_law_1304 : decode cL_law 1304 = .ok (.pop, 1) := dK_l_107.2.2.1
theorem dL_law_1305 : decode cL_law 1305 = .ok (.aload_n 2, 1) := dK_l_107.2.2.2.1
theorem dL_law_1306 : decode cL_law 1306 = .ok (.aload_n 0, 1) := dK_l_107.2.2.2.2.1
theorem dL_law_1307 : decode cL_law 1307 = .ok (.iload_n 3, 1) := dK_l_107.2.2.2.2.2.1
theorem dL_law_1308 : decode cL_law 1308 = .ok (.iconst 1, 1) := dK_l_107.2.2.2.2.2.2.1
theorem dL_law_1309 : decode cL_law 1309 = .ok (.iadd, 1) := dK_l_107.2.2.2.2.2.2.2.1
theorem dK_l_108 : dk_P cL_law [(1310, (.iaload, 1)), (1311, (.aload_n 0, 1)), (1312, (.iload_n 3, 1)), (1313, (.iconst 2, 1)), (1314, (.iadd, 1)), (1315, (.iaload, 1)), (1316, (.aload_n 0, 1)), (1317, (.iload_n 3, 1))] := dk_of 1310 (by decide +kernel)
theorem dL_law_1310 : decode cL_law 1310 = .ok (.iaload, 1) := dK_l_108.1
theorem dL_law_1311 : decode cL_law 1311 = .ok (.aload_n 0, 1) := dK_l_108.2.1
theorem dL_law_1312 : decode cL_law 1312 = .ok (.iload_n 3, 1) := dK_l_108.2.2.1
theorem dL_law_1313 : decode cL_law 1313 = .ok (.iconst 2, 1) := dK_l_108.2.2.2.1
theorem dL_law_1314 : decode cL_law 1314 = .ok (.iadd, 1) := dK_l_108.2.2.2.2.1
theorem dL_law_1315 : decode cL_law 1315 = .ok (.iaload, 1) := dK_l_108.2.2.2.2.2.1
theorem dL_law_1316 : decode cL_law 1316 = .ok (.aload_n 0, 1) := dK_l_108.2.2.2.2.2.2.1
theorem dL_law_1317 : decode cL_law 1317 = .ok (.iload_n 3, 1) := dK_l_108.2.2.2.2.2.2.2.1
theorem dK_l_109 : dk_P cL_law [(1318, (.iconst 3, 1)), (1319, (.iadd, 1)), (1320, (.iaload, 1)), (1321, (.invokevirtual 171, 3)), (1324, (.pop, 1)), (1325, (.goto 246, 3)), (1328, (.aload_n 1, 1)), (1329, (.aload_n 0, 1))] := dk_of 1318 (by decide +kernel)
theorem dL_law_1318 : decode cL_law 1318 = .ok (.iconst 3, 1) := dK_l_109.1
theorem dL_law_1319 : decode cL_law 1319 = .ok (.iadd, 1) := dK_l_109.2.1
theorem dL_law_1320 : decode cL_law 1320 = .ok (.iaload, 1) := dK_l_109.2.2.1
theorem dL_law_1321 : decode cL_law 1321 = .ok (.invokevirtual 171, 3) := dK_l_109.2.2.2.1
theorem dL_law_1324 : decode cL_law 1324 = .ok (.pop, 1) := dK_l_109.2.2.2.2.1
theorem dL_law_1325 : decode cL_law 1325 = .ok (.goto 246, 3) := dK_l_109.2.2.2.2.2.1
theorem dL_law_1328 : decode cL_law 1328 = .ok (.aload_n 1, 1) := dK_l_109.2.2.2.2.2.2.1
theorem dL_law_1329 : decode cL_law 1329 = .ok (.aload_n 0, 1) := dK_l_109.2.2.2.2.2.2.2.1
theorem dK_l_110 : dk_P cL_law [(1330, (.iload_n 3, 1)), (1331, (.iconst 1, 1)), (1332, (.iadd, 1)), (1333, (.iaload, 1)), (1334, (.invokevirtual 172, 3)), (1337, (.pop, 1)), (1338, (.aload_n 2, 1)), (1339, (.aload_n 0, 1))] := dk_of 1330 (by decide +kernel)
theorem dL_law_1330 : decode cL_law 1330 = .ok (.iload_n 3, 1) := dK_l_110.1
theorem dL_law_1331 : decode cL_law 1331 = .ok (.iconst 1, 1) := dK_l_110.2.1
theorem dL_law_1332 : decode cL_law 1332 = .ok (.iadd, 1) := dK_l_110.2.2.1
theorem dL_law_1333 : decode cL_law 1333 = .ok (.iaload, 1) := dK_l_110.2.2.2.1
theorem dL_law_1334 : decode cL_law 1334 = .ok (.invokevirtual 172, 3) := dK_l_110.2.2.2.2.1
theorem dL_law_1337 : decode cL_law 1337 = .ok (.pop, 1) := dK_l_110.2.2.2.2.2.1
theorem dL_law_1338 : decode cL_law 1338 = .ok (.aload_n 2, 1) := dK_l_110.2.2.2.2.2.2.1
theorem dL_law_1339 : decode cL_law 1339 = .ok (.aload_n 0, 1) := dK_l_110.2.2.2.2.2.2.2.1
theorem dK_l_111 : dk_P cL_law [(1340, (.iload_n 3, 1)), (1341, (.iconst 1, 1)), (1342, (.iadd, 1)), (1343, (.iaload, 1)), (1344, (.invokevirtual 175, 3)), (1347, (.pop, 1)), (1348, (.goto 223, 3)), (1351, (.aload_n 1, 1))] := dk_of 1340 (by decide +kernel)
theorem dL_law_1340 : decode cL_law 1340 = .ok (.iload_n 3, 1) := dK_l_111.1
theorem dL_law_1341 : decode cL_law 1341 = .ok (.iconst 1, 1) := dK_l_111.2.1
theorem dL_law_1342 : decode cL_law 1342 = .ok (.iadd, 1) := dK_l_111.2.2.1
theorem dL_law_1343 : decode cL_law 1343 = .ok (.iaload, 1) := dK_l_111.2.2.2.1
theorem dL_law_1344 : decode cL_law 1344 = .ok (.invokevirtual 175, 3) := dK_l_111.2.2.2.2.1
theorem dL_law_1347 : decode cL_law 1347 = .ok (.pop, 1) := dK_l_111.2.2.2.2.2.1
theorem dL_law_1348 : decode cL_law 1348 = .ok (.goto 223, 3) := dK_l_111.2.2.2.2.2.2.1
theorem dL_law_1351 : decode cL_law 1351 = .ok (.aload_n 1, 1) := dK_l_111.2.2.2.2.2.2.2.1
theorem dK_l_112 : dk_P cL_law [(1352, (.aload_n 0, 1)), (1353, (.iload_n 3, 1)), (1354, (.iconst 1, 1)), (1355, (.iadd, 1)), (1356, (.iaload, 1)), (1357, (.invokevirtual 176, 3)), (1360, (.pop, 1)), (1361, (.aload_n 2, 1))] := dk_of 1352 (by decide +kernel)
theorem dL_law_1352 : decode cL_law 1352 = .ok (.aload_n 0, 1) := dK_l_112.1
theorem dL_law_1353 : decode cL_law 1353 = .ok (.iload_n 3, 1) := dK_l_112.2.1
theorem dL_law_1354 : decode cL_law 1354 = .ok (.iconst 1, 1) := dK_l_112.2.2.1
theorem dL_law_1355 : decode cL_law 1355 = .ok (.iadd, 1) := dK_l_112.2.2.2.1
theorem dL_law_1356 : decode cL_law 1356 = .ok (.iaload, 1) := dK_l_112.2.2.2.2.1
theorem dL_law_1357 : decode cL_law 1357 = .ok (.invokevirtual 176, 3) := dK_l_112.2.2.2.2.2.1
theorem dL_law_1360 : decode cL_law 1360 = .ok (.pop, 1) := dK_l_112.2.2.2.2.2.2.1
theorem dL_law_1361 : decode cL_law 1361 = .ok (.aload_n 2, 1) := dK_l_112.2.2.2.2.2.2.2.1
theorem dK_l_113 : dk_P cL_law [(1362, (.aload_n 0, 1)), (1363, (.iload_n 3, 1)), (1364, (.iconst 1, 1)), (1365, (.iadd, 1)), (1366, (.iaload, 1)), (1367, (.invokevirtual 179, 3)), (1370, (.pop, 1)), (1371, (.goto 200, 3))] := dk_of 1362 (by decide +kernel)
theorem dL_law_1362 : decode cL_law 1362 = .ok (.aload_n 0, 1) := dK_l_113.1
theorem dL_law_1363 : decode cL_law 1363 = .ok (.iload_n 3, 1) := dK_l_113.2.1
theorem dL_law_1364 : decode cL_law 1364 = .ok (.iconst 1, 1) := dK_l_113.2.2.1
theorem dL_law_1365 : decode cL_law 1365 = .ok (.iadd, 1) := dK_l_113.2.2.2.1
theorem dL_law_1366 : decode cL_law 1366 = .ok (.iaload, 1) := dK_l_113.2.2.2.2.1
theorem dL_law_1367 : decode cL_law 1367 = .ok (.invokevirtual 179, 3) := dK_l_113.2.2.2.2.2.1
theorem dL_law_1370 : decode cL_law 1370 = .ok (.pop, 1) := dK_l_113.2.2.2.2.2.2.1
theorem dL_law_1371 : decode cL_law 1371 = .ok (.goto 200, 3) := dK_l_113.2.2.2.2.2.2.2.1
theorem dK_l_114 : dk_P cL_law [(1374, (.aload_n 1, 1)), (1375, (.aload_n 0, 1)), (1376, (.iload_n 3, 1)), (1377, (.iconst 1, 1)), (1378, (.iadd, 1)), (1379, (.iaload, 1)), (1380, (.aload_n 0, 1)), (1381, (.iload_n 3, 1))] := dk_of 1374 (by decide +kernel)
theorem dL_law_1374 : decode cL_law 1374 = .ok (.aload_n 1, 1) := dK_l_114.1
theorem dL_law_1375 : decode cL_law 1375 = .ok (.aload_n 0, 1) := dK_l_114.2.1
theorem dL_law_1376 : decode cL_law 1376 = .ok (.iload_n 3, 1) := dK_l_114.2.2.1
theorem dL_law_1377 : decode cL_law 1377 = .ok (.iconst 1, 1) := dK_l_114.2.2.2.1
theorem dL_law_1378 : decode cL_law 1378 = .ok (.iadd, 1) := dK_l_114.2.2.2.2.1
theorem dL_law_1379 : decode cL_law 1379 = .ok (.iaload, 1) := dK_l_114.2.2.2.2.2.1
theorem dL_law_1380 : decode cL_law 1380 = .ok (.aload_n 0, 1) := dK_l_114.2.2.2.2.2.2.1
theorem dL_law_1381 : decode cL_law 1381 = .ok (.iload_n 3, 1) := dK_l_114.2.2.2.2.2.2.2.1
theorem dK_l_115 : dk_P cL_law [(1382, (.iconst 2, 1)), (1383, (.iadd, 1)), (1384, (.iaload, 1)), (1385, (.invokevirtual 180, 3)), (1388, (.pop, 1)), (1389, (.aload_n 2, 1)), (1390, (.aload_n 0, 1)), (1391, (.iload_n 3, 1))] := dk_of 1382 (by decide +kernel)
theorem dL_law_1382 : decode cL_law 1382 = .ok (.iconst 2, 1) := dK_l_115.1
theorem dL_law_1383 : decode cL_law 1383 = .ok (.iadd, 1) := dK_l_115.2.1
theorem dL_law_1384 : decode cL_law 1384 = .ok (.iaload, 1) := dK_l_115.2.2.1
theorem dL_law_1385 : decode cL_law 1385 = .ok (.invokevirtual 180, 3) := dK_l_115.2.2.2.1
theorem dL_law_1388 : decode cL_law 1388 = .ok (.pop, 1) := dK_l_115.2.2.2.2.1
theorem dL_law_1389 : decode cL_law 1389 = .ok (.aload_n 2, 1) := dK_l_115.2.2.2.2.2.1
theorem dL_law_1390 : decode cL_law 1390 = .ok (.aload_n 0, 1) := dK_l_115.2.2.2.2.2.2.1
theorem dL_law_1391 : decode cL_law 1391 = .ok (.iload_n 3, 1) := dK_l_115.2.2.2.2.2.2.2.1
theorem dK_l_116 : dk_P cL_law [(1392, (.iconst 1, 1)), (1393, (.iadd, 1)), (1394, (.iaload, 1)), (1395, (.aload_n 0, 1)), (1396, (.iload_n 3, 1)), (1397, (.iconst 2, 1)), (1398, (.iadd, 1)), (1399, (.iaload, 1))] := dk_of 1392 (by decide +kernel)
theorem dL_law_1392 : decode cL_law 1392 = .ok (.iconst 1, 1) := dK_l_116.1
theorem dL_law_1393 : decode cL_law 1393 = .ok (.iadd, 1) := dK_l_116.2.1
theorem dL_law_1394 : decode cL_law 1394 = .ok (.iaload, 1) := dK_l_116.2.2.1
theorem dL_law_1395 : decode cL_law 1395 = .ok (.aload_n 0, 1) := dK_l_116.2.2.2.1
theorem dL_law_1396 : decode cL_law 1396 = .ok (.iload_n 3, 1) := dK_l_116.2.2.2.2.1
theorem dL_law_1397 : decode cL_law 1397 = .ok (.iconst 2, 1) := dK_l_116.2.2.2.2.2.1
theorem dL_law_1398 : decode cL_law 1398 = .ok (.iadd, 1) := dK_l_116.2.2.2.2.2.2.1
theorem dL_law_1399 : decode cL_law 1399 = .ok (.iaload, 1) := dK_l_116.2.2.2.2.2.2.2.1
theorem dK_l_117 : dk_P cL_law [(1400, (.invokevirtual 183, 3)), (1403, (.pop, 1)), (1404, (.goto 167, 3)), (1407, (.aload_n 1, 1)), (1408, (.aload_n 0, 1)), (1409, (.iload_n 3, 1)), (1410, (.iconst 1, 1)), (1411, (.iadd, 1))] := dk_of 1400 (by decide +kernel)
theorem dL_law_1400 : decode cL_law 1400 = .ok (.invokevirtual 183, 3) := dK_l_117.1
theorem dL_law_1403 : decode cL_law 1403 = .ok (.pop, 1) := dK_l_117.2.1
theorem dL_law_1404 : decode cL_law 1404 = .ok (.goto 167, 3) := dK_l_117.2.2.1
theorem dL_law_1407 : decode cL_law 1407 = .ok (.aload_n 1, 1) := dK_l_117.2.2.2.1
theorem dL_law_1408 : decode cL_law 1408 = .ok (.aload_n 0, 1) := dK_l_117.2.2.2.2.1
theorem dL_law_1409 : decode cL_law 1409 = .ok (.iload_n 3, 1) := dK_l_117.2.2.2.2.2.1
theorem dL_law_1410 : decode cL_law 1410 = .ok (.iconst 1, 1) := dK_l_117.2.2.2.2.2.2.1
theorem dL_law_1411 : decode cL_law 1411 = .ok (.iadd, 1) := dK_l_117.2.2.2.2.2.2.2.1
theorem dK_l_118 : dk_P cL_law [(1412, (.iaload, 1)), (1413, (.aload_n 0, 1)), (1414, (.iload_n 3, 1)), (1415, (.iconst 2, 1)), (1416, (.iadd, 1)), (1417, (.iaload, 1)), (1418, (.invokevirtual 184, 3)), (1421, (.pop2, 1))] := dk_of 1412 (by decide +kernel)
theorem dL_law_1412 : decode cL_law 1412 = .ok (.iaload, 1) := dK_l_118.1
theorem dL_law_1413 : decode cL_law 1413 = .ok (.aload_n 0, 1) := dK_l_118.2.1
theorem dL_law_1414 : decode cL_law 1414 = .ok (.iload_n 3, 1) := dK_l_118.2.2.1
theorem dL_law_1415 : decode cL_law 1415 = .ok (.iconst 2, 1) := dK_l_118.2.2.2.1
theorem dL_law_1416 : decode cL_law 1416 = .ok (.iadd, 1) := dK_l_118.2.2.2.2.1
theorem dL_law_1417 : decode cL_law 1417 = .ok (.iaload, 1) := dK_l_118.2.2.2.2.2.1
theorem dL_law_1418 : decode cL_law 1418 = .ok (.invokevirtual 184, 3) := dK_l_118.2.2.2.2.2.2.1
theorem dL_law_1421 : decode cL_law 1421 = .ok (.pop2, 1) := dK_l_118.2.2.2.2.2.2.2.1
theorem dK_l_119 : dk_P cL_law [(1422, (.aload_n 2, 1)), (1423, (.aload_n 0, 1)), (1424, (.iload_n 3, 1)), (1425, (.iconst 1, 1)), (1426, (.iadd, 1)), (1427, (.iaload, 1)), (1428, (.aload_n 0, 1)), (1429, (.iload_n 3, 1))] := dk_of 1422 (by decide +kernel)
theorem dL_law_1422 : decode cL_law 1422 = .ok (.aload_n 2, 1) := dK_l_119.1
theorem dL_law_1423 : decode cL_law 1423 = .ok (.aload_n 0, 1) := dK_l_119.2.1
theorem dL_law_1424 : decode cL_law 1424 = .ok (.iload_n 3, 1) := dK_l_119.2.2.1
theorem dL_law_1425 : decode cL_law 1425 = .ok (.iconst 1, 1) := dK_l_119.2.2.2.1
theorem dL_law_1426 : decode cL_law 1426 = .ok (.iadd, 1) := dK_l_119.2.2.2.2.1
theorem dL_law_1427 : decode cL_law 1427 = .ok (.iaload, 1) := dK_l_119.2.2.2.2.2.1
theorem dL_law_1428 : decode cL_law 1428 = .ok (.aload_n 0, 1) := dK_l_119.2.2.2.2.2.2.1
theorem dL_law_1429 : decode cL_law 1429 = .ok (.iload_n 3, 1) := dK_l_119.2.2.2.2.2.2.2.1
theorem dK_l_120 : dk_P cL_law [(1430, (.iconst 2, 1)), (1431, (.iadd, 1)), (1432, (.iaload, 1)), (1433, (.invokevirtual 187, 3)), (1436, (.pop2, 1)), (1437, (.goto 134, 3)), (1440, (.aload_n 1, 1)), (1441, (.aload_n 0, 1))] := dk_of 1430 (by decide +kernel)
theorem dL_law_1430 : decode cL_law 1430 = .ok (.iconst 2, 1) := dK_l_120.1
theorem dL_law_1431 : decode cL_law 1431 = .ok (.iadd, 1) := dK_l_120.2.1
theorem dL_law_1432 : decode cL_law 1432 = .ok (.iaload, 1) := dK_l_120.2.2.1
theorem dL_law_1433 : decode cL_law 1433 = .ok (.invokevirtual 187, 3) := dK_l_120.2.2.2.1
theorem dL_law_1436 : decode cL_law 1436 = .ok (.pop2, 1) := dK_l_120.2.2.2.2.1
theorem dL_law_1437 : decode cL_law 1437 = .ok (.goto 134, 3) := dK_l_120.2.2.2.2.2.1
theorem dL_law_1440 : decode cL_law 1440 = .ok (.aload_n 1, 1) := dK_l_120.2.2.2.2.2.2.1
theorem dL_law_1441 : decode cL_law 1441 = .ok (.aload_n 0, 1) := dK_l_120.2.2.2.2.2.2.2.1
theorem dK_l_121 : dk_P cL_law [(1442, (.iload_n 3, 1)), (1443, (.iconst 1, 1)), (1444, (.iadd, 1)), (1445, (.iaload, 1)), (1446, (.invokevirtual 188, 3)), (1449, (.pop, 1)), (1450, (.aload_n 2, 1)), (1451, (.aload_n 0, 1))] := dk_of 1442 (by decide +kernel)
theorem dL_law_1442 : decode cL_law 1442 = .ok (.iload_n 3, 1) := dK_l_121.1
theorem dL_law_1443 : decode cL_law 1443 = .ok (.iconst 1, 1) := dK_l_121.2.1
theorem dL_law_1444 : decode cL_law 1444 = .ok (.iadd, 1) := dK_l_121.2.2.1
theorem dL_law_1445 : decode cL_law 1445 = .ok (.iaload, 1) := dK_l_121.2.2.2.1
theorem dL_law_1446 : decode cL_law 1446 = .ok (.invokevirtual 188, 3) := dK_l_121.2.2.2.2.1
theorem dL_law_1449 : decode cL_law 1449 = .ok (.pop, 1) := dK_l_121.2.2.2.2.2.1
theorem dL_law_1450 : decode cL_law 1450 = .ok (.aload_n 2, 1) := dK_l_121.2.2.2.2.2.2.1
theorem dL_law_1451 : decode cL_law 1451 = .ok (.aload_n 0, 1) := dK_l_121.2.2.2.2.2.2.2.1
theorem dK_l_122 : dk_P cL_law [(1452, (.iload_n 3, 1)), (1453, (.iconst 1, 1)), (1454, (.iadd, 1)), (1455, (.iaload, 1)), (1456, (.invokevirtual 191, 3)), (1459, (.pop, 1)), (1460, (.goto 111, 3)), (1463, (.aload_n 1, 1))] := dk_of 1452 (by decide +kernel)
theorem dL_law_1452 : decode cL_law 1452 = .ok (.iload_n 3, 1) := dK_l_122.1
theorem dL_law_1453 : decode cL_law 1453 = .ok (.iconst 1, 1) := dK_l_122.2.1
theorem dL_law_1454 : decode cL_law 1454 = .ok (.iadd, 1) := dK_l_122.2.2.1
theorem dL_law_1455 : decode cL_law 1455 = .ok (.iaload, 1) := dK_l_122.2.2.2.1
theorem dL_law_1456 : decode cL_law 1456 = .ok (.invokevirtual 191, 3) := dK_l_122.2.2.2.2.1
theorem dL_law_1459 : decode cL_law 1459 = .ok (.pop, 1) := dK_l_122.2.2.2.2.2.1
theorem dL_law_1460 : decode cL_law 1460 = .ok (.goto 111, 3) := dK_l_122.2.2.2.2.2.2.1
theorem dL_law_1463 : decode cL_law 1463 = .ok (.aload_n 1, 1) := dK_l_122.2.2.2.2.2.2.2.1
theorem dK_l_123 : dk_P cL_law [(1464, (.aload_n 0, 1)), (1465, (.iload_n 3, 1)), (1466, (.iconst 1, 1)), (1467, (.iadd, 1)), (1468, (.iaload, 1)), (1469, (.invokevirtual 192, 3)), (1472, (.pop, 1)), (1473, (.aload_n 2, 1))] := dk_of 1464 (by decide +kernel)
theorem dL_law_1464 : decode cL_law 1464 = .ok (.aload_n 0, 1) := dK_l_123.1
theorem dL_law_1465 : decode cL_law 1465 = .ok (.iload_n 3, 1) := dK_l_123.2.1
theorem dL_law_1466 : decode cL_law 1466 = .ok (.iconst 1, 1) := dK_l_123.2.2.1
theorem dL_law_1467 : decode cL_law 1467 = .ok (.iadd, 1) := dK_l_123.2.2.2.1
theorem dL_law_1468 : decode cL_law 1468 = .ok (.iaload, 1) := dK_l_123.2.2.2.2.1
theorem dL_law_1469 : decode cL_law 1469 = .ok (.invokevirtual 192, 3) := dK_l_123.2.2.2.2.2.1
theorem dL_law_1472 : decode cL_law 1472 = .ok (.pop, 1) := dK_l_123.2.2.2.2.2.2.1
theorem dL_law_1473 : decode cL_law 1473 = .ok (.aload_n 2, 1) := dK_l_123.2.2.2.2.2.2.2.1
theorem dK_l_124 : dk_P cL_law [(1474, (.aload_n 0, 1)), (1475, (.iload_n 3, 1)), (1476, (.iconst 1, 1)), (1477, (.iadd, 1)), (1478, (.iaload, 1)), (1479, (.invokevirtual 195, 3)), (1482, (.pop, 1)), (1483, (.goto 88, 3))] := dk_of 1474 (by decide +kernel)
theorem dL_law_1474 : decode cL_law 1474 = .ok (.aload_n 0, 1) := dK_l_124.1
theorem dL_law_1475 : decode cL_law 1475 = .ok (.iload_n 3, 1) := dK_l_124.2.1
theorem dL_law_1476 : decode cL_law 1476 = .ok (.iconst 1, 1) := dK_l_124.2.2.1
theorem dL_law_1477 : decode cL_law 1477 = .ok (.iadd, 1) := dK_l_124.2.2.2.1
theorem dL_law_1478 : decode cL_law 1478 = .ok (.iaload, 1) := dK_l_124.2.2.2.2.1
theorem dL_law_1479 : decode cL_law 1479 = .ok (.invokevirtual 195, 3) := dK_l_124.2.2.2.2.2.1
theorem dL_law_1482 : decode cL_law 1482 = .ok (.pop, 1) := dK_l_124.2.2.2.2.2.2.1
theorem dL_law_1483 : decode cL_law 1483 = .ok (.goto 88, 3) := dK_l_124.2.2.2.2.2.2.2.1
theorem dK_l_125 : dk_P cL_law [(1486, (.aload_n 1, 1)), (1487, (.aload_n 0, 1)), (1488, (.iload_n 3, 1)), (1489, (.iconst 1, 1)), (1490, (.iadd, 1)), (1491, (.iaload, 1)), (1492, (.invokevirtual 196, 3)), (1495, (.pop, 1))] := dk_of 1486 (by decide +kernel)
theorem dL_law_1486 : decode cL_law 1486 = .ok (.aload_n 1, 1) := dK_l_125.1
theorem dL_law_1487 : decode cL_law 1487 = .ok (.aload_n 0, 1) := dK_l_125.2.1
theorem dL_law_1488 : decode cL_law 1488 = .ok (.iload_n 3, 1) := dK_l_125.2.2.1
theorem dL_law_1489 : decode cL_law 1489 = .ok (.iconst 1, 1) := dK_l_125.2.2.2.1
theorem dL_law_1490 : decode cL_law 1490 = .ok (.iadd, 1) := dK_l_125.2.2.2.2.1
theorem dL_law_1491 : decode cL_law 1491 = .ok (.iaload, 1) := dK_l_125.2.2.2.2.2.1
theorem dL_law_1492 : decode cL_law 1492 = .ok (.invokevirtual 196, 3) := dK_l_125.2.2.2.2.2.2.1
theorem dL_law_1495 : decode cL_law 1495 = .ok (.pop, 1) := dK_l_125.2.2.2.2.2.2.2.1
theorem dK_l_126 : dk_P cL_law [(1496, (.aload_n 2, 1)), (1497, (.aload_n 0, 1)), (1498, (.iload_n 3, 1)), (1499, (.iconst 1, 1)), (1500, (.iadd, 1)), (1501, (.iaload, 1)), (1502, (.invokevirtual 199, 3)), (1505, (.pop, 1))] := dk_of 1496 (by decide +kernel)
theorem dL_law_1496 : decode cL_law 1496 = .ok (.aload_n 2, 1) := dK_l_126.1
theorem dL_law_1497 : decode cL_law 1497 = .ok (.aload_n 0, 1) := dK_l_126.2.1
theorem dL_law_1498 : decode cL_law 1498 = .ok (.iload_n 3, 1) := dK_l_126.2.2.1
theorem dL_law_1499 : decode cL_law 1499 = .ok (.iconst 1, 1) := dK_l_126.2.2.2.1
theorem dL_law_1500 : decode cL_law 1500 = .ok (.iadd, 1) := dK_l_126.2.2.2.2.1
theorem dL_law_1501 : decode cL_law 1501 = .ok (.iaload, 1) := dK_l_126.2.2.2.2.2.1
theorem dL_law_1502 : decode cL_law 1502 = .ok (.invokevirtual 199, 3) := dK_l_126.2.2.2.2.2.2.1
theorem dL_law_1505 : decode cL_law 1505 = .ok (.pop, 1) := dK_l_126.2.2.2.2.2.2.2.1
theorem dK_l_127 : dk_P cL_law [(1506, (.goto 65, 3)), (1509, (.aload_n 1, 1)), (1510, (.invokevirtual 200, 3)), (1513, (.pop, 1)), (1514, (.aload_n 2, 1)), (1515, (.invokevirtual 203, 3)), (1518, (.pop, 1)), (1519, (.goto 52, 3))] := dk_of 1506 (by decide +kernel)
theorem dL_law_1506 : decode cL_law 1506 = .ok (.goto 65, 3) := dK_l_127.1
theorem dL_law_1509 : decode cL_law 1509 = .ok (.aload_n 1, 1) := dK_l_127.2.1
theorem dL_law_1510 : decode cL_law 1510 = .ok (.invokevirtual 200, 3) := dK_l_127.2.2.1
theorem dL_law_1513 : decode cL_law 1513 = .ok (.pop, 1) := dK_l_127.2.2.2.1
theorem dL_law_1514 : decode cL_law 1514 = .ok (.aload_n 2, 1) := dK_l_127.2.2.2.2.1
theorem dL_law_1515 : decode cL_law 1515 = .ok (.invokevirtual 203, 3) := dK_l_127.2.2.2.2.2.1
theorem dL_law_1518 : decode cL_law 1518 = .ok (.pop, 1) := dK_l_127.2.2.2.2.2.2.1
theorem dL_law_1519 : decode cL_law 1519 = .ok (.goto 52, 3) := dK_l_127.2.2.2.2.2.2.2.1
theorem dK_l_128 : dk_P cL_law [(1522, (.aload_n 1, 1)), (1523, (.invokevirtual 204, 3)), (1526, (.pop, 1)), (1527, (.aload_n 2, 1)), (1528, (.invokevirtual 207, 3)), (1531, (.pop, 1)), (1532, (.goto 39, 3)), (1535, (.aload_n 1, 1))] := dk_of 1522 (by decide +kernel)
theorem dL_law_1522 : decode cL_law 1522 = .ok (.aload_n 1, 1) := dK_l_128.1
theorem dL_law_1523 : decode cL_law 1523 = .ok (.invokevirtual 204, 3) := dK_l_128.2.1
theorem dL_law_1526 : decode cL_law 1526 = .ok (.pop, 1) := dK_l_128.2.2.1
theorem dL_law_1527 : decode cL_law 1527 = .ok (.aload_n 2, 1) := dK_l_128.2.2.2.1
theorem dL_law_1528 : decode cL_law 1528 = .ok (.invokevirtual 207, 3) := dK_l_128.2.2.2.2.1
theorem dL_law_1531 : decode cL_law 1531 = .ok (.pop, 1) := dK_l_128.2.2.2.2.2.1
theorem dL_law_1532 : decode cL_law 1532 = .ok (.goto 39, 3) := dK_l_128.2.2.2.2.2.2.1
theorem dL_law_1535 : decode cL_law 1535 = .ok (.aload_n 1, 1) := dK_l_128.2.2.2.2.2.2.2.1
theorem dK_l_129 : dk_P cL_law [(1536, (.invokevirtual 208, 3)), (1539, (.pop, 1)), (1540, (.aload_n 2, 1)), (1541, (.invokevirtual 211, 3)), (1544, (.pop, 1)), (1545, (.goto 26, 3)), (1548, (.aload_n 1, 1)), (1549, (.aload_n 0, 1))] := dk_of 1536 (by decide +kernel)
theorem dL_law_1536 : decode cL_law 1536 = .ok (.invokevirtual 208, 3) := dK_l_129.1
theorem dL_law_1539 : decode cL_law 1539 = .ok (.pop, 1) := dK_l_129.2.1
theorem dL_law_1540 : decode cL_law 1540 = .ok (.aload_n 2, 1) := dK_l_129.2.2.1
theorem dL_law_1541 : decode cL_law 1541 = .ok (.invokevirtual 211, 3) := dK_l_129.2.2.2.1
theorem dL_law_1544 : decode cL_law 1544 = .ok (.pop, 1) := dK_l_129.2.2.2.2.1
theorem dL_law_1545 : decode cL_law 1545 = .ok (.goto 26, 3) := dK_l_129.2.2.2.2.2.1
theorem dL_law_1548 : decode cL_law 1548 = .ok (.aload_n 1, 1) := dK_l_129.2.2.2.2.2.2.1
theorem dL_law_1549 : decode cL_law 1549 = .ok (.aload_n 0, 1) := dK_l_129.2.2.2.2.2.2.2.1
theorem dK_l_130 : dk_P cL_law [(1550, (.iload_n 3, 1)), (1551, (.iconst 1, 1)), (1552, (.iadd, 1)), (1553, (.iaload, 1)), (1554, (.invokevirtual 212, 3)), (1557, (.pop, 1)), (1558, (.aload_n 2, 1)), (1559, (.aload_n 0, 1))] := dk_of 1550 (by decide +kernel)
theorem dL_law_1550 : decode cL_law 1550 = .ok (.iload_n 3, 1) := dK_l_130.1
theorem dL_law_1551 : decode cL_law 1551 = .ok (.iconst 1, 1) := dK_l_130.2.1
theorem dL_law_1552 : decode cL_law 1552 = .ok (.iadd, 1) := dK_l_130.2.2.1
theorem dL_law_1553 : decode cL_law 1553 = .ok (.iaload, 1) := dK_l_130.2.2.2.1
theorem dL_law_1554 : decode cL_law 1554 = .ok (.invokevirtual 212, 3) := dK_l_130.2.2.2.2.1
theorem dL_law_1557 : decode cL_law 1557 = .ok (.pop, 1) := dK_l_130.2.2.2.2.2.1
theorem dL_law_1558 : decode cL_law 1558 = .ok (.aload_n 2, 1) := dK_l_130.2.2.2.2.2.2.1
theorem dL_law_1559 : decode cL_law 1559 = .ok (.aload_n 0, 1) := dK_l_130.2.2.2.2.2.2.2.1
theorem dK_l_131 : dk_P cL_law [(1560, (.iload_n 3, 1)), (1561, (.iconst 1, 1)), (1562, (.iadd, 1)), (1563, (.iaload, 1)), (1564, (.invokevirtual 215, 3)), (1567, (.pop, 1)), (1568, (.goto 3, 3)), (1571, (.iinc 3 5, 3))] := dk_of 1560 (by decide +kernel)
theorem dL_law_1560 : decode cL_law 1560 = .ok (.iload_n 3, 1) := dK_l_131.1
theorem dL_law_1561 : decode cL_law 1561 = .ok (.iconst 1, 1) := dK_l_131.2.1
theorem dL_law_1562 : decode cL_law 1562 = .ok (.iadd, 1) := dK_l_131.2.2.1
theorem dL_law_1563 : decode cL_law 1563 = .ok (.iaload, 1) := dK_l_131.2.2.2.1
theorem dL_law_1564 : decode cL_law 1564 = .ok (.invokevirtual 215, 3) := dK_l_131.2.2.2.2.1
theorem dL_law_1567 : decode cL_law 1567 = .ok (.pop, 1) := dK_l_131.2.2.2.2.2.1
theorem dL_law_1568 : decode cL_law 1568 = .ok (.goto 3, 3) := dK_l_131.2.2.2.2.2.2.1
theorem dL_law_1571 : decode cL_law 1571 = .ok (.iinc 3 5, 3) := dK_l_131.2.2.2.2.2.2.2.1
theorem dK_l_132 : dk_P cL_law [(1574, (.goto (-1556), 3)), (1577, (.iconst 1, 1)), (1578, (.ireturn, 1))] := dk_of 1574 (by decide +kernel)
theorem dL_law_1574 : decode cL_law 1574 = .ok (.goto (-1556), 3) := dK_l_132.1
theorem dL_law_1577 : decode cL_law 1577 = .ok (.iconst 1, 1) := dK_l_132.2.1
theorem dL_law_1578 : decode cL_law 1578 = .ok (.ireturn, 1) := dK_l_132.2.2.1
