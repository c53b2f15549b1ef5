theorem dK_b_0 : dk_P cX10_on [(236, (.aload_n 0, 1)), (237, (.getfield 28, 3)), (240, (.iload_n 1, 1)), (241, (.iconst 0, 1)), (242, (.invokevirtual 312, 3)), (245, (.aload_n 0, 1)), (246, (.getfield 72, 3)), (249, (.invokevirtual 306, 3))] := dk_of 236 (by decide +kernel)
theorem dX10_on_236 : decode cX10_on 236 = .ok (.aload_n 0, 1) := dK_b_0.1
theorem dX10_on_237 : decode cX10_on 237 = .ok (.getfield 28, 3) := dK_b_0.2.1
theorem dX10_on_240 : decode cX10_on 240 = .ok (.iload_n 1, 1) := dK_b_0.2.2.1
theorem dX10_on_241 : decode cX10_on 241 = .ok (.iconst 0, 1) := dK_b_0.2.2.2.1
theorem dX10_on_242 : decode cX10_on 242 = .ok (.invokevirtual 312, 3) := dK_b_0.2.2.2.2.1
theorem dX10_on_245 : decode cX10_on 245 = .ok (.aload_n 0, 1) := dK_b_0.2.2.2.2.2.1
theorem dX10_on_246 : decode cX10_on 246 = .ok (.getfield 72, 3) := dK_b_0.2.2.2.2.2.2.1
theorem dX10_on_249 : decode cX10_on 249 = .ok (.invokevirtual 306, 3) := dK_b_0.2.2.2.2.2.2.2.1
theorem dK_b_1 : dk_P cX10_on [(252, (.if_icmp .ge 7, 3)), (255, (.iconst 1, 1)), (256, (.goto 4, 3)), (259, (.iconst 0, 1)), (260, (.iadd, 1)), (261, (.istore 6, 2)), (263, (.iinc 7 1, 3)), (266, (.goto (-115), 3))] := dk_of 252 (by decide +kernel)
theorem dX10_on_252 : decode cX10_on 252 = .ok (.if_icmp .ge 7, 3) := dK_b_1.1
theorem dX10_on_255 : decode cX10_on 255 = .ok (.iconst 1, 1) := dK_b_1.2.1
theorem dX10_on_256 : decode cX10_on 256 = .ok (.goto 4, 3) := dK_b_1.2.2.1
theorem dX10_on_259 : decode cX10_on 259 = .ok (.iconst 0, 1) := dK_b_1.2.2.2.1
theorem dX10_on_260 : decode cX10_on 260 = .ok (.iadd, 1) := dK_b_1.2.2.2.2.1
theorem dX10_on_261 : decode cX10_on 261 = .ok (.istore 6, 2) := dK_b_1.2.2.2.2.2.1
theorem dX10_on_263 : decode cX10_on 263 = .ok (.iinc 7 1, 3) := dK_b_1.2.2.2.2.2.2.1
theorem dX10_on_266 : decode cX10_on 266 = .ok (.goto (-115), 3) := dK_b_1.2.2.2.2.2.2.2.1
theorem dK_b_2 : dk_P cX10_on [(269, (.iload 6, 2)), (271, (.i2l, 1)), (272, (.lconst 1, 1)), (273, (.iload 5, 2)), (275, (.lshl, 1)), (276, (.iload_n 2, 1)), (277, (.invokestatic 262, 3)), (280, (.lreturn, 1))] := dk_of 269 (by decide +kernel)
theorem dX10_on_269 : decode cX10_on 269 = .ok (.iload 6, 2) := dK_b_2.1
theorem dX10_on_271 : decode cX10_on 271 = .ok (.i2l, 1) := dK_b_2.2.1
theorem dX10_on_272 : decode cX10_on 272 = .ok (.lconst 1, 1) := dK_b_2.2.2.1
theorem dX10_on_273 : decode cX10_on 273 = .ok (.iload 5, 2) := dK_b_2.2.2.2.1
theorem dX10_on_275 : decode cX10_on 275 = .ok (.lshl, 1) := dK_b_2.2.2.2.2.1
theorem dX10_on_276 : decode cX10_on 276 = .ok (.iload_n 2, 1) := dK_b_2.2.2.2.2.2.1
theorem dX10_on_277 : decode cX10_on 277 = .ok (.invokestatic 262, 3) := dK_b_2.2.2.2.2.2.2.1
theorem dX10_on_280 : decode cX10_on 280 = .ok (.lreturn, 1) := dK_b_2.2.2.2.2.2.2.2.1
theorem dK_b_3 : dk_P cX10_row [(0, (.iload_n 1, 1)), (1, (.iconst 0, 1)), (2, (.bipush 99, 2)), (4, (.invokestatic 104, 3)), (7, (.aload_n 0, 1)), (8, (.getfield 327, 3)), (11, (.iconst 0, 1)), (12, (.bipush 11, 2))] := dk_of 0 (by decide +kernel)
theorem dX10_row_0 : decode cX10_row 0 = .ok (.iload_n 1, 1) := dK_b_3.1
theorem dX10_row_1 : decode cX10_row 1 = .ok (.iconst 0, 1) := dK_b_3.2.1
theorem dX10_row_2 : decode cX10_row 2 = .ok (.bipush 99, 2) := dK_b_3.2.2.1
theorem dX10_row_4 : decode cX10_row 4 = .ok (.invokestatic 104, 3) := dK_b_3.2.2.2.1
theorem dX10_row_7 : decode cX10_row 7 = .ok (.aload_n 0, 1) := dK_b_3.2.2.2.2.1
theorem dX10_row_8 : decode cX10_row 8 = .ok (.getfield 327, 3) := dK_b_3.2.2.2.2.2.1
theorem dX10_row_11 : decode cX10_row 11 = .ok (.iconst 0, 1) := dK_b_3.2.2.2.2.2.2.1
theorem dX10_row_12 : decode cX10_row 12 = .ok (.bipush 11, 2) := dK_b_3.2.2.2.2.2.2.2.1
theorem dK_b_4 : dk_P cX10_row [(14, (.invokestatic 104, 3)), (17, (.invokestatic 97, 3)), (20, (.istore_n 2, 1)), (21, (.iload_n 2, 1)), (22, (.ifCond .eq 9, 3)), (25, (.aload_n 0, 1)), (26, (.iload_n 2, 1)), (27, (.invokevirtual 111, 3))] := dk_of 14 (by decide +kernel)
theorem dX10_row_14 : decode cX10_row 14 = .ok (.invokestatic 104, 3) := dK_b_4.1
theorem dX10_row_17 : decode cX10_row 17 = .ok (.invokestatic 97, 3) := dK_b_4.2.1
theorem dX10_row_20 : decode cX10_row 20 = .ok (.istore_n 2, 1) := dK_b_4.2.2.1
theorem dX10_row_21 : decode cX10_row 21 = .ok (.iload_n 2, 1) := dK_b_4.2.2.2.1
theorem dX10_row_22 : decode cX10_row 22 = .ok (.ifCond .eq 9, 3) := dK_b_4.2.2.2.2.1
theorem dX10_row_25 : decode cX10_row 25 = .ok (.aload_n 0, 1) := dK_b_4.2.2.2.2.2.1
theorem dX10_row_26 : decode cX10_row 26 = .ok (.iload_n 2, 1) := dK_b_4.2.2.2.2.2.2.1
theorem dX10_row_27 : decode cX10_row 27 = .ok (.invokevirtual 111, 3) := dK_b_4.2.2.2.2.2.2.2.1
theorem dK_b_5 : dk_P cX10_row [(30, (.ireturn, 1)), (31, (.aload_n 0, 1)), (32, (.getfield 19, 3)), (35, (.aload_n 0, 1)), (36, (.getfield 327, 3)), (39, (.iload_n 1, 1)), (40, (.iastore, 1)), (41, (.aload_n 0, 1))] := dk_of 30 (by decide +kernel)
theorem dX10_row_30 : decode cX10_row 30 = .ok (.ireturn, 1) := dK_b_5.1
theorem dX10_row_31 : decode cX10_row 31 = .ok (.aload_n 0, 1) := dK_b_5.2.1
theorem dX10_row_32 : decode cX10_row 32 = .ok (.getfield 19, 3) := dK_b_5.2.2.1
theorem dX10_row_35 : decode cX10_row 35 = .ok (.aload_n 0, 1) := dK_b_5.2.2.2.1
theorem dX10_row_36 : decode cX10_row 36 = .ok (.getfield 327, 3) := dK_b_5.2.2.2.2.1
theorem dX10_row_39 : decode cX10_row 39 = .ok (.iload_n 1, 1) := dK_b_5.2.2.2.2.2.1
theorem dX10_row_40 : decode cX10_row 40 = .ok (.iastore, 1) := dK_b_5.2.2.2.2.2.2.1
theorem dX10_row_41 : decode cX10_row 41 = .ok (.aload_n 0, 1) := dK_b_5.2.2.2.2.2.2.2.1
theorem dK_b_6 : dk_P cX10_row [(42, (.dup, 1)), (43, (.getfield 327, 3)), (46, (.iconst 1, 1)), (47, (.iadd, 1)), (48, (.putfield 327, 3)), (51, (.aload_n 0, 1)), (52, (.getfield 327, 3)), (55, (.ireturn, 1))] := dk_of 42 (by decide +kernel)
theorem dX10_row_42 : decode cX10_row 42 = .ok (.dup, 1) := dK_b_6.1
theorem dX10_row_43 : decode cX10_row 43 = .ok (.getfield 327, 3) := dK_b_6.2.1
theorem dX10_row_46 : decode cX10_row 46 = .ok (.iconst 1, 1) := dK_b_6.2.2.1
theorem dX10_row_47 : decode cX10_row 47 = .ok (.iadd, 1) := dK_b_6.2.2.2.1
theorem dX10_row_48 : decode cX10_row 48 = .ok (.putfield 327, 3) := dK_b_6.2.2.2.2.1
theorem dX10_row_51 : decode cX10_row 51 = .ok (.aload_n 0, 1) := dK_b_6.2.2.2.2.2.1
theorem dX10_row_52 : decode cX10_row 52 = .ok (.getfield 327, 3) := dK_b_6.2.2.2.2.2.2.1
theorem dX10_row_55 : decode cX10_row 55 = .ok (.ireturn, 1) := dK_b_6.2.2.2.2.2.2.2.1
theorem dK_b_7 : dk_P cX10_judge [(0, (.aload_n 0, 1)), (1, (.invokevirtual 342, 3)), (4, (.istore_n 1, 1)), (5, (.aload_n 0, 1)), (6, (.iconst 0, 1)), (7, (.putfield 327, 3)), (10, (.iload_n 1, 1)), (11, (.ireturn, 1))] := dk_of 0 (by decide +kernel)
theorem dX10_judge_0 : decode cX10_judge 0 = .ok (.aload_n 0, 1) := dK_b_7.1
theorem dX10_judge_1 : decode cX10_judge 1 = .ok (.invokevirtual 342, 3) := dK_b_7.2.1
theorem dX10_judge_4 : decode cX10_judge 4 = .ok (.istore_n 1, 1) := dK_b_7.2.2.1
theorem dX10_judge_5 : decode cX10_judge 5 = .ok (.aload_n 0, 1) := dK_b_7.2.2.2.1
theorem dX10_judge_6 : decode cX10_judge 6 = .ok (.iconst 0, 1) := dK_b_7.2.2.2.2.1
theorem dX10_judge_7 : decode cX10_judge 7 = .ok (.putfield 327, 3) := dK_b_7.2.2.2.2.2.1
theorem dX10_judge_10 : decode cX10_judge 10 = .ok (.iload_n 1, 1) := dK_b_7.2.2.2.2.2.2.1
theorem dX10_judge_11 : decode cX10_judge 11 = .ok (.ireturn, 1) := dK_b_7.2.2.2.2.2.2.2.1
theorem dK_b_8 : dk_P cX10_judged [(0, (.aload_n 0, 1)), (1, (.getfield 76, 3)), (4, (.aload_n 0, 1)), (5, (.getfield 72, 3)), (8, (.invokevirtual 121, 3)), (11, (.iconst 0, 1)), (12, (.istore_n 1, 1)), (13, (.iload_n 1, 1))] := dk_of 0 (by decide +kernel)
theorem dX10_judged_0 : decode cX10_judged 0 = .ok (.aload_n 0, 1) := dK_b_8.1
theorem dX10_judged_1 : decode cX10_judged 1 = .ok (.getfield 76, 3) := dK_b_8.2.1
theorem dX10_judged_4 : decode cX10_judged 4 = .ok (.aload_n 0, 1) := dK_b_8.2.2.1
theorem dX10_judged_5 : decode cX10_judged 5 = .ok (.getfield 72, 3) := dK_b_8.2.2.2.1
theorem dX10_judged_8 : decode cX10_judged 8 = .ok (.invokevirtual 121, 3) := dK_b_8.2.2.2.2.1
theorem dX10_judged_11 : decode cX10_judged 11 = .ok (.iconst 0, 1) := dK_b_8.2.2.2.2.2.1
theorem dX10_judged_12 : decode cX10_judged 12 = .ok (.istore_n 1, 1) := dK_b_8.2.2.2.2.2.2.1
theorem dX10_judged_13 : decode cX10_judged 13 = .ok (.iload_n 1, 1) := dK_b_8.2.2.2.2.2.2.2.1
theorem dK_b_9 : dk_P cX10_judged [(14, (.aload_n 0, 1)), (15, (.getfield 327, 3)), (18, (.if_icmp .ge 65, 3)), (21, (.aload_n 0, 1)), (22, (.getfield 76, 3)), (25, (.aload_n 0, 1)), (26, (.getfield 28, 3)), (29, (.invokevirtual 317, 3))] := dk_of 14 (by decide +kernel)
theorem dX10_judged_14 : decode cX10_judged 14 = .ok (.aload_n 0, 1) := dK_b_9.1
theorem dX10_judged_15 : decode cX10_judged 15 = .ok (.getfield 327, 3) := dK_b_9.2.1
theorem dX10_judged_18 : decode cX10_judged 18 = .ok (.if_icmp .ge 65, 3) := dK_b_9.2.2.1
theorem dX10_judged_21 : decode cX10_judged 21 = .ok (.aload_n 0, 1) := dK_b_9.2.2.2.1
theorem dX10_judged_22 : decode cX10_judged 22 = .ok (.getfield 76, 3) := dK_b_9.2.2.2.2.1
theorem dX10_judged_25 : decode cX10_judged 25 = .ok (.aload_n 0, 1) := dK_b_9.2.2.2.2.2.1
theorem dX10_judged_26 : decode cX10_judged 26 = .ok (.getfield 28, 3) := dK_b_9.2.2.2.2.2.2.1
theorem dX10_judged_29 : decode cX10_judged 29 = .ok (.invokevirtual 317, 3) := dK_b_9.2.2.2.2.2.2.2.1
theorem dK_b_10 : dk_P cX10_judged [(32, (.istore_n 2, 1)), (33, (.aload_n 0, 1)), (34, (.getfield 19, 3)), (37, (.iload_n 1, 1)), (38, (.iaload, 1)), (39, (.bipush 50, 2)), (41, (.isub, 1)), (42, (.istore_n 3, 1))] := dk_of 32 (by decide +kernel)
theorem dX10_judged_32 : decode cX10_judged 32 = .ok (.istore_n 2, 1) := dK_b_10.1
theorem dX10_judged_33 : decode cX10_judged 33 = .ok (.aload_n 0, 1) := dK_b_10.2.1
theorem dX10_judged_34 : decode cX10_judged 34 = .ok (.getfield 19, 3) := dK_b_10.2.2.1
theorem dX10_judged_37 : decode cX10_judged 37 = .ok (.iload_n 1, 1) := dK_b_10.2.2.2.1
theorem dX10_judged_38 : decode cX10_judged 38 = .ok (.iaload, 1) := dK_b_10.2.2.2.2.1
theorem dX10_judged_39 : decode cX10_judged 39 = .ok (.bipush 50, 2) := dK_b_10.2.2.2.2.2.1
theorem dX10_judged_41 : decode cX10_judged 41 = .ok (.isub, 1) := dK_b_10.2.2.2.2.2.2.1
theorem dX10_judged_42 : decode cX10_judged 42 = .ok (.istore_n 3, 1) := dK_b_10.2.2.2.2.2.2.2.1
theorem dK_b_11 : dk_P cX10_judged [(43, (.aload_n 0, 1)), (44, (.iload_n 3, 1)), (45, (.ifCond .ge 8, 3)), (48, (.bipush (-9), 2)), (50, (.goto 4, 3)), (53, (.iload_n 3, 1)), (54, (.invokevirtual 154, 3)), (57, (.ifCond .eq 18, 3))] := dk_of 43 (by decide +kernel)
theorem dX10_judged_43 : decode cX10_judged 43 = .ok (.aload_n 0, 1) := dK_b_11.1
theorem dX10_judged_44 : decode cX10_judged 44 = .ok (.iload_n 3, 1) := dK_b_11.2.1
theorem dX10_judged_45 : decode cX10_judged 45 = .ok (.ifCond .ge 8, 3) := dK_b_11.2.2.1
theorem dX10_judged_48 : decode cX10_judged 48 = .ok (.bipush (-9), 2) := dK_b_11.2.2.2.1
theorem dX10_judged_50 : decode cX10_judged 50 = .ok (.goto 4, 3) := dK_b_11.2.2.2.2.1
theorem dX10_judged_53 : decode cX10_judged 53 = .ok (.iload_n 3, 1) := dK_b_11.2.2.2.2.2.1
theorem dX10_judged_54 : decode cX10_judged 54 = .ok (.invokevirtual 154, 3) := dK_b_11.2.2.2.2.2.2.1
theorem dX10_judged_57 : decode cX10_judged 57 = .ok (.ifCond .eq 18, 3) := dK_b_11.2.2.2.2.2.2.2.1
theorem dK_b_12 : dk_P cX10_judged [(60, (.aload_n 0, 1)), (61, (.getfield 76, 3)), (64, (.aload_n 0, 1)), (65, (.getfield 28, 3)), (68, (.invokevirtual 317, 3)), (71, (.iload_n 2, 1)), (72, (.if_icmp .eq 5, 3)), (75, (.iload_n 1, 1))] := dk_of 60 (by decide +kernel)
theorem dX10_judged_60 : decode cX10_judged 60 = .ok (.aload_n 0, 1) := dK_b_12.1
theorem dX10_judged_61 : decode cX10_judged 61 = .ok (.getfield 76, 3) := dK_b_12.2.1
theorem dX10_judged_64 : decode cX10_judged 64 = .ok (.aload_n 0, 1) := dK_b_12.2.2.1
theorem dX10_judged_65 : decode cX10_judged 65 = .ok (.getfield 28, 3) := dK_b_12.2.2.2.1
theorem dX10_judged_68 : decode cX10_judged 68 = .ok (.invokevirtual 317, 3) := dK_b_12.2.2.2.2.1
theorem dX10_judged_71 : decode cX10_judged 71 = .ok (.iload_n 2, 1) := dK_b_12.2.2.2.2.2.1
theorem dX10_judged_72 : decode cX10_judged 72 = .ok (.if_icmp .eq 5, 3) := dK_b_12.2.2.2.2.2.2.1
theorem dX10_judged_75 : decode cX10_judged 75 = .ok (.iload_n 1, 1) := dK_b_12.2.2.2.2.2.2.2.1
theorem dK_b_13 : dk_P cX10_judged [(76, (.ireturn, 1)), (77, (.iinc 1 1, 3)), (80, (.goto (-67), 3)), (83, (.bipush (-9), 2)), (85, (.ireturn, 1))] := dk_of 76 (by decide +kernel)
theorem dX10_judged_76 : decode cX10_judged 76 = .ok (.ireturn, 1) := dK_b_13.1
theorem dX10_judged_77 : decode cX10_judged 77 = .ok (.iinc 1 1, 3) := dK_b_13.2.1
theorem dX10_judged_80 : decode cX10_judged 80 = .ok (.goto (-67), 3) := dK_b_13.2.2.1
theorem dX10_judged_83 : decode cX10_judged 83 = .ok (.bipush (-9), 2) := dK_b_13.2.2.2.1
theorem dX10_judged_85 : decode cX10_judged 85 = .ok (.ireturn, 1) := dK_b_13.2.2.2.2.1
theorem dK_b_14 : dk_P cX10_clear [(0, (.aload_n 0, 1)), (1, (.getfield 327, 3)), (4, (.istore_n 1, 1)), (5, (.aload_n 0, 1)), (6, (.iconst 0, 1)), (7, (.putfield 327, 3)), (10, (.iload_n 1, 1)), (11, (.ireturn, 1))] := dk_of 0 (by decide +kernel)
theorem dX10_clear_0 : decode cX10_clear 0 = .ok (.aload_n 0, 1) := dK_b_14.1
theorem dX10_clear_1 : decode cX10_clear 1 = .ok (.getfield 327, 3) := dK_b_14.2.1
theorem dX10_clear_4 : decode cX10_clear 4 = .ok (.istore_n 1, 1) := dK_b_14.2.2.1
theorem dX10_clear_5 : decode cX10_clear 5 = .ok (.aload_n 0, 1) := dK_b_14.2.2.2.1
theorem dX10_clear_6 : decode cX10_clear 6 = .ok (.iconst 0, 1) := dK_b_14.2.2.2.2.1
theorem dX10_clear_7 : decode cX10_clear 7 = .ok (.putfield 327, 3) := dK_b_14.2.2.2.2.2.1
theorem dX10_clear_10 : decode cX10_clear 10 = .ok (.iload_n 1, 1) := dK_b_14.2.2.2.2.2.2.1
theorem dX10_clear_11 : decode cX10_clear 11 = .ok (.ireturn, 1) := dK_b_14.2.2.2.2.2.2.2.1
theorem dK_b_15 : dk_P cX10_seeds [(0, (.aload_n 0, 1)), (1, (.iload_n 1, 1)), (2, (.invokevirtual 93, 3)), (5, (.iload_n 2, 1)), (6, (.iconst 1, 1)), (7, (.bipush 20, 2)), (9, (.invokestatic 104, 3)), (12, (.invokestatic 97, 3))] := dk_of 0 (by decide +kernel)
theorem dX10_seeds_0 : decode cX10_seeds 0 = .ok (.aload_n 0, 1) := dK_b_15.1
theorem dX10_seeds_1 : decode cX10_seeds 1 = .ok (.iload_n 1, 1) := dK_b_15.2.1
theorem dX10_seeds_2 : decode cX10_seeds 2 = .ok (.invokevirtual 93, 3) := dK_b_15.2.2.1
theorem dX10_seeds_5 : decode cX10_seeds 5 = .ok (.iload_n 2, 1) := dK_b_15.2.2.2.1
theorem dX10_seeds_6 : decode cX10_seeds 6 = .ok (.iconst 1, 1) := dK_b_15.2.2.2.2.1
theorem dX10_seeds_7 : decode cX10_seeds 7 = .ok (.bipush 20, 2) := dK_b_15.2.2.2.2.2.1
theorem dX10_seeds_9 : decode cX10_seeds 9 = .ok (.invokestatic 104, 3) := dK_b_15.2.2.2.2.2.2.1
theorem dX10_seeds_12 : decode cX10_seeds 12 = .ok (.invokestatic 97, 3) := dK_b_15.2.2.2.2.2.2.2.1
theorem dK_b_16 : dk_P cX10_seeds [(15, (.iload 4, 2)), (17, (.iconst 1, 1)), (18, (.invokestatic 101, 3)), (21, (.invokestatic 97, 3)), (24, (.istore 5, 2)), (26, (.iload 5, 2)), (28, (.ifCond .eq 10, 3)), (31, (.aload_n 0, 1))] := dk_of 15 (by decide +kernel)
theorem dX10_seeds_15 : decode cX10_seeds 15 = .ok (.iload 4, 2) := dK_b_16.1
theorem dX10_seeds_17 : decode cX10_seeds 17 = .ok (.iconst 1, 1) := dK_b_16.2.1
theorem dX10_seeds_18 : decode cX10_seeds 18 = .ok (.invokestatic 101, 3) := dK_b_16.2.2.1
theorem dX10_seeds_21 : decode cX10_seeds 21 = .ok (.invokestatic 97, 3) := dK_b_16.2.2.2.1
theorem dX10_seeds_24 : decode cX10_seeds 24 = .ok (.istore 5, 2) := dK_b_16.2.2.2.2.1
theorem dX10_seeds_26 : decode cX10_seeds 26 = .ok (.iload 5, 2) := dK_b_16.2.2.2.2.2.1
theorem dX10_seeds_28 : decode cX10_seeds 28 = .ok (.ifCond .eq 10, 3) := dK_b_16.2.2.2.2.2.2.1
theorem dX10_seeds_31 : decode cX10_seeds 31 = .ok (.aload_n 0, 1) := dK_b_16.2.2.2.2.2.2.2.1
theorem dK_b_17 : dk_P cX10_seeds [(32, (.iload 5, 2)), (34, (.invokevirtual 111, 3)), (37, (.ireturn, 1)), (38, (.aload_n 0, 1)), (39, (.iload_n 3, 1)), (40, (.putfield 345, 3)), (43, (.iconst 0, 1)), (44, (.istore 6, 2))] := dk_of 32 (by decide +kernel)
theorem dX10_seeds_32 : decode cX10_seeds 32 = .ok (.iload 5, 2) := dK_b_17.1
theorem dX10_seeds_34 : decode cX10_seeds 34 = .ok (.invokevirtual 111, 3) := dK_b_17.2.1
theorem dX10_seeds_37 : decode cX10_seeds 37 = .ok (.ireturn, 1) := dK_b_17.2.2.1
theorem dX10_seeds_38 : decode cX10_seeds 38 = .ok (.aload_n 0, 1) := dK_b_17.2.2.2.1
theorem dX10_seeds_39 : decode cX10_seeds 39 = .ok (.iload_n 3, 1) := dK_b_17.2.2.2.2.1
theorem dX10_seeds_40 : decode cX10_seeds 40 = .ok (.putfield 345, 3) := dK_b_17.2.2.2.2.2.1
theorem dX10_seeds_43 : decode cX10_seeds 43 = .ok (.iconst 0, 1) := dK_b_17.2.2.2.2.2.2.1
theorem dX10_seeds_44 : decode cX10_seeds 44 = .ok (.istore 6, 2) := dK_b_17.2.2.2.2.2.2.2.1
theorem dK_b_18 : dk_P cX10_seeds [(46, (.iconst 0, 1)), (47, (.istore 7, 2)), (49, (.iconst 0, 1)), (50, (.istore 8, 2)), (52, (.iload 8, 2)), (54, (.iload_n 2, 1)), (55, (.if_icmp .ge 55, 3)), (58, (.aload_n 0, 1))] := dk_of 46 (by decide +kernel)
theorem dX10_seeds_46 : decode cX10_seeds 46 = .ok (.iconst 0, 1) := dK_b_18.1
theorem dX10_seeds_47 : decode cX10_seeds 47 = .ok (.istore 7, 2) := dK_b_18.2.1
theorem dX10_seeds_49 : decode cX10_seeds 49 = .ok (.iconst 0, 1) := dK_b_18.2.2.1
theorem dX10_seeds_50 : decode cX10_seeds 50 = .ok (.istore 8, 2) := dK_b_18.2.2.2.1
theorem dX10_seeds_52 : decode cX10_seeds 52 = .ok (.iload 8, 2) := dK_b_18.2.2.2.2.1
theorem dX10_seeds_54 : decode cX10_seeds 54 = .ok (.iload_n 2, 1) := dK_b_18.2.2.2.2.2.1
theorem dX10_seeds_55 : decode cX10_seeds 55 = .ok (.if_icmp .ge 55, 3) := dK_b_18.2.2.2.2.2.2.1
theorem dX10_seeds_58 : decode cX10_seeds 58 = .ok (.aload_n 0, 1) := dK_b_18.2.2.2.2.2.2.2.1
theorem dK_b_19 : dk_P cX10_seeds [(59, (.getfield 76, 3)), (62, (.aload_n 0, 1)), (63, (.getfield 72, 3)), (66, (.invokevirtual 121, 3)), (69, (.iload 7, 2)), (71, (.aload_n 0, 1)), (72, (.iload_n 1, 1)), (73, (.invokevirtual 348, 3))] := dk_of 59 (by decide +kernel)
theorem dX10_seeds_59 : decode cX10_seeds 59 = .ok (.getfield 76, 3) := dK_b_19.1
theorem dX10_seeds_62 : decode cX10_seeds 62 = .ok (.aload_n 0, 1) := dK_b_19.2.1
theorem dX10_seeds_63 : decode cX10_seeds 63 = .ok (.getfield 72, 3) := dK_b_19.2.2.1
theorem dX10_seeds_66 : decode cX10_seeds 66 = .ok (.invokevirtual 121, 3) := dK_b_19.2.2.2.1
theorem dX10_seeds_69 : decode cX10_seeds 69 = .ok (.iload 7, 2) := dK_b_19.2.2.2.2.1
theorem dX10_seeds_71 : decode cX10_seeds 71 = .ok (.aload_n 0, 1) := dK_b_19.2.2.2.2.2.1
theorem dX10_seeds_72 : decode cX10_seeds 72 = .ok (.iload_n 1, 1) := dK_b_19.2.2.2.2.2.2.1
theorem dX10_seeds_73 : decode cX10_seeds 73 = .ok (.invokevirtual 348, 3) := dK_b_19.2.2.2.2.2.2.2.1
theorem dK_b_20 : dk_P cX10_seeds [(76, (.iadd, 1)), (77, (.istore 7, 2)), (79, (.iload 6, 2)), (81, (.aload_n 0, 1)), (82, (.getfield 76, 3)), (85, (.aload_n 0, 1)), (86, (.getfield 28, 3)), (89, (.invokevirtual 317, 3))] := dk_of 76 (by decide +kernel)
theorem dX10_seeds_76 : decode cX10_seeds 76 = .ok (.iadd, 1) := dK_b_20.1
theorem dX10_seeds_77 : decode cX10_seeds 77 = .ok (.istore 7, 2) := dK_b_20.2.1
theorem dX10_seeds_79 : decode cX10_seeds 79 = .ok (.iload 6, 2) := dK_b_20.2.2.1
theorem dX10_seeds_81 : decode cX10_seeds 81 = .ok (.aload_n 0, 1) := dK_b_20.2.2.2.1
theorem dX10_seeds_82 : decode cX10_seeds 82 = .ok (.getfield 76, 3) := dK_b_20.2.2.2.2.1
theorem dX10_seeds_85 : decode cX10_seeds 85 = .ok (.aload_n 0, 1) := dK_b_20.2.2.2.2.2.1
theorem dX10_seeds_86 : decode cX10_seeds 86 = .ok (.getfield 28, 3) := dK_b_20.2.2.2.2.2.2.1
theorem dX10_seeds_89 : decode cX10_seeds 89 = .ok (.invokevirtual 317, 3) := dK_b_20.2.2.2.2.2.2.2.1
theorem dK_b_21 : dk_P cX10_seeds [(92, (.iload_n 1, 1)), (93, (.if_icmp .ne 7, 3)), (96, (.iconst 1, 1)), (97, (.goto 4, 3)), (100, (.iconst 0, 1)), (101, (.iadd, 1)), (102, (.istore 6, 2)), (104, (.iinc 8 1, 3))] := dk_of 92 (by decide +kernel)
theorem dX10_seeds_92 : decode cX10_seeds 92 = .ok (.iload_n 1, 1) := dK_b_21.1
theorem dX10_seeds_93 : decode cX10_seeds 93 = .ok (.if_icmp .ne 7, 3) := dK_b_21.2.1
theorem dX10_seeds_96 : decode cX10_seeds 96 = .ok (.iconst 1, 1) := dK_b_21.2.2.1
theorem dX10_seeds_97 : decode cX10_seeds 97 = .ok (.goto 4, 3) := dK_b_21.2.2.2.1
theorem dX10_seeds_100 : decode cX10_seeds 100 = .ok (.iconst 0, 1) := dK_b_21.2.2.2.2.1
theorem dX10_seeds_101 : decode cX10_seeds 101 = .ok (.iadd, 1) := dK_b_21.2.2.2.2.2.1
theorem dX10_seeds_102 : decode cX10_seeds 102 = .ok (.istore 6, 2) := dK_b_21.2.2.2.2.2.2.1
theorem dX10_seeds_104 : decode cX10_seeds 104 = .ok (.iinc 8 1, 3) := dK_b_21.2.2.2.2.2.2.2.1
theorem dK_b_22 : dk_P cX10_seeds [(107, (.goto (-55), 3)), (110, (.iload 4, 2)), (112, (.ifCond .ne 8, 3)), (115, (.iload 6, 2)), (117, (.goto 5, 3)), (120, (.iload 7, 2)), (122, (.ireturn, 1))] := dk_of 107 (by decide +kernel)
theorem dX10_seeds_107 : decode cX10_seeds 107 = .ok (.goto (-55), 3) := dK_b_22.1
theorem dX10_seeds_110 : decode cX10_seeds 110 = .ok (.iload 4, 2) := dK_b_22.2.1
theorem dX10_seeds_112 : decode cX10_seeds 112 = .ok (.ifCond .ne 8, 3) := dK_b_22.2.2.1
theorem dX10_seeds_115 : decode cX10_seeds 115 = .ok (.iload 6, 2) := dK_b_22.2.2.2.1
theorem dX10_seeds_117 : decode cX10_seeds 117 = .ok (.goto 5, 3) := dK_b_22.2.2.2.2.1
theorem dX10_seeds_120 : decode cX10_seeds 120 = .ok (.iload 7, 2) := dK_b_22.2.2.2.2.2.1
theorem dX10_seeds_122 : decode cX10_seeds 122 = .ok (.ireturn, 1) := dK_b_22.2.2.2.2.2.2.1
theorem dK_b_23 : dk_P cX10_playToTheEnd [(0, (.iconst 0, 1)), (1, (.istore_n 2, 1)), (2, (.iconst 0, 1)), (3, (.istore_n 3, 1)), (4, (.iload_n 3, 1)), (5, (.bipush 24, 2)), (7, (.if_icmp .ge 56, 3)), (10, (.aload_n 0, 1))] := dk_of 0 (by decide +kernel)
theorem dX10_playToTheEnd_0 : decode cX10_playToTheEnd 0 = .ok (.iconst 0, 1) := dK_b_23.1
theorem dX10_playToTheEnd_1 : decode cX10_playToTheEnd 1 = .ok (.istore_n 2, 1) := dK_b_23.2.1
theorem dX10_playToTheEnd_2 : decode cX10_playToTheEnd 2 = .ok (.iconst 0, 1) := dK_b_23.2.2.1
theorem dX10_playToTheEnd_3 : decode cX10_playToTheEnd 3 = .ok (.istore_n 3, 1) := dK_b_23.2.2.2.1
theorem dX10_playToTheEnd_4 : decode cX10_playToTheEnd 4 = .ok (.iload_n 3, 1) := dK_b_23.2.2.2.2.1
theorem dX10_playToTheEnd_5 : decode cX10_playToTheEnd 5 = .ok (.bipush 24, 2) := dK_b_23.2.2.2.2.2.1
theorem dX10_playToTheEnd_7 : decode cX10_playToTheEnd 7 = .ok (.if_icmp .ge 56, 3) := dK_b_23.2.2.2.2.2.2.1
theorem dX10_playToTheEnd_10 : decode cX10_playToTheEnd 10 = .ok (.aload_n 0, 1) := dK_b_23.2.2.2.2.2.2.2.1
theorem dK_b_24 : dk_P cX10_playToTheEnd [(11, (.getfield 76, 3)), (14, (.aload_n 0, 1)), (15, (.getfield 28, 3)), (18, (.invokevirtual 201, 3)), (21, (.istore 4, 2)), (23, (.iload 4, 2)), (25, (.ifCond .ge 5, 3)), (28, (.iload_n 2, 1))] := dk_of 11 (by decide +kernel)
theorem dX10_playToTheEnd_11 : decode cX10_playToTheEnd 11 = .ok (.getfield 76, 3) := dK_b_24.1
theorem dX10_playToTheEnd_14 : decode cX10_playToTheEnd 14 = .ok (.aload_n 0, 1) := dK_b_24.2.1
theorem dX10_playToTheEnd_15 : decode cX10_playToTheEnd 15 = .ok (.getfield 28, 3) := dK_b_24.2.2.1
theorem dX10_playToTheEnd_18 : decode cX10_playToTheEnd 18 = .ok (.invokevirtual 201, 3) := dK_b_24.2.2.2.1
theorem dX10_playToTheEnd_21 : decode cX10_playToTheEnd 21 = .ok (.istore 4, 2) := dK_b_24.2.2.2.2.1
theorem dX10_playToTheEnd_23 : decode cX10_playToTheEnd 23 = .ok (.iload 4, 2) := dK_b_24.2.2.2.2.2.1
theorem dX10_playToTheEnd_25 : decode cX10_playToTheEnd 25 = .ok (.ifCond .ge 5, 3) := dK_b_24.2.2.2.2.2.2.1
theorem dX10_playToTheEnd_28 : decode cX10_playToTheEnd 28 = .ok (.iload_n 2, 1) := dK_b_24.2.2.2.2.2.2.2.1
theorem dK_b_25 : dk_P cX10_playToTheEnd [(29, (.ireturn, 1)), (30, (.iconst 0, 1)), (31, (.aload_n 0, 1)), (32, (.iload 4, 2)), (34, (.invokevirtual 351, 3)), (37, (.invokestatic 286, 3)), (40, (.istore 5, 2)), (42, (.iload_n 2, 1))] := dk_of 29 (by decide +kernel)
theorem dX10_playToTheEnd_29 : decode cX10_playToTheEnd 29 = .ok (.ireturn, 1) := dK_b_25.1
theorem dX10_playToTheEnd_30 : decode cX10_playToTheEnd 30 = .ok (.iconst 0, 1) := dK_b_25.2.1
theorem dX10_playToTheEnd_31 : decode cX10_playToTheEnd 31 = .ok (.aload_n 0, 1) := dK_b_25.2.2.1
theorem dX10_playToTheEnd_32 : decode cX10_playToTheEnd 32 = .ok (.iload 4, 2) := dK_b_25.2.2.2.1
theorem dX10_playToTheEnd_34 : decode cX10_playToTheEnd 34 = .ok (.invokevirtual 351, 3) := dK_b_25.2.2.2.2.1
theorem dX10_playToTheEnd_37 : decode cX10_playToTheEnd 37 = .ok (.invokestatic 286, 3) := dK_b_25.2.2.2.2.2.1
theorem dX10_playToTheEnd_40 : decode cX10_playToTheEnd 40 = .ok (.istore 5, 2) := dK_b_25.2.2.2.2.2.2.1
theorem dX10_playToTheEnd_42 : decode cX10_playToTheEnd 42 = .ok (.iload_n 2, 1) := dK_b_25.2.2.2.2.2.2.2.1
theorem dK_b_26 : dk_P cX10_playToTheEnd [(43, (.iload 4, 2)), (45, (.iload_n 1, 1)), (46, (.if_icmp .ne 8, 3)), (49, (.iload 5, 2)), (51, (.goto 4, 3)), (54, (.iconst 0, 1)), (55, (.iadd, 1)), (56, (.istore_n 2, 1))] := dk_of 43 (by decide +kernel)
theorem dX10_playToTheEnd_43 : decode cX10_playToTheEnd 43 = .ok (.iload 4, 2) := dK_b_26.1
theorem dX10_playToTheEnd_45 : decode cX10_playToTheEnd 45 = .ok (.iload_n 1, 1) := dK_b_26.2.1
theorem dX10_playToTheEnd_46 : decode cX10_playToTheEnd 46 = .ok (.if_icmp .ne 8, 3) := dK_b_26.2.2.1
theorem dX10_playToTheEnd_49 : decode cX10_playToTheEnd 49 = .ok (.iload 5, 2) := dK_b_26.2.2.2.1
theorem dX10_playToTheEnd_51 : decode cX10_playToTheEnd 51 = .ok (.goto 4, 3) := dK_b_26.2.2.2.2.1
theorem dX10_playToTheEnd_54 : decode cX10_playToTheEnd 54 = .ok (.iconst 0, 1) := dK_b_26.2.2.2.2.2.1
theorem dX10_playToTheEnd_55 : decode cX10_playToTheEnd 55 = .ok (.iadd, 1) := dK_b_26.2.2.2.2.2.2.1
theorem dX10_playToTheEnd_56 : decode cX10_playToTheEnd 56 = .ok (.istore_n 2, 1) := dK_b_26.2.2.2.2.2.2.2.1
theorem dK_b_27 : dk_P cX10_playToTheEnd [(57, (.iinc 3 1, 3)), (60, (.goto (-56), 3)), (63, (.iload_n 2, 1)), (64, (.ireturn, 1))] := dk_of 57 (by decide +kernel)
theorem dX10_playToTheEnd_57 : decode cX10_playToTheEnd 57 = .ok (.iinc 3 1, 3) := dK_b_27.1
theorem dX10_playToTheEnd_60 : decode cX10_playToTheEnd 60 = .ok (.goto (-56), 3) := dK_b_27.2.1
theorem dX10_playToTheEnd_63 : decode cX10_playToTheEnd 63 = .ok (.iload_n 2, 1) := dK_b_27.2.2.1
theorem dX10_playToTheEnd_64 : decode cX10_playToTheEnd 64 = .ok (.ireturn, 1) := dK_b_27.2.2.2.1
theorem dK_b_28 : dk_P cX10_runByDraws [(0, (.aload_n 0, 1)), (1, (.getfield 76, 3)), (4, (.iload_n 1, 1)), (5, (.invokevirtual 169, 3)), (8, (.astore_n 2, 1)), (9, (.aload_n 2, 1)), (10, (.getfield 198, 3)), (13, (.aload_n 2, 1))] := dk_of 0 (by decide +kernel)
theorem dX10_runByDraws_0 : decode cX10_runByDraws 0 = .ok (.aload_n 0, 1) := dK_b_28.1
theorem dX10_runByDraws_1 : decode cX10_runByDraws 1 = .ok (.getfield 76, 3) := dK_b_28.2.1
theorem dX10_runByDraws_4 : decode cX10_runByDraws 4 = .ok (.iload_n 1, 1) := dK_b_28.2.2.1
theorem dX10_runByDraws_5 : decode cX10_runByDraws 5 = .ok (.invokevirtual 169, 3) := dK_b_28.2.2.2.1
theorem dX10_runByDraws_8 : decode cX10_runByDraws 8 = .ok (.astore_n 2, 1) := dK_b_28.2.2.2.2.1
theorem dX10_runByDraws_9 : decode cX10_runByDraws 9 = .ok (.aload_n 2, 1) := dK_b_28.2.2.2.2.2.1
theorem dX10_runByDraws_10 : decode cX10_runByDraws 10 = .ok (.getfield 198, 3) := dK_b_28.2.2.2.2.2.2.1
theorem dX10_runByDraws_13 : decode cX10_runByDraws 13 = .ok (.aload_n 2, 1) := dK_b_28.2.2.2.2.2.2.2.1
theorem dK_b_29 : dk_P cX10_runByDraws [(14, (.aload_n 0, 1)), (15, (.getfield 76, 3)), (18, (.getfield 163, 3)), (21, (.aload_n 0, 1)), (22, (.getfield 76, 3)), (25, (.getfield 157, 3)), (28, (.invokevirtual 232, 3)), (31, (.isub, 1))] := dk_of 14 (by decide +kernel)
theorem dX10_runByDraws_14 : decode cX10_runByDraws 14 = .ok (.aload_n 0, 1) := dK_b_29.1
theorem dX10_runByDraws_15 : decode cX10_runByDraws 15 = .ok (.getfield 76, 3) := dK_b_29.2.1
theorem dX10_runByDraws_18 : decode cX10_runByDraws 18 = .ok (.getfield 163, 3) := dK_b_29.2.2.1
theorem dX10_runByDraws_21 : decode cX10_runByDraws 21 = .ok (.aload_n 0, 1) := dK_b_29.2.2.2.1
theorem dX10_runByDraws_22 : decode cX10_runByDraws 22 = .ok (.getfield 76, 3) := dK_b_29.2.2.2.2.1
theorem dX10_runByDraws_25 : decode cX10_runByDraws 25 = .ok (.getfield 157, 3) := dK_b_29.2.2.2.2.2.1
theorem dX10_runByDraws_28 : decode cX10_runByDraws 28 = .ok (.invokevirtual 232, 3) := dK_b_29.2.2.2.2.2.2.1
theorem dX10_runByDraws_31 : decode cX10_runByDraws 31 = .ok (.isub, 1) := dK_b_29.2.2.2.2.2.2.2.1
theorem dK_b_30 : dk_P cX10_runByDraws [(32, (.istore_n 3, 1)), (33, (.iconst 0, 1)), (34, (.istore 4, 2)), (36, (.iconst 0, 1)), (37, (.istore 5, 2)), (39, (.iload 5, 2)), (41, (.aload_n 0, 1)), (42, (.getfield 76, 3))] := dk_of 32 (by decide +kernel)
theorem dX10_runByDraws_32 : decode cX10_runByDraws 32 = .ok (.istore_n 3, 1) := dK_b_30.1
theorem dX10_runByDraws_33 : decode cX10_runByDraws 33 = .ok (.iconst 0, 1) := dK_b_30.2.1
theorem dX10_runByDraws_34 : decode cX10_runByDraws 34 = .ok (.istore 4, 2) := dK_b_30.2.2.1
theorem dX10_runByDraws_36 : decode cX10_runByDraws 36 = .ok (.iconst 0, 1) := dK_b_30.2.2.2.1
theorem dX10_runByDraws_37 : decode cX10_runByDraws 37 = .ok (.istore 5, 2) := dK_b_30.2.2.2.2.1
theorem dX10_runByDraws_39 : decode cX10_runByDraws 39 = .ok (.iload 5, 2) := dK_b_30.2.2.2.2.2.1
theorem dX10_runByDraws_41 : decode cX10_runByDraws 41 = .ok (.aload_n 0, 1) := dK_b_30.2.2.2.2.2.2.1
theorem dX10_runByDraws_42 : decode cX10_runByDraws 42 = .ok (.getfield 76, 3) := dK_b_30.2.2.2.2.2.2.2.1
theorem dK_b_31 : dk_P cX10_runByDraws [(45, (.getfield 163, 3)), (48, (.if_icmp .ge 91, 3)), (51, (.aload_n 0, 1)), (52, (.getfield 76, 3)), (55, (.getfield 163, 3)), (58, (.iload 5, 2)), (60, (.isub, 1)), (61, (.aload_n 2, 1))] := dk_of 45 (by decide +kernel)
theorem dX10_runByDraws_45 : decode cX10_runByDraws 45 = .ok (.getfield 163, 3) := dK_b_31.1
theorem dX10_runByDraws_48 : decode cX10_runByDraws 48 = .ok (.if_icmp .ge 91, 3) := dK_b_31.2.1
theorem dX10_runByDraws_51 : decode cX10_runByDraws 51 = .ok (.aload_n 0, 1) := dK_b_31.2.2.1
theorem dX10_runByDraws_52 : decode cX10_runByDraws 52 = .ok (.getfield 76, 3) := dK_b_31.2.2.2.1
theorem dX10_runByDraws_55 : decode cX10_runByDraws 55 = .ok (.getfield 163, 3) := dK_b_31.2.2.2.2.1
theorem dX10_runByDraws_58 : decode cX10_runByDraws 58 = .ok (.iload 5, 2) := dK_b_31.2.2.2.2.2.1
theorem dX10_runByDraws_60 : decode cX10_runByDraws 60 = .ok (.isub, 1) := dK_b_31.2.2.2.2.2.2.1
theorem dX10_runByDraws_61 : decode cX10_runByDraws 61 = .ok (.aload_n 2, 1) := dK_b_31.2.2.2.2.2.2.2.1
theorem dK_b_32 : dk_P cX10_runByDraws [(62, (.getfield 195, 3)), (65, (.if_icmp .ne 31, 3)), (68, (.iload_n 3, 1)), (69, (.aload_n 2, 1)), (70, (.getfield 173, 3)), (73, (.aload_n 2, 1)), (74, (.invokevirtual 354, 3)), (77, (.isub, 1))] := dk_of 62 (by decide +kernel)
theorem dX10_runByDraws_62 : decode cX10_runByDraws 62 = .ok (.getfield 195, 3) := dK_b_32.1
theorem dX10_runByDraws_65 : decode cX10_runByDraws 65 = .ok (.if_icmp .ne 31, 3) := dK_b_32.2.1
theorem dX10_runByDraws_68 : decode cX10_runByDraws 68 = .ok (.iload_n 3, 1) := dK_b_32.2.2.1
theorem dX10_runByDraws_69 : decode cX10_runByDraws 69 = .ok (.aload_n 2, 1) := dK_b_32.2.2.2.1
theorem dX10_runByDraws_70 : decode cX10_runByDraws 70 = .ok (.getfield 173, 3) := dK_b_32.2.2.2.2.1
theorem dX10_runByDraws_73 : decode cX10_runByDraws 73 = .ok (.aload_n 2, 1) := dK_b_32.2.2.2.2.2.1
theorem dX10_runByDraws_74 : decode cX10_runByDraws 74 = .ok (.invokevirtual 354, 3) := dK_b_32.2.2.2.2.2.2.1
theorem dX10_runByDraws_77 : decode cX10_runByDraws 77 = .ok (.isub, 1) := dK_b_32.2.2.2.2.2.2.2.1
theorem dK_b_33 : dk_P cX10_runByDraws [(78, (.iconst 2, 1)), (79, (.idiv, 1)), (80, (.istore 6, 2)), (82, (.iload_n 3, 1)), (83, (.iload 6, 2)), (85, (.isub, 1)), (86, (.istore_n 3, 1)), (87, (.iload 6, 2))] := dk_of 78 (by decide +kernel)
theorem dX10_runByDraws_78 : decode cX10_runByDraws 78 = .ok (.iconst 2, 1) := dK_b_33.1
theorem dX10_runByDraws_79 : decode cX10_runByDraws 79 = .ok (.idiv, 1) := dK_b_33.2.1
theorem dX10_runByDraws_80 : decode cX10_runByDraws 80 = .ok (.istore 6, 2) := dK_b_33.2.2.1
theorem dX10_runByDraws_82 : decode cX10_runByDraws 82 = .ok (.iload_n 3, 1) := dK_b_33.2.2.2.1
theorem dX10_runByDraws_83 : decode cX10_runByDraws 83 = .ok (.iload 6, 2) := dK_b_33.2.2.2.2.1
theorem dX10_runByDraws_85 : decode cX10_runByDraws 85 = .ok (.isub, 1) := dK_b_33.2.2.2.2.2.1
theorem dX10_runByDraws_86 : decode cX10_runByDraws 86 = .ok (.istore_n 3, 1) := dK_b_33.2.2.2.2.2.2.1
theorem dX10_runByDraws_87 : decode cX10_runByDraws 87 = .ok (.iload 6, 2) := dK_b_33.2.2.2.2.2.2.2.1
theorem dK_b_34 : dk_P cX10_runByDraws [(89, (.invokestatic 358, 3)), (92, (.iconst 4, 1)), (93, (.idiv, 1)), (94, (.istore 4, 2)), (96, (.aload_n 0, 1)), (97, (.iconst 4, 1)), (98, (.invokevirtual 361, 3)), (101, (.istore 6, 2))] := dk_of 89 (by decide +kernel)
theorem dX10_runByDraws_89 : decode cX10_runByDraws 89 = .ok (.invokestatic 358, 3) := dK_b_34.1
theorem dX10_runByDraws_92 : decode cX10_runByDraws 92 = .ok (.iconst 4, 1) := dK_b_34.2.1
theorem dX10_runByDraws_93 : decode cX10_runByDraws 93 = .ok (.idiv, 1) := dK_b_34.2.2.1
theorem dX10_runByDraws_94 : decode cX10_runByDraws 94 = .ok (.istore 4, 2) := dK_b_34.2.2.2.1
theorem dX10_runByDraws_96 : decode cX10_runByDraws 96 = .ok (.aload_n 0, 1) := dK_b_34.2.2.2.2.1
theorem dX10_runByDraws_97 : decode cX10_runByDraws 97 = .ok (.iconst 4, 1) := dK_b_34.2.2.2.2.2.1
theorem dX10_runByDraws_98 : decode cX10_runByDraws 98 = .ok (.invokevirtual 361, 3) := dK_b_34.2.2.2.2.2.2.1
theorem dX10_runByDraws_101 : decode cX10_runByDraws 101 = .ok (.istore 6, 2) := dK_b_34.2.2.2.2.2.2.2.1
theorem dK_b_35 : dk_P cX10_runByDraws [(103, (.iload_n 3, 1)), (104, (.iload 6, 2)), (106, (.ifCond .ne 10, 3)), (109, (.aload_n 2, 1)), (110, (.getfield 189, 3)), (113, (.goto 18, 3)), (116, (.iload 6, 2)), (118, (.iconst 3, 1))] := dk_of 103 (by decide +kernel)
theorem dX10_runByDraws_103 : decode cX10_runByDraws 103 = .ok (.iload_n 3, 1) := dK_b_35.1
theorem dX10_runByDraws_104 : decode cX10_runByDraws 104 = .ok (.iload 6, 2) := dK_b_35.2.1
theorem dX10_runByDraws_106 : decode cX10_runByDraws 106 = .ok (.ifCond .ne 10, 3) := dK_b_35.2.2.1
theorem dX10_runByDraws_109 : decode cX10_runByDraws 109 = .ok (.aload_n 2, 1) := dK_b_35.2.2.2.1
theorem dX10_runByDraws_110 : decode cX10_runByDraws 110 = .ok (.getfield 189, 3) := dK_b_35.2.2.2.2.1
theorem dX10_runByDraws_113 : decode cX10_runByDraws 113 = .ok (.goto 18, 3) := dK_b_35.2.2.2.2.2.1
theorem dX10_runByDraws_116 : decode cX10_runByDraws 116 = .ok (.iload 6, 2) := dK_b_35.2.2.2.2.2.2.1
theorem dX10_runByDraws_118 : decode cX10_runByDraws 118 = .ok (.iconst 3, 1) := dK_b_35.2.2.2.2.2.2.2.1
theorem dK_b_36 : dk_P cX10_runByDraws [(119, (.if_icmp .ne 11, 3)), (122, (.aload_n 2, 1)), (123, (.getfield 189, 3)), (126, (.ineg, 1)), (127, (.goto 4, 3)), (130, (.iconst 0, 1)), (131, (.isub, 1)), (132, (.istore_n 3, 1))] := dk_of 119 (by decide +kernel)
theorem dX10_runByDraws_119 : decode cX10_runByDraws 119 = .ok (.if_icmp .ne 11, 3) := dK_b_36.1
theorem dX10_runByDraws_122 : decode cX10_runByDraws 122 = .ok (.aload_n 2, 1) := dK_b_36.2.1
theorem dX10_runByDraws_123 : decode cX10_runByDraws 123 = .ok (.getfield 189, 3) := dK_b_36.2.2.1
theorem dX10_runByDraws_126 : decode cX10_runByDraws 126 = .ok (.ineg, 1) := dK_b_36.2.2.2.1
theorem dX10_runByDraws_127 : decode cX10_runByDraws 127 = .ok (.goto 4, 3) := dK_b_36.2.2.2.2.1
theorem dX10_runByDraws_130 : decode cX10_runByDraws 130 = .ok (.iconst 0, 1) := dK_b_36.2.2.2.2.2.1
theorem dX10_runByDraws_131 : decode cX10_runByDraws 131 = .ok (.isub, 1) := dK_b_36.2.2.2.2.2.2.1
theorem dX10_runByDraws_132 : decode cX10_runByDraws 132 = .ok (.istore_n 3, 1) := dK_b_36.2.2.2.2.2.2.2.1
theorem dK_b_37 : dk_P cX10_runByDraws [(133, (.iinc 5 1, 3)), (136, (.goto (-97), 3)), (139, (.aload_n 0, 1)), (140, (.getfield 76, 3)), (143, (.iload_n 1, 1)), (144, (.iload_n 3, 1)), (145, (.ifCond .ge 8, 3)), (148, (.bipush (-9), 2))] := dk_of 133 (by decide +kernel)
theorem dX10_runByDraws_133 : decode cX10_runByDraws 133 = .ok (.iinc 5 1, 3) := dK_b_37.1
theorem dX10_runByDraws_136 : decode cX10_runByDraws 136 = .ok (.goto (-97), 3) := dK_b_37.2.1
theorem dX10_runByDraws_139 : decode cX10_runByDraws 139 = .ok (.aload_n 0, 1) := dK_b_37.2.2.1
theorem dX10_runByDraws_140 : decode cX10_runByDraws 140 = .ok (.getfield 76, 3) := dK_b_37.2.2.2.1
theorem dX10_runByDraws_143 : decode cX10_runByDraws 143 = .ok (.iload_n 1, 1) := dK_b_37.2.2.2.2.1
theorem dX10_runByDraws_144 : decode cX10_runByDraws 144 = .ok (.iload_n 3, 1) := dK_b_37.2.2.2.2.2.1
theorem dX10_runByDraws_145 : decode cX10_runByDraws 145 = .ok (.ifCond .ge 8, 3) := dK_b_37.2.2.2.2.2.2.1
theorem dX10_runByDraws_148 : decode cX10_runByDraws 148 = .ok (.bipush (-9), 2) := dK_b_37.2.2.2.2.2.2.2.1
theorem dK_b_38 : dk_P cX10_runByDraws [(150, (.goto 4, 3)), (153, (.iload_n 3, 1)), (154, (.iload 4, 2)), (156, (.invokevirtual 205, 3)), (159, (.ireturn, 1))] := dk_of 150 (by decide +kernel)
theorem dX10_runByDraws_150 : decode cX10_runByDraws 150 = .ok (.goto 4, 3) := dK_b_38.1
theorem dX10_runByDraws_153 : decode cX10_runByDraws 153 = .ok (.iload_n 3, 1) := dK_b_38.2.1
theorem dX10_runByDraws_154 : decode cX10_runByDraws 154 = .ok (.iload 4, 2) := dK_b_38.2.2.1
theorem dX10_runByDraws_156 : decode cX10_runByDraws 156 = .ok (.invokevirtual 205, 3) := dK_b_38.2.2.2.1
theorem dX10_runByDraws_159 : decode cX10_runByDraws 159 = .ok (.ireturn, 1) := dK_b_38.2.2.2.2.1
theorem dK_b_39 : dk_P cX10_drawBelow [(0, (.aload_n 0, 1)), (1, (.aload_n 0, 1)), (2, (.getfield 345, 3)), (5, (.ldc_w 364, 3)), (8, (.imul, 1)), (9, (.sipush 12345, 3)), (12, (.iadd, 1)), (13, (.putfield 345, 3))] := dk_of 0 (by decide +kernel)
theorem dX10_drawBelow_0 : decode cX10_drawBelow 0 = .ok (.aload_n 0, 1) := dK_b_39.1
theorem dX10_drawBelow_1 : decode cX10_drawBelow 1 = .ok (.aload_n 0, 1) := dK_b_39.2.1
theorem dX10_drawBelow_2 : decode cX10_drawBelow 2 = .ok (.getfield 345, 3) := dK_b_39.2.2.1
theorem dX10_drawBelow_5 : decode cX10_drawBelow 5 = .ok (.ldc_w 364, 3) := dK_b_39.2.2.2.1
theorem dX10_drawBelow_8 : decode cX10_drawBelow 8 = .ok (.imul, 1) := dK_b_39.2.2.2.2.1
theorem dX10_drawBelow_9 : decode cX10_drawBelow 9 = .ok (.sipush 12345, 3) := dK_b_39.2.2.2.2.2.1
theorem dX10_drawBelow_12 : decode cX10_drawBelow 12 = .ok (.iadd, 1) := dK_b_39.2.2.2.2.2.2.1
theorem dX10_drawBelow_13 : decode cX10_drawBelow 13 = .ok (.putfield 345, 3) := dK_b_39.2.2.2.2.2.2.2.1
theorem dK_b_40 : dk_P cX10_drawBelow [(16, (.iload_n 1, 1)), (17, (.ifCond .gt 7, 3)), (20, (.iconst 0, 1)), (21, (.goto 17, 3)), (24, (.aload_n 0, 1)), (25, (.getfield 345, 3)), (28, (.ldc_w 365, 3)), (31, (.iand, 1))] := dk_of 16 (by decide +kernel)
theorem dX10_drawBelow_16 : decode cX10_drawBelow 16 = .ok (.iload_n 1, 1) := dK_b_40.1
theorem dX10_drawBelow_17 : decode cX10_drawBelow 17 = .ok (.ifCond .gt 7, 3) := dK_b_40.2.1
theorem dX10_drawBelow_20 : decode cX10_drawBelow 20 = .ok (.iconst 0, 1) := dK_b_40.2.2.1
theorem dX10_drawBelow_21 : decode cX10_drawBelow 21 = .ok (.goto 17, 3) := dK_b_40.2.2.2.1
theorem dX10_drawBelow_24 : decode cX10_drawBelow 24 = .ok (.aload_n 0, 1) := dK_b_40.2.2.2.2.1
theorem dX10_drawBelow_25 : decode cX10_drawBelow 25 = .ok (.getfield 345, 3) := dK_b_40.2.2.2.2.2.1
theorem dX10_drawBelow_28 : decode cX10_drawBelow 28 = .ok (.ldc_w 365, 3) := dK_b_40.2.2.2.2.2.2.1
theorem dX10_drawBelow_31 : decode cX10_drawBelow 31 = .ok (.iand, 1) := dK_b_40.2.2.2.2.2.2.2.1
theorem dK_b_41 : dk_P cX10_drawBelow [(32, (.ldc_w 366, 3)), (35, (.idiv, 1)), (36, (.iload_n 1, 1)), (37, (.irem, 1)), (38, (.ireturn, 1))] := dk_of 32 (by decide +kernel)
theorem dX10_drawBelow_32 : decode cX10_drawBelow 32 = .ok (.ldc_w 366, 3) := dK_b_41.1
theorem dX10_drawBelow_35 : decode cX10_drawBelow 35 = .ok (.idiv, 1) := dK_b_41.2.1
theorem dX10_drawBelow_36 : decode cX10_drawBelow 36 = .ok (.iload_n 1, 1) := dK_b_41.2.2.1
theorem dX10_drawBelow_37 : decode cX10_drawBelow 37 = .ok (.irem, 1) := dK_b_41.2.2.2.1
theorem dX10_drawBelow_38 : decode cX10_drawBelow 38 = .ok (.ireturn, 1) := dK_b_41.2.2.2.2.1
theorem dK_b_42 : dk_P cX10_parts [(0, (.aload_n 0, 1)), (1, (.iload_n 1, 1)), (2, (.invokevirtual 93, 3)), (5, (.iload_n 2, 1)), (6, (.iconst 0, 1)), (7, (.sipush 999, 3)), (10, (.invokestatic 104, 3)), (13, (.invokestatic 97, 3))] := dk_of 0 (by decide +kernel)
theorem dX10_parts_0 : decode cX10_parts 0 = .ok (.aload_n 0, 1) := dK_b_42.1
theorem dX10_parts_1 : decode cX10_parts 1 = .ok (.iload_n 1, 1) := dK_b_42.2.1
theorem dX10_parts_2 : decode cX10_parts 2 = .ok (.invokevirtual 93, 3) := dK_b_42.2.2.1
theorem dX10_parts_5 : decode cX10_parts 5 = .ok (.iload_n 2, 1) := dK_b_42.2.2.2.1
theorem dX10_parts_6 : decode cX10_parts 6 = .ok (.iconst 0, 1) := dK_b_42.2.2.2.2.1
theorem dX10_parts_7 : decode cX10_parts 7 = .ok (.sipush 999, 3) := dK_b_42.2.2.2.2.2.1
theorem dX10_parts_10 : decode cX10_parts 10 = .ok (.invokestatic 104, 3) := dK_b_42.2.2.2.2.2.2.1
theorem dX10_parts_13 : decode cX10_parts 13 = .ok (.invokestatic 97, 3) := dK_b_42.2.2.2.2.2.2.2.1
theorem dK_b_43 : dk_P cX10_parts [(16, (.istore_n 3, 1)), (17, (.iload_n 3, 1)), (18, (.ifCond .eq 9, 3)), (21, (.aload_n 0, 1)), (22, (.iload_n 3, 1)), (23, (.invokevirtual 111, 3)), (26, (.ireturn, 1)), (27, (.aload_n 0, 1))] := dk_of 16 (by decide +kernel)
theorem dX10_parts_16 : decode cX10_parts 16 = .ok (.istore_n 3, 1) := dK_b_43.1
theorem dX10_parts_17 : decode cX10_parts 17 = .ok (.iload_n 3, 1) := dK_b_43.2.1
theorem dX10_parts_18 : decode cX10_parts 18 = .ok (.ifCond .eq 9, 3) := dK_b_43.2.2.1
theorem dX10_parts_21 : decode cX10_parts 21 = .ok (.aload_n 0, 1) := dK_b_43.2.2.2.1
theorem dX10_parts_22 : decode cX10_parts 22 = .ok (.iload_n 3, 1) := dK_b_43.2.2.2.2.1
theorem dX10_parts_23 : decode cX10_parts 23 = .ok (.invokevirtual 111, 3) := dK_b_43.2.2.2.2.2.1
theorem dX10_parts_26 : decode cX10_parts 26 = .ok (.ireturn, 1) := dK_b_43.2.2.2.2.2.2.1
theorem dX10_parts_27 : decode cX10_parts 27 = .ok (.aload_n 0, 1) := dK_b_43.2.2.2.2.2.2.2.1
theorem dK_b_44 : dk_P cX10_parts [(28, (.iload_n 1, 1)), (29, (.iconst 0, 1)), (30, (.invokevirtual 251, 3)), (33, (.aload_n 0, 1)), (34, (.getfield 35, 3)), (37, (.aload_n 0, 1)), (38, (.getfield 35, 3)), (41, (.getfield 367, 3))] := dk_of 28 (by decide +kernel)
theorem dX10_parts_28 : decode cX10_parts 28 = .ok (.iload_n 1, 1) := dK_b_44.1
theorem dX10_parts_29 : decode cX10_parts 29 = .ok (.iconst 0, 1) := dK_b_44.2.1
theorem dX10_parts_30 : decode cX10_parts 30 = .ok (.invokevirtual 251, 3) := dK_b_44.2.2.1
theorem dX10_parts_33 : decode cX10_parts 33 = .ok (.aload_n 0, 1) := dK_b_44.2.2.2.1
theorem dX10_parts_34 : decode cX10_parts 34 = .ok (.getfield 35, 3) := dK_b_44.2.2.2.2.1
theorem dX10_parts_37 : decode cX10_parts 37 = .ok (.aload_n 0, 1) := dK_b_44.2.2.2.2.2.1
theorem dX10_parts_38 : decode cX10_parts 38 = .ok (.getfield 35, 3) := dK_b_44.2.2.2.2.2.2.1
theorem dX10_parts_41 : decode cX10_parts 41 = .ok (.getfield 367, 3) := dK_b_44.2.2.2.2.2.2.2.1
theorem dK_b_45 : dk_P cX10_parts [(44, (.iload_n 2, 1)), (45, (.laload, 1)), (46, (.invokevirtual 320, 3)), (49, (.ireturn, 1))] := dk_of 44 (by decide +kernel)
theorem dX10_parts_44 : decode cX10_parts 44 = .ok (.iload_n 2, 1) := dK_b_45.1
theorem dX10_parts_45 : decode cX10_parts 45 = .ok (.laload, 1) := dK_b_45.2.1
theorem dX10_parts_46 : decode cX10_parts 46 = .ok (.invokevirtual 320, 3) := dK_b_45.2.2.1
theorem dX10_parts_49 : decode cX10_parts 49 = .ok (.ireturn, 1) := dK_b_45.2.2.2.1
theorem dK_b_46 : dk_P cX10_fillParts [(0, (.aload_n 0, 1)), (1, (.getfield 35, 3)), (4, (.aload_n 0, 1)), (5, (.getfield 72, 3)), (8, (.iload_n 2, 1)), (9, (.invokevirtual 169, 3)), (12, (.aload_n 0, 1)), (13, (.getfield 72, 3))] := dk_of 0 (by decide +kernel)
theorem dX10_fillParts_0 : decode cX10_fillParts 0 = .ok (.aload_n 0, 1) := dK_b_46.1
theorem dX10_fillParts_1 : decode cX10_fillParts 1 = .ok (.getfield 35, 3) := dK_b_46.2.1
theorem dX10_fillParts_4 : decode cX10_fillParts 4 = .ok (.aload_n 0, 1) := dK_b_46.2.2.1
theorem dX10_fillParts_5 : decode cX10_fillParts 5 = .ok (.getfield 72, 3) := dK_b_46.2.2.2.1
theorem dX10_fillParts_8 : decode cX10_fillParts 8 = .ok (.iload_n 2, 1) := dK_b_46.2.2.2.2.1
theorem dX10_fillParts_9 : decode cX10_fillParts 9 = .ok (.invokevirtual 169, 3) := dK_b_46.2.2.2.2.2.1
theorem dX10_fillParts_12 : decode cX10_fillParts 12 = .ok (.aload_n 0, 1) := dK_b_46.2.2.2.2.2.2.1
theorem dX10_fillParts_13 : decode cX10_fillParts 13 = .ok (.getfield 72, 3) := dK_b_46.2.2.2.2.2.2.2.1
theorem dK_b_47 : dk_P cX10_fillParts [(16, (.getfield 163, 3)), (19, (.aload_n 0, 1)), (20, (.getfield 72, 3)), (23, (.getfield 157, 3)), (26, (.iload_n 3, 1)), (27, (.iconst 0, 1)), (28, (.invokevirtual 242, 3)), (31, (.iconst 0, 1))] := dk_of 16 (by decide +kernel)
theorem dX10_fillParts_16 : decode cX10_fillParts 16 = .ok (.getfield 163, 3) := dK_b_47.1
theorem dX10_fillParts_19 : decode cX10_fillParts 19 = .ok (.aload_n 0, 1) := dK_b_47.2.1
theorem dX10_fillParts_20 : decode cX10_fillParts 20 = .ok (.getfield 72, 3) := dK_b_47.2.2.1
theorem dX10_fillParts_23 : decode cX10_fillParts 23 = .ok (.getfield 157, 3) := dK_b_47.2.2.2.1
theorem dX10_fillParts_26 : decode cX10_fillParts 26 = .ok (.iload_n 3, 1) := dK_b_47.2.2.2.2.1
theorem dX10_fillParts_27 : decode cX10_fillParts 27 = .ok (.iconst 0, 1) := dK_b_47.2.2.2.2.2.1
theorem dX10_fillParts_28 : decode cX10_fillParts 28 = .ok (.invokevirtual 242, 3) := dK_b_47.2.2.2.2.2.2.1
theorem dX10_fillParts_31 : decode cX10_fillParts 31 = .ok (.iconst 0, 1) := dK_b_47.2.2.2.2.2.2.2.1
theorem dK_b_48 : dk_P cX10_fillParts [(32, (.istore 4, 2)), (34, (.iload 4, 2)), (36, (.aload_n 1, 1)), (37, (.arraylength, 1)), (38, (.if_icmp .ge 38, 3)), (41, (.iload 4, 2)), (43, (.sipush 999, 3)), (46, (.if_icmp .gt 30, 3))] := dk_of 32 (by decide +kernel)
theorem dX10_fillParts_32 : decode cX10_fillParts 32 = .ok (.istore 4, 2) := dK_b_48.1
theorem dX10_fillParts_34 : decode cX10_fillParts 34 = .ok (.iload 4, 2) := dK_b_48.2.1
theorem dX10_fillParts_36 : decode cX10_fillParts 36 = .ok (.aload_n 1, 1) := dK_b_48.2.2.1
theorem dX10_fillParts_37 : decode cX10_fillParts 37 = .ok (.arraylength, 1) := dK_b_48.2.2.2.1
theorem dX10_fillParts_38 : decode cX10_fillParts 38 = .ok (.if_icmp .ge 38, 3) := dK_b_48.2.2.2.2.1
theorem dX10_fillParts_41 : decode cX10_fillParts 41 = .ok (.iload 4, 2) := dK_b_48.2.2.2.2.2.1
theorem dX10_fillParts_43 : decode cX10_fillParts 43 = .ok (.sipush 999, 3) := dK_b_48.2.2.2.2.2.2.1
theorem dX10_fillParts_46 : decode cX10_fillParts 46 = .ok (.if_icmp .gt 30, 3) := dK_b_48.2.2.2.2.2.2.2.1
theorem dK_b_49 : dk_P cX10_fillParts [(49, (.aload_n 1, 1)), (50, (.iload 4, 2)), (52, (.aload_n 0, 1)), (53, (.getfield 35, 3)), (56, (.aload_n 0, 1)), (57, (.getfield 35, 3)), (60, (.getfield 367, 3)), (63, (.iload 4, 2))] := dk_of 49 (by decide +kernel)
theorem dX10_fillParts_49 : decode cX10_fillParts 49 = .ok (.aload_n 1, 1) := dK_b_49.1
theorem dX10_fillParts_50 : decode cX10_fillParts 50 = .ok (.iload 4, 2) := dK_b_49.2.1
theorem dX10_fillParts_52 : decode cX10_fillParts 52 = .ok (.aload_n 0, 1) := dK_b_49.2.2.1
theorem dX10_fillParts_53 : decode cX10_fillParts 53 = .ok (.getfield 35, 3) := dK_b_49.2.2.2.1
theorem dX10_fillParts_56 : decode cX10_fillParts 56 = .ok (.aload_n 0, 1) := dK_b_49.2.2.2.2.1
theorem dX10_fillParts_57 : decode cX10_fillParts 57 = .ok (.getfield 35, 3) := dK_b_49.2.2.2.2.2.1
theorem dX10_fillParts_60 : decode cX10_fillParts 60 = .ok (.getfield 367, 3) := dK_b_49.2.2.2.2.2.2.1
theorem dX10_fillParts_63 : decode cX10_fillParts 63 = .ok (.iload 4, 2) := dK_b_49.2.2.2.2.2.2.2.1
theorem dK_b_50 : dk_P cX10_fillParts [(65, (.laload, 1)), (66, (.invokevirtual 320, 3)), (69, (.iastore, 1)), (70, (.iinc 4 1, 3)), (73, (.goto (-39), 3)), (76, (.return_, 1))] := dk_of 65 (by decide +kernel)
theorem dX10_fillParts_65 : decode cX10_fillParts 65 = .ok (.laload, 1) := dK_b_50.1
theorem dX10_fillParts_66 : decode cX10_fillParts 66 = .ok (.invokevirtual 320, 3) := dK_b_50.2.1
theorem dX10_fillParts_69 : decode cX10_fillParts 69 = .ok (.iastore, 1) := dK_b_50.2.2.1
theorem dX10_fillParts_70 : decode cX10_fillParts 70 = .ok (.iinc 4 1, 3) := dK_b_50.2.2.2.1
theorem dX10_fillParts_73 : decode cX10_fillParts 73 = .ok (.goto (-39), 3) := dK_b_50.2.2.2.2.1
theorem dX10_fillParts_76 : decode cX10_fillParts 76 = .ok (.return_, 1) := dK_b_50.2.2.2.2.2.1
theorem dK_b_51 : dk_P cX10_moreByParts [(0, (.lconst 0, 1)), (1, (.lstore_n 1, 1)), (2, (.lconst 0, 1)), (3, (.lstore_n 3, 1)), (4, (.iconst 0, 1)), (5, (.istore 5, 2)), (7, (.iload 5, 2)), (9, (.sipush 999, 3))] := dk_of 0 (by decide +kernel)
theorem dX10_moreByParts_0 : decode cX10_moreByParts 0 = .ok (.lconst 0, 1) := dK_b_51.1
theorem dX10_moreByParts_1 : decode cX10_moreByParts 1 = .ok (.lstore_n 1, 1) := dK_b_51.2.1
theorem dX10_moreByParts_2 : decode cX10_moreByParts 2 = .ok (.lconst 0, 1) := dK_b_51.2.2.1
theorem dX10_moreByParts_3 : decode cX10_moreByParts 3 = .ok (.lstore_n 3, 1) := dK_b_51.2.2.2.1
theorem dX10_moreByParts_4 : decode cX10_moreByParts 4 = .ok (.iconst 0, 1) := dK_b_51.2.2.2.2.1
theorem dX10_moreByParts_5 : decode cX10_moreByParts 5 = .ok (.istore 5, 2) := dK_b_51.2.2.2.2.2.1
theorem dX10_moreByParts_7 : decode cX10_moreByParts 7 = .ok (.iload 5, 2) := dK_b_51.2.2.2.2.2.2.1
theorem dX10_moreByParts_9 : decode cX10_moreByParts 9 = .ok (.sipush 999, 3) := dK_b_51.2.2.2.2.2.2.2.1
theorem dK_b_52 : dk_P cX10_moreByParts [(12, (.if_icmp .gt 33, 3)), (15, (.lload_n 1, 1)), (16, (.aload_n 0, 1)), (17, (.getfield 39, 3)), (20, (.iload 5, 2)), (22, (.iaload, 1)), (23, (.i2l, 1)), (24, (.lload_n 3, 1))] := dk_of 12 (by decide +kernel)
theorem dX10_moreByParts_12 : decode cX10_moreByParts 12 = .ok (.if_icmp .gt 33, 3) := dK_b_52.1
theorem dX10_moreByParts_15 : decode cX10_moreByParts 15 = .ok (.lload_n 1, 1) := dK_b_52.2.1
theorem dX10_moreByParts_16 : decode cX10_moreByParts 16 = .ok (.aload_n 0, 1) := dK_b_52.2.2.1
theorem dX10_moreByParts_17 : decode cX10_moreByParts 17 = .ok (.getfield 39, 3) := dK_b_52.2.2.2.1
theorem dX10_moreByParts_20 : decode cX10_moreByParts 20 = .ok (.iload 5, 2) := dK_b_52.2.2.2.2.1
theorem dX10_moreByParts_22 : decode cX10_moreByParts 22 = .ok (.iaload, 1) := dK_b_52.2.2.2.2.2.1
theorem dX10_moreByParts_23 : decode cX10_moreByParts 23 = .ok (.i2l, 1) := dK_b_52.2.2.2.2.2.2.1
theorem dX10_moreByParts_24 : decode cX10_moreByParts 24 = .ok (.lload_n 3, 1) := dK_b_52.2.2.2.2.2.2.2.1
theorem dK_b_53 : dk_P cX10_moreByParts [(25, (.lmul, 1)), (26, (.ladd, 1)), (27, (.lstore_n 1, 1)), (28, (.lload_n 3, 1)), (29, (.aload_n 0, 1)), (30, (.getfield 42, 3)), (33, (.iload 5, 2)), (35, (.iaload, 1))] := dk_of 25 (by decide +kernel)
theorem dX10_moreByParts_25 : decode cX10_moreByParts 25 = .ok (.lmul, 1) := dK_b_53.1
theorem dX10_moreByParts_26 : decode cX10_moreByParts 26 = .ok (.ladd, 1) := dK_b_53.2.1
theorem dX10_moreByParts_27 : decode cX10_moreByParts 27 = .ok (.lstore_n 1, 1) := dK_b_53.2.2.1
theorem dX10_moreByParts_28 : decode cX10_moreByParts 28 = .ok (.lload_n 3, 1) := dK_b_53.2.2.2.1
theorem dX10_moreByParts_29 : decode cX10_moreByParts 29 = .ok (.aload_n 0, 1) := dK_b_53.2.2.2.2.1
theorem dX10_moreByParts_30 : decode cX10_moreByParts 30 = .ok (.getfield 42, 3) := dK_b_53.2.2.2.2.2.1
theorem dX10_moreByParts_33 : decode cX10_moreByParts 33 = .ok (.iload 5, 2) := dK_b_53.2.2.2.2.2.2.1
theorem dX10_moreByParts_35 : decode cX10_moreByParts 35 = .ok (.iaload, 1) := dK_b_53.2.2.2.2.2.2.2.1
theorem dK_b_54 : dk_P cX10_moreByParts [(36, (.i2l, 1)), (37, (.ladd, 1)), (38, (.lstore_n 3, 1)), (39, (.iinc 5 1, 3)), (42, (.goto (-35), 3)), (45, (.lload_n 1, 1)), (46, (.ldc2_w 371, 3)), (49, (.ldiv, 1))] := dk_of 36 (by decide +kernel)
theorem dX10_moreByParts_36 : decode cX10_moreByParts 36 = .ok (.i2l, 1) := dK_b_54.1
theorem dX10_moreByParts_37 : decode cX10_moreByParts 37 = .ok (.ladd, 1) := dK_b_54.2.1
theorem dX10_moreByParts_38 : decode cX10_moreByParts 38 = .ok (.lstore_n 3, 1) := dK_b_54.2.2.1
theorem dX10_moreByParts_39 : decode cX10_moreByParts 39 = .ok (.iinc 5 1, 3) := dK_b_54.2.2.2.1
theorem dX10_moreByParts_42 : decode cX10_moreByParts 42 = .ok (.goto (-35), 3) := dK_b_54.2.2.2.2.1
theorem dX10_moreByParts_45 : decode cX10_moreByParts 45 = .ok (.lload_n 1, 1) := dK_b_54.2.2.2.2.2.1
theorem dX10_moreByParts_46 : decode cX10_moreByParts 46 = .ok (.ldc2_w 371, 3) := dK_b_54.2.2.2.2.2.2.1
theorem dX10_moreByParts_49 : decode cX10_moreByParts 49 = .ok (.ldiv, 1) := dK_b_54.2.2.2.2.2.2.2.1
theorem dK_b_55 : dk_P cX10_moreByParts [(50, (.l2i, 1)), (51, (.ireturn, 1))] := dk_of 50 (by decide +kernel)
theorem dX10_moreByParts_50 : decode cX10_moreByParts 50 = .ok (.l2i, 1) := dK_b_55.1
theorem dX10_moreByParts_51 : decode cX10_moreByParts 51 = .ok (.ireturn, 1) := dK_b_55.2.1
theorem dK_b_56 : dk_P cX10_more [(0, (.aload_n 0, 1)), (1, (.iload_n 1, 1)), (2, (.iload_n 2, 1)), (3, (.invokevirtual 373, 3)), (6, (.istore_n 3, 1)), (7, (.iload_n 3, 1)), (8, (.ifCond .eq 9, 3)), (11, (.aload_n 0, 1))] := dk_of 0 (by decide +kernel)
theorem dX10_more_0 : decode cX10_more 0 = .ok (.aload_n 0, 1) := dK_b_56.1
theorem dX10_more_1 : decode cX10_more 1 = .ok (.iload_n 1, 1) := dK_b_56.2.1
theorem dX10_more_2 : decode cX10_more 2 = .ok (.iload_n 2, 1) := dK_b_56.2.2.1
theorem dX10_more_3 : decode cX10_more 3 = .ok (.invokevirtual 373, 3) := dK_b_56.2.2.2.1
theorem dX10_more_6 : decode cX10_more 6 = .ok (.istore_n 3, 1) := dK_b_56.2.2.2.2.1
theorem dX10_more_7 : decode cX10_more 7 = .ok (.iload_n 3, 1) := dK_b_56.2.2.2.2.2.1
theorem dX10_more_8 : decode cX10_more 8 = .ok (.ifCond .eq 9, 3) := dK_b_56.2.2.2.2.2.2.1
theorem dX10_more_11 : decode cX10_more 11 = .ok (.aload_n 0, 1) := dK_b_56.2.2.2.2.2.2.2.1
theorem dK_b_57 : dk_P cX10_more [(12, (.iload_n 3, 1)), (13, (.invokevirtual 111, 3)), (16, (.ireturn, 1)), (17, (.aload_n 0, 1)), (18, (.aload_n 0, 1)), (19, (.getfield 39, 3)), (22, (.iload_n 1, 1)), (23, (.aload_n 0, 1))] := dk_of 12 (by decide +kernel)
theorem dX10_more_12 : decode cX10_more 12 = .ok (.iload_n 3, 1) := dK_b_57.1
theorem dX10_more_13 : decode cX10_more 13 = .ok (.invokevirtual 111, 3) := dK_b_57.2.1
theorem dX10_more_16 : decode cX10_more 16 = .ok (.ireturn, 1) := dK_b_57.2.2.1
theorem dX10_more_17 : decode cX10_more 17 = .ok (.aload_n 0, 1) := dK_b_57.2.2.2.1
theorem dX10_more_18 : decode cX10_more 18 = .ok (.aload_n 0, 1) := dK_b_57.2.2.2.2.1
theorem dX10_more_19 : decode cX10_more 19 = .ok (.getfield 39, 3) := dK_b_57.2.2.2.2.2.1
theorem dX10_more_22 : decode cX10_more 22 = .ok (.iload_n 1, 1) := dK_b_57.2.2.2.2.2.2.1
theorem dX10_more_23 : decode cX10_more 23 = .ok (.aload_n 0, 1) := dK_b_57.2.2.2.2.2.2.2.1
theorem dK_b_58 : dk_P cX10_more [(24, (.iload_n 1, 1)), (25, (.invokevirtual 229, 3)), (28, (.invokevirtual 376, 3)), (31, (.aload_n 0, 1)), (32, (.aload_n 0, 1)), (33, (.getfield 42, 3)), (36, (.iload_n 2, 1)), (37, (.aload_n 0, 1))] := dk_of 24 (by decide +kernel)
theorem dX10_more_24 : decode cX10_more 24 = .ok (.iload_n 1, 1) := dK_b_58.1
theorem dX10_more_25 : decode cX10_more 25 = .ok (.invokevirtual 229, 3) := dK_b_58.2.1
theorem dX10_more_28 : decode cX10_more 28 = .ok (.invokevirtual 376, 3) := dK_b_58.2.2.1
theorem dX10_more_31 : decode cX10_more 31 = .ok (.aload_n 0, 1) := dK_b_58.2.2.2.1
theorem dX10_more_32 : decode cX10_more 32 = .ok (.aload_n 0, 1) := dK_b_58.2.2.2.2.1
theorem dX10_more_33 : decode cX10_more 33 = .ok (.getfield 42, 3) := dK_b_58.2.2.2.2.2.1
theorem dX10_more_36 : decode cX10_more 36 = .ok (.iload_n 2, 1) := dK_b_58.2.2.2.2.2.2.1
theorem dX10_more_37 : decode cX10_more 37 = .ok (.aload_n 0, 1) := dK_b_58.2.2.2.2.2.2.2.1
theorem dK_b_59 : dk_P cX10_more [(38, (.iload_n 2, 1)), (39, (.invokevirtual 229, 3)), (42, (.invokevirtual 376, 3)), (45, (.aload_n 0, 1)), (46, (.invokevirtual 380, 3)), (49, (.ireturn, 1))] := dk_of 38 (by decide +kernel)
theorem dX10_more_38 : decode cX10_more 38 = .ok (.iload_n 2, 1) := dK_b_59.1
theorem dX10_more_39 : decode cX10_more 39 = .ok (.invokevirtual 229, 3) := dK_b_59.2.1
theorem dX10_more_42 : decode cX10_more 42 = .ok (.invokevirtual 376, 3) := dK_b_59.2.2.1
theorem dX10_more_45 : decode cX10_more 45 = .ok (.aload_n 0, 1) := dK_b_59.2.2.2.1
theorem dX10_more_46 : decode cX10_more 46 = .ok (.invokevirtual 380, 3) := dK_b_59.2.2.2.2.1
theorem dX10_more_49 : decode cX10_more 49 = .ok (.ireturn, 1) := dK_b_59.2.2.2.2.2.1
theorem dK_b_60 : dk_P cX10_duel [(0, (.aload_n 0, 1)), (1, (.iload_n 1, 1)), (2, (.iload_n 2, 1)), (3, (.invokevirtual 373, 3)), (6, (.iload_n 3, 1)), (7, (.iconst 2, 1)), (8, (.invokestatic 101, 3)), (11, (.invokestatic 97, 3))] := dk_of 0 (by decide +kernel)
theorem dX10_duel_0 : decode cX10_duel 0 = .ok (.aload_n 0, 1) := dK_b_60.1
theorem dX10_duel_1 : decode cX10_duel 1 = .ok (.iload_n 1, 1) := dK_b_60.2.1
theorem dX10_duel_2 : decode cX10_duel 2 = .ok (.iload_n 2, 1) := dK_b_60.2.2.1
theorem dX10_duel_3 : decode cX10_duel 3 = .ok (.invokevirtual 373, 3) := dK_b_60.2.2.2.1
theorem dX10_duel_6 : decode cX10_duel 6 = .ok (.iload_n 3, 1) := dK_b_60.2.2.2.2.1
theorem dX10_duel_7 : decode cX10_duel 7 = .ok (.iconst 2, 1) := dK_b_60.2.2.2.2.2.1
theorem dX10_duel_8 : decode cX10_duel 8 = .ok (.invokestatic 101, 3) := dK_b_60.2.2.2.2.2.2.1
theorem dX10_duel_11 : decode cX10_duel 11 = .ok (.invokestatic 97, 3) := dK_b_60.2.2.2.2.2.2.2.1
theorem dK_b_61 : dk_P cX10_duel [(14, (.istore 4, 2)), (16, (.iload 4, 2)), (18, (.ifCond .eq 10, 3)), (21, (.aload_n 0, 1)), (22, (.iload 4, 2)), (24, (.invokevirtual 111, 3)), (27, (.ireturn, 1)), (28, (.iconst 0, 1))] := dk_of 14 (by decide +kernel)
theorem dX10_duel_14 : decode cX10_duel 14 = .ok (.istore 4, 2) := dK_b_61.1
theorem dX10_duel_16 : decode cX10_duel 16 = .ok (.iload 4, 2) := dK_b_61.2.1
theorem dX10_duel_18 : decode cX10_duel 18 = .ok (.ifCond .eq 10, 3) := dK_b_61.2.2.1
theorem dX10_duel_21 : decode cX10_duel 21 = .ok (.aload_n 0, 1) := dK_b_61.2.2.2.1
theorem dX10_duel_22 : decode cX10_duel 22 = .ok (.iload 4, 2) := dK_b_61.2.2.2.2.1
theorem dX10_duel_24 : decode cX10_duel 24 = .ok (.invokevirtual 111, 3) := dK_b_61.2.2.2.2.2.1
theorem dX10_duel_27 : decode cX10_duel 27 = .ok (.ireturn, 1) := dK_b_61.2.2.2.2.2.2.1
theorem dX10_duel_28 : decode cX10_duel 28 = .ok (.iconst 0, 1) := dK_b_61.2.2.2.2.2.2.2.1
theorem dK_b_62 : dk_P cX10_duel [(29, (.istore 5, 2)), (31, (.iload 5, 2)), (33, (.iconst 3, 1)), (34, (.if_icmp .ge 68, 3)), (37, (.aload_n 0, 1)), (38, (.aload_n 0, 1)), (39, (.getfield 39, 3)), (42, (.iload_n 1, 1))] := dk_of 29 (by decide +kernel)
theorem dX10_duel_29 : decode cX10_duel 29 = .ok (.istore 5, 2) := dK_b_62.1
theorem dX10_duel_31 : decode cX10_duel 31 = .ok (.iload 5, 2) := dK_b_62.2.1
theorem dX10_duel_33 : decode cX10_duel 33 = .ok (.iconst 3, 1) := dK_b_62.2.2.1
theorem dX10_duel_34 : decode cX10_duel 34 = .ok (.if_icmp .ge 68, 3) := dK_b_62.2.2.2.1
theorem dX10_duel_37 : decode cX10_duel 37 = .ok (.aload_n 0, 1) := dK_b_62.2.2.2.2.1
theorem dX10_duel_38 : decode cX10_duel 38 = .ok (.aload_n 0, 1) := dK_b_62.2.2.2.2.2.1
theorem dX10_duel_39 : decode cX10_duel 39 = .ok (.getfield 39, 3) := dK_b_62.2.2.2.2.2.2.1
theorem dX10_duel_42 : decode cX10_duel 42 = .ok (.iload_n 1, 1) := dK_b_62.2.2.2.2.2.2.2.1
theorem dK_b_63 : dk_P cX10_duel [(43, (.bipush 6, 2)), (45, (.iload 5, 2)), (47, (.imul, 1)), (48, (.invokevirtual 376, 3)), (51, (.iconst 0, 1)), (52, (.istore 6, 2)), (54, (.iload 6, 2)), (56, (.iconst 3, 1))] := dk_of 43 (by decide +kernel)
theorem dX10_duel_43 : decode cX10_duel 43 = .ok (.bipush 6, 2) := dK_b_63.1
theorem dX10_duel_45 : decode cX10_duel 45 = .ok (.iload 5, 2) := dK_b_63.2.1
theorem dX10_duel_47 : decode cX10_duel 47 = .ok (.imul, 1) := dK_b_63.2.2.1
theorem dX10_duel_48 : decode cX10_duel 48 = .ok (.invokevirtual 376, 3) := dK_b_63.2.2.2.1
theorem dX10_duel_51 : decode cX10_duel 51 = .ok (.iconst 0, 1) := dK_b_63.2.2.2.2.1
theorem dX10_duel_52 : decode cX10_duel 52 = .ok (.istore 6, 2) := dK_b_63.2.2.2.2.2.1
theorem dX10_duel_54 : decode cX10_duel 54 = .ok (.iload 6, 2) := dK_b_63.2.2.2.2.2.2.1
theorem dX10_duel_56 : decode cX10_duel 56 = .ok (.iconst 3, 1) := dK_b_63.2.2.2.2.2.2.2.1
theorem dK_b_64 : dk_P cX10_duel [(57, (.if_icmp .ge 39, 3)), (60, (.aload_n 0, 1)), (61, (.aload_n 0, 1)), (62, (.getfield 42, 3)), (65, (.iload_n 2, 1)), (66, (.bipush 6, 2)), (68, (.iload 6, 2)), (70, (.imul, 1))] := dk_of 57 (by decide +kernel)
theorem dX10_duel_57 : decode cX10_duel 57 = .ok (.if_icmp .ge 39, 3) := dK_b_64.1
theorem dX10_duel_60 : decode cX10_duel 60 = .ok (.aload_n 0, 1) := dK_b_64.2.1
theorem dX10_duel_61 : decode cX10_duel 61 = .ok (.aload_n 0, 1) := dK_b_64.2.2.1
theorem dX10_duel_62 : decode cX10_duel 62 = .ok (.getfield 42, 3) := dK_b_64.2.2.2.1
theorem dX10_duel_65 : decode cX10_duel 65 = .ok (.iload_n 2, 1) := dK_b_64.2.2.2.2.1
theorem dX10_duel_66 : decode cX10_duel 66 = .ok (.bipush 6, 2) := dK_b_64.2.2.2.2.2.1
theorem dX10_duel_68 : decode cX10_duel 68 = .ok (.iload 6, 2) := dK_b_64.2.2.2.2.2.2.1
theorem dX10_duel_70 : decode cX10_duel 70 = .ok (.imul, 1) := dK_b_64.2.2.2.2.2.2.2.1
theorem dK_b_65 : dk_P cX10_duel [(71, (.invokevirtual 376, 3)), (74, (.aload_n 0, 1)), (75, (.getfield 45, 3)), (78, (.iconst 3, 1)), (79, (.iload 5, 2)), (81, (.imul, 1)), (82, (.iload 6, 2)), (84, (.iadd, 1))] := dk_of 71 (by decide +kernel)
theorem dX10_duel_71 : decode cX10_duel 71 = .ok (.invokevirtual 376, 3) := dK_b_65.1
theorem dX10_duel_74 : decode cX10_duel 74 = .ok (.aload_n 0, 1) := dK_b_65.2.1
theorem dX10_duel_75 : decode cX10_duel 75 = .ok (.getfield 45, 3) := dK_b_65.2.2.1
theorem dX10_duel_78 : decode cX10_duel 78 = .ok (.iconst 3, 1) := dK_b_65.2.2.2.1
theorem dX10_duel_79 : decode cX10_duel 79 = .ok (.iload 5, 2) := dK_b_65.2.2.2.2.1
theorem dX10_duel_81 : decode cX10_duel 81 = .ok (.imul, 1) := dK_b_65.2.2.2.2.2.1
theorem dX10_duel_82 : decode cX10_duel 82 = .ok (.iload 6, 2) := dK_b_65.2.2.2.2.2.2.1
theorem dX10_duel_84 : decode cX10_duel 84 = .ok (.iadd, 1) := dK_b_65.2.2.2.2.2.2.2.1
theorem dK_b_66 : dk_P cX10_duel [(85, (.aload_n 0, 1)), (86, (.invokevirtual 380, 3)), (89, (.iastore, 1)), (90, (.iinc 6 1, 3)), (93, (.goto (-39), 3)), (96, (.iinc 5 1, 3)), (99, (.goto (-68), 3)), (102, (.iload_n 3, 1))] := dk_of 85 (by decide +kernel)
theorem dX10_duel_85 : decode cX10_duel 85 = .ok (.aload_n 0, 1) := dK_b_66.1
theorem dX10_duel_86 : decode cX10_duel 86 = .ok (.invokevirtual 380, 3) := dK_b_66.2.1
theorem dX10_duel_89 : decode cX10_duel 89 = .ok (.iastore, 1) := dK_b_66.2.2.1
theorem dX10_duel_90 : decode cX10_duel 90 = .ok (.iinc 6 1, 3) := dK_b_66.2.2.2.1
theorem dX10_duel_93 : decode cX10_duel 93 = .ok (.goto (-39), 3) := dK_b_66.2.2.2.2.1
theorem dX10_duel_96 : decode cX10_duel 96 = .ok (.iinc 5 1, 3) := dK_b_66.2.2.2.2.2.1
theorem dX10_duel_99 : decode cX10_duel 99 = .ok (.goto (-68), 3) := dK_b_66.2.2.2.2.2.2.1
theorem dX10_duel_102 : decode cX10_duel 102 = .ok (.iload_n 3, 1) := dK_b_66.2.2.2.2.2.2.2.1
theorem dK_b_67 : dk_P cX10_duel [(103, (.iconst 2, 1)), (104, (.if_icmp .ne 10, 3)), (107, (.aload_n 0, 1)), (108, (.invokevirtual 383, 3)), (111, (.goto 8, 3)), (114, (.aload_n 0, 1)), (115, (.iload_n 3, 1)), (116, (.invokevirtual 386, 3))] := dk_of 103 (by decide +kernel)
theorem dX10_duel_103 : decode cX10_duel 103 = .ok (.iconst 2, 1) := dK_b_67.1
theorem dX10_duel_104 : decode cX10_duel 104 = .ok (.if_icmp .ne 10, 3) := dK_b_67.2.1
theorem dX10_duel_107 : decode cX10_duel 107 = .ok (.aload_n 0, 1) := dK_b_67.2.2.1
theorem dX10_duel_108 : decode cX10_duel 108 = .ok (.invokevirtual 383, 3) := dK_b_67.2.2.2.1
theorem dX10_duel_111 : decode cX10_duel 111 = .ok (.goto 8, 3) := dK_b_67.2.2.2.2.1
theorem dX10_duel_114 : decode cX10_duel 114 = .ok (.aload_n 0, 1) := dK_b_67.2.2.2.2.2.1
theorem dX10_duel_115 : decode cX10_duel 115 = .ok (.iload_n 3, 1) := dK_b_67.2.2.2.2.2.2.1
theorem dX10_duel_116 : decode cX10_duel 116 = .ok (.invokevirtual 386, 3) := dK_b_67.2.2.2.2.2.2.2.1
theorem dK_b_68 : dk_P cX10_duel [(119, (.ireturn, 1))] := dk_of 119 (by decide +kernel)
theorem dX10_duel_119 : decode cX10_duel 119 = .ok (.ireturn, 1) := dK_b_68.1
theorem dK_b_69 : dk_P cX10_leastOfRow [(0, (.aload_n 0, 1)), (1, (.getfield 45, 3)), (4, (.iconst 3, 1)), (5, (.iload_n 1, 1)), (6, (.imul, 1)), (7, (.iaload, 1)), (8, (.aload_n 0, 1)), (9, (.getfield 45, 3))] := dk_of 0 (by decide +kernel)
theorem dX10_leastOfRow_0 : decode cX10_leastOfRow 0 = .ok (.aload_n 0, 1) := dK_b_69.1
theorem dX10_leastOfRow_1 : decode cX10_leastOfRow 1 = .ok (.getfield 45, 3) := dK_b_69.2.1
theorem dX10_leastOfRow_4 : decode cX10_leastOfRow 4 = .ok (.iconst 3, 1) := dK_b_69.2.2.1
theorem dX10_leastOfRow_5 : decode cX10_leastOfRow 5 = .ok (.iload_n 1, 1) := dK_b_69.2.2.2.1
theorem dX10_leastOfRow_6 : decode cX10_leastOfRow 6 = .ok (.imul, 1) := dK_b_69.2.2.2.2.1
theorem dX10_leastOfRow_7 : decode cX10_leastOfRow 7 = .ok (.iaload, 1) := dK_b_69.2.2.2.2.2.1
theorem dX10_leastOfRow_8 : decode cX10_leastOfRow 8 = .ok (.aload_n 0, 1) := dK_b_69.2.2.2.2.2.2.1
theorem dX10_leastOfRow_9 : decode cX10_leastOfRow 9 = .ok (.getfield 45, 3) := dK_b_69.2.2.2.2.2.2.2.1
theorem dK_b_70 : dk_P cX10_leastOfRow [(12, (.iconst 3, 1)), (13, (.iload_n 1, 1)), (14, (.imul, 1)), (15, (.iconst 1, 1)), (16, (.iadd, 1)), (17, (.iaload, 1)), (18, (.aload_n 0, 1)), (19, (.getfield 45, 3))] := dk_of 12 (by decide +kernel)
theorem dX10_leastOfRow_12 : decode cX10_leastOfRow 12 = .ok (.iconst 3, 1) := dK_b_70.1
theorem dX10_leastOfRow_13 : decode cX10_leastOfRow 13 = .ok (.iload_n 1, 1) := dK_b_70.2.1
theorem dX10_leastOfRow_14 : decode cX10_leastOfRow 14 = .ok (.imul, 1) := dK_b_70.2.2.1
theorem dX10_leastOfRow_15 : decode cX10_leastOfRow 15 = .ok (.iconst 1, 1) := dK_b_70.2.2.2.1
theorem dX10_leastOfRow_16 : decode cX10_leastOfRow 16 = .ok (.iadd, 1) := dK_b_70.2.2.2.2.1
theorem dX10_leastOfRow_17 : decode cX10_leastOfRow 17 = .ok (.iaload, 1) := dK_b_70.2.2.2.2.2.1
theorem dX10_leastOfRow_18 : decode cX10_leastOfRow 18 = .ok (.aload_n 0, 1) := dK_b_70.2.2.2.2.2.2.1
theorem dX10_leastOfRow_19 : decode cX10_leastOfRow 19 = .ok (.getfield 45, 3) := dK_b_70.2.2.2.2.2.2.2.1
theorem dK_b_71 : dk_P cX10_leastOfRow [(22, (.iconst 3, 1)), (23, (.iload_n 1, 1)), (24, (.imul, 1)), (25, (.iconst 2, 1)), (26, (.iadd, 1)), (27, (.iaload, 1)), (28, (.invokestatic 291, 3)), (31, (.invokestatic 291, 3))] := dk_of 22 (by decide +kernel)
theorem dX10_leastOfRow_22 : decode cX10_leastOfRow 22 = .ok (.iconst 3, 1) := dK_b_71.1
theorem dX10_leastOfRow_23 : decode cX10_leastOfRow 23 = .ok (.iload_n 1, 1) := dK_b_71.2.1
theorem dX10_leastOfRow_24 : decode cX10_leastOfRow 24 = .ok (.imul, 1) := dK_b_71.2.2.1
theorem dX10_leastOfRow_25 : decode cX10_leastOfRow 25 = .ok (.iconst 2, 1) := dK_b_71.2.2.2.1
theorem dX10_leastOfRow_26 : decode cX10_leastOfRow 26 = .ok (.iadd, 1) := dK_b_71.2.2.2.2.1
theorem dX10_leastOfRow_27 : decode cX10_leastOfRow 27 = .ok (.iaload, 1) := dK_b_71.2.2.2.2.2.1
theorem dX10_leastOfRow_28 : decode cX10_leastOfRow 28 = .ok (.invokestatic 291, 3) := dK_b_71.2.2.2.2.2.2.1
theorem dX10_leastOfRow_31 : decode cX10_leastOfRow 31 = .ok (.invokestatic 291, 3) := dK_b_71.2.2.2.2.2.2.2.1
theorem dK_b_72 : dk_P cX10_leastOfRow [(34, (.ireturn, 1))] := dk_of 34 (by decide +kernel)
theorem dX10_leastOfRow_34 : decode cX10_leastOfRow 34 = .ok (.ireturn, 1) := dK_b_72.1
theorem dK_b_73 : dk_P cX10_mostOfColumn [(0, (.aload_n 0, 1)), (1, (.getfield 45, 3)), (4, (.iload_n 1, 1)), (5, (.iaload, 1)), (6, (.aload_n 0, 1)), (7, (.getfield 45, 3)), (10, (.iconst 3, 1)), (11, (.iload_n 1, 1))] := dk_of 0 (by decide +kernel)
theorem dX10_mostOfColumn_0 : decode cX10_mostOfColumn 0 = .ok (.aload_n 0, 1) := dK_b_73.1
theorem dX10_mostOfColumn_1 : decode cX10_mostOfColumn 1 = .ok (.getfield 45, 3) := dK_b_73.2.1
theorem dX10_mostOfColumn_4 : decode cX10_mostOfColumn 4 = .ok (.iload_n 1, 1) := dK_b_73.2.2.1
theorem dX10_mostOfColumn_5 : decode cX10_mostOfColumn 5 = .ok (.iaload, 1) := dK_b_73.2.2.2.1
theorem dX10_mostOfColumn_6 : decode cX10_mostOfColumn 6 = .ok (.aload_n 0, 1) := dK_b_73.2.2.2.2.1
theorem dX10_mostOfColumn_7 : decode cX10_mostOfColumn 7 = .ok (.getfield 45, 3) := dK_b_73.2.2.2.2.2.1
theorem dX10_mostOfColumn_10 : decode cX10_mostOfColumn 10 = .ok (.iconst 3, 1) := dK_b_73.2.2.2.2.2.2.1
theorem dX10_mostOfColumn_11 : decode cX10_mostOfColumn 11 = .ok (.iload_n 1, 1) := dK_b_73.2.2.2.2.2.2.2.1
theorem dK_b_74 : dk_P cX10_mostOfColumn [(12, (.iadd, 1)), (13, (.iaload, 1)), (14, (.aload_n 0, 1)), (15, (.getfield 45, 3)), (18, (.bipush 6, 2)), (20, (.iload_n 1, 1)), (21, (.iadd, 1)), (22, (.iaload, 1))] := dk_of 12 (by decide +kernel)
theorem dX10_mostOfColumn_12 : decode cX10_mostOfColumn 12 = .ok (.iadd, 1) := dK_b_74.1
theorem dX10_mostOfColumn_13 : decode cX10_mostOfColumn 13 = .ok (.iaload, 1) := dK_b_74.2.1
theorem dX10_mostOfColumn_14 : decode cX10_mostOfColumn 14 = .ok (.aload_n 0, 1) := dK_b_74.2.2.1
theorem dX10_mostOfColumn_15 : decode cX10_mostOfColumn 15 = .ok (.getfield 45, 3) := dK_b_74.2.2.2.1
theorem dX10_mostOfColumn_18 : decode cX10_mostOfColumn 18 = .ok (.bipush 6, 2) := dK_b_74.2.2.2.2.1
theorem dX10_mostOfColumn_20 : decode cX10_mostOfColumn 20 = .ok (.iload_n 1, 1) := dK_b_74.2.2.2.2.2.1
theorem dX10_mostOfColumn_21 : decode cX10_mostOfColumn 21 = .ok (.iadd, 1) := dK_b_74.2.2.2.2.2.2.1
theorem dX10_mostOfColumn_22 : decode cX10_mostOfColumn 22 = .ok (.iaload, 1) := dK_b_74.2.2.2.2.2.2.2.1
theorem dK_b_75 : dk_P cX10_mostOfColumn [(23, (.invokestatic 286, 3)), (26, (.invokestatic 286, 3)), (29, (.ireturn, 1))] := dk_of 23 (by decide +kernel)
theorem dX10_mostOfColumn_23 : decode cX10_mostOfColumn 23 = .ok (.invokestatic 286, 3) := dK_b_75.1
theorem dX10_mostOfColumn_26 : decode cX10_mostOfColumn 26 = .ok (.invokestatic 286, 3) := dK_b_75.2.1
theorem dX10_mostOfColumn_29 : decode cX10_mostOfColumn 29 = .ok (.ireturn, 1) := dK_b_75.2.2.1
theorem dK_b_76 : dk_P cX10_sure [(0, (.aload_n 0, 1)), (1, (.iconst 0, 1)), (2, (.invokevirtual 389, 3)), (5, (.aload_n 0, 1)), (6, (.iconst 1, 1)), (7, (.invokevirtual 389, 3)), (10, (.aload_n 0, 1)), (11, (.iconst 2, 1))] := dk_of 0 (by decide +kernel)
theorem dX10_sure_0 : decode cX10_sure 0 = .ok (.aload_n 0, 1) := dK_b_76.1
theorem dX10_sure_1 : decode cX10_sure 1 = .ok (.iconst 0, 1) := dK_b_76.2.1
theorem dX10_sure_2 : decode cX10_sure 2 = .ok (.invokevirtual 389, 3) := dK_b_76.2.2.1
theorem dX10_sure_5 : decode cX10_sure 5 = .ok (.aload_n 0, 1) := dK_b_76.2.2.2.1
theorem dX10_sure_6 : decode cX10_sure 6 = .ok (.iconst 1, 1) := dK_b_76.2.2.2.2.1
theorem dX10_sure_7 : decode cX10_sure 7 = .ok (.invokevirtual 389, 3) := dK_b_76.2.2.2.2.2.1
theorem dX10_sure_10 : decode cX10_sure 10 = .ok (.aload_n 0, 1) := dK_b_76.2.2.2.2.2.2.1
theorem dX10_sure_11 : decode cX10_sure 11 = .ok (.iconst 2, 1) := dK_b_76.2.2.2.2.2.2.2.1
theorem dK_b_77 : dk_P cX10_sure [(12, (.invokevirtual 389, 3)), (15, (.invokestatic 286, 3)), (18, (.invokestatic 286, 3)), (21, (.ireturn, 1))] := dk_of 12 (by decide +kernel)
theorem dX10_sure_12 : decode cX10_sure 12 = .ok (.invokevirtual 389, 3) := dK_b_77.1
theorem dX10_sure_15 : decode cX10_sure 15 = .ok (.invokestatic 286, 3) := dK_b_77.2.1
theorem dX10_sure_18 : decode cX10_sure 18 = .ok (.invokestatic 286, 3) := dK_b_77.2.2.1
theorem dX10_sure_21 : decode cX10_sure 21 = .ok (.ireturn, 1) := dK_b_77.2.2.2.1
theorem dK_b_78 : dk_P cX10_calmPair [(0, (.iconst 0, 1)), (1, (.istore_n 2, 1)), (2, (.iload_n 2, 1)), (3, (.iconst 3, 1)), (4, (.if_icmp .ge 70, 3)), (7, (.iconst 0, 1)), (8, (.istore_n 3, 1)), (9, (.iload_n 3, 1))] := dk_of 0 (by decide +kernel)
theorem dX10_calmPair_0 : decode cX10_calmPair 0 = .ok (.iconst 0, 1) := dK_b_78.1
theorem dX10_calmPair_1 : decode cX10_calmPair 1 = .ok (.istore_n 2, 1) := dK_b_78.2.1
theorem dX10_calmPair_2 : decode cX10_calmPair 2 = .ok (.iload_n 2, 1) := dK_b_78.2.2.1
theorem dX10_calmPair_3 : decode cX10_calmPair 3 = .ok (.iconst 3, 1) := dK_b_78.2.2.2.1
theorem dX10_calmPair_4 : decode cX10_calmPair 4 = .ok (.if_icmp .ge 70, 3) := dK_b_78.2.2.2.2.1
theorem dX10_calmPair_7 : decode cX10_calmPair 7 = .ok (.iconst 0, 1) := dK_b_78.2.2.2.2.2.1
theorem dX10_calmPair_8 : decode cX10_calmPair 8 = .ok (.istore_n 3, 1) := dK_b_78.2.2.2.2.2.2.1
theorem dX10_calmPair_9 : decode cX10_calmPair 9 = .ok (.iload_n 3, 1) := dK_b_78.2.2.2.2.2.2.2.1
theorem dK_b_79 : dk_P cX10_calmPair [(10, (.iconst 3, 1)), (11, (.if_icmp .ge 57, 3)), (14, (.aload_n 0, 1)), (15, (.getfield 45, 3)), (18, (.iconst 3, 1)), (19, (.iload_n 2, 1)), (20, (.imul, 1)), (21, (.iload_n 3, 1))] := dk_of 10 (by decide +kernel)
theorem dX10_calmPair_10 : decode cX10_calmPair 10 = .ok (.iconst 3, 1) := dK_b_79.1
theorem dX10_calmPair_11 : decode cX10_calmPair 11 = .ok (.if_icmp .ge 57, 3) := dK_b_79.2.1
theorem dX10_calmPair_14 : decode cX10_calmPair 14 = .ok (.aload_n 0, 1) := dK_b_79.2.2.1
theorem dX10_calmPair_15 : decode cX10_calmPair 15 = .ok (.getfield 45, 3) := dK_b_79.2.2.2.1
theorem dX10_calmPair_18 : decode cX10_calmPair 18 = .ok (.iconst 3, 1) := dK_b_79.2.2.2.2.1
theorem dX10_calmPair_19 : decode cX10_calmPair 19 = .ok (.iload_n 2, 1) := dK_b_79.2.2.2.2.2.1
theorem dX10_calmPair_20 : decode cX10_calmPair 20 = .ok (.imul, 1) := dK_b_79.2.2.2.2.2.2.1
theorem dX10_calmPair_21 : decode cX10_calmPair 21 = .ok (.iload_n 3, 1) := dK_b_79.2.2.2.2.2.2.2.1
theorem dK_b_80 : dk_P cX10_calmPair [(22, (.iadd, 1)), (23, (.iaload, 1)), (24, (.istore 4, 2)), (26, (.iload 4, 2)), (28, (.aload_n 0, 1)), (29, (.iload_n 2, 1)), (30, (.invokevirtual 389, 3)), (33, (.if_icmp .ne 29, 3))] := dk_of 22 (by decide +kernel)
theorem dX10_calmPair_22 : decode cX10_calmPair 22 = .ok (.iadd, 1) := dK_b_80.1
theorem dX10_calmPair_23 : decode cX10_calmPair 23 = .ok (.iaload, 1) := dK_b_80.2.1
theorem dX10_calmPair_24 : decode cX10_calmPair 24 = .ok (.istore 4, 2) := dK_b_80.2.2.1
theorem dX10_calmPair_26 : decode cX10_calmPair 26 = .ok (.iload 4, 2) := dK_b_80.2.2.2.1
theorem dX10_calmPair_28 : decode cX10_calmPair 28 = .ok (.aload_n 0, 1) := dK_b_80.2.2.2.2.1
theorem dX10_calmPair_29 : decode cX10_calmPair 29 = .ok (.iload_n 2, 1) := dK_b_80.2.2.2.2.2.1
theorem dX10_calmPair_30 : decode cX10_calmPair 30 = .ok (.invokevirtual 389, 3) := dK_b_80.2.2.2.2.2.2.1
theorem dX10_calmPair_33 : decode cX10_calmPair 33 = .ok (.if_icmp .ne 29, 3) := dK_b_80.2.2.2.2.2.2.2.1
theorem dK_b_81 : dk_P cX10_calmPair [(36, (.iload 4, 2)), (38, (.aload_n 0, 1)), (39, (.iload_n 3, 1)), (40, (.invokevirtual 392, 3)), (43, (.if_icmp .ne 19, 3)), (46, (.iload_n 1, 1)), (47, (.ifCond .ne 12, 3)), (50, (.bipush 10, 2))] := dk_of 36 (by decide +kernel)
theorem dX10_calmPair_36 : decode cX10_calmPair 36 = .ok (.iload 4, 2) := dK_b_81.1
theorem dX10_calmPair_38 : decode cX10_calmPair 38 = .ok (.aload_n 0, 1) := dK_b_81.2.1
theorem dX10_calmPair_39 : decode cX10_calmPair 39 = .ok (.iload_n 3, 1) := dK_b_81.2.2.1
theorem dX10_calmPair_40 : decode cX10_calmPair 40 = .ok (.invokevirtual 392, 3) := dK_b_81.2.2.2.1
theorem dX10_calmPair_43 : decode cX10_calmPair 43 = .ok (.if_icmp .ne 19, 3) := dK_b_81.2.2.2.2.1
theorem dX10_calmPair_46 : decode cX10_calmPair 46 = .ok (.iload_n 1, 1) := dK_b_81.2.2.2.2.2.1
theorem dX10_calmPair_47 : decode cX10_calmPair 47 = .ok (.ifCond .ne 12, 3) := dK_b_81.2.2.2.2.2.2.1
theorem dX10_calmPair_50 : decode cX10_calmPair 50 = .ok (.bipush 10, 2) := dK_b_81.2.2.2.2.2.2.2.1
theorem dK_b_82 : dk_P cX10_calmPair [(52, (.iload_n 2, 1)), (53, (.imul, 1)), (54, (.iload_n 3, 1)), (55, (.iadd, 1)), (56, (.goto 5, 3)), (59, (.iload 4, 2)), (61, (.ireturn, 1)), (62, (.iinc 3 1, 3))] := dk_of 52 (by decide +kernel)
theorem dX10_calmPair_52 : decode cX10_calmPair 52 = .ok (.iload_n 2, 1) := dK_b_82.1
theorem dX10_calmPair_53 : decode cX10_calmPair 53 = .ok (.imul, 1) := dK_b_82.2.1
theorem dX10_calmPair_54 : decode cX10_calmPair 54 = .ok (.iload_n 3, 1) := dK_b_82.2.2.1
theorem dX10_calmPair_55 : decode cX10_calmPair 55 = .ok (.iadd, 1) := dK_b_82.2.2.2.1
theorem dX10_calmPair_56 : decode cX10_calmPair 56 = .ok (.goto 5, 3) := dK_b_82.2.2.2.2.1
theorem dX10_calmPair_59 : decode cX10_calmPair 59 = .ok (.iload 4, 2) := dK_b_82.2.2.2.2.2.1
theorem dX10_calmPair_61 : decode cX10_calmPair 61 = .ok (.ireturn, 1) := dK_b_82.2.2.2.2.2.2.1
theorem dX10_calmPair_62 : decode cX10_calmPair 62 = .ok (.iinc 3 1, 3) := dK_b_82.2.2.2.2.2.2.2.1
theorem dK_b_83 : dk_P cX10_calmPair [(65, (.goto (-56), 3)), (68, (.iinc 2 1, 3)), (71, (.goto (-69), 3)), (74, (.bipush (-9), 2)), (76, (.ireturn, 1))] := dk_of 65 (by decide +kernel)
theorem dX10_calmPair_65 : decode cX10_calmPair 65 = .ok (.goto (-56), 3) := dK_b_83.1
theorem dX10_calmPair_68 : decode cX10_calmPair 68 = .ok (.iinc 2 1, 3) := dK_b_83.2.1
theorem dX10_calmPair_71 : decode cX10_calmPair 71 = .ok (.goto (-69), 3) := dK_b_83.2.2.1
theorem dX10_calmPair_74 : decode cX10_calmPair 74 = .ok (.bipush (-9), 2) := dK_b_83.2.2.2.1
theorem dX10_calmPair_76 : decode cX10_calmPair 76 = .ok (.ireturn, 1) := dK_b_83.2.2.2.2.1
theorem dK_b_84 : dk_P cX10_practice [(0, (.aload_n 0, 1)), (1, (.iload_n 1, 1)), (2, (.invokevirtual 93, 3)), (5, (.istore_n 2, 1)), (6, (.iload_n 2, 1)), (7, (.ifCond .eq 9, 3)), (10, (.aload_n 0, 1)), (11, (.iload_n 2, 1))] := dk_of 0 (by decide +kernel)
theorem dX10_practice_0 : decode cX10_practice 0 = .ok (.aload_n 0, 1) := dK_b_84.1
theorem dX10_practice_1 : decode cX10_practice 1 = .ok (.iload_n 1, 1) := dK_b_84.2.1
theorem dX10_practice_2 : decode cX10_practice 2 = .ok (.invokevirtual 93, 3) := dK_b_84.2.2.1
theorem dX10_practice_5 : decode cX10_practice 5 = .ok (.istore_n 2, 1) := dK_b_84.2.2.2.1
theorem dX10_practice_6 : decode cX10_practice 6 = .ok (.iload_n 2, 1) := dK_b_84.2.2.2.2.1
theorem dX10_practice_7 : decode cX10_practice 7 = .ok (.ifCond .eq 9, 3) := dK_b_84.2.2.2.2.2.1
theorem dX10_practice_10 : decode cX10_practice 10 = .ok (.aload_n 0, 1) := dK_b_84.2.2.2.2.2.2.1
theorem dX10_practice_11 : decode cX10_practice 11 = .ok (.iload_n 2, 1) := dK_b_84.2.2.2.2.2.2.2.1
theorem dK_b_85 : dk_P cX10_practice [(12, (.invokevirtual 111, 3)), (15, (.ireturn, 1)), (16, (.aload_n 0, 1)), (17, (.iload_n 1, 1)), (18, (.invokevirtual 229, 3)), (21, (.istore_n 3, 1)), (22, (.aload_n 0, 1)), (23, (.aload_n 0, 1))] := dk_of 12 (by decide +kernel)
theorem dX10_practice_12 : decode cX10_practice 12 = .ok (.invokevirtual 111, 3) := dK_b_85.1
theorem dX10_practice_15 : decode cX10_practice 15 = .ok (.ireturn, 1) := dK_b_85.2.1
theorem dX10_practice_16 : decode cX10_practice 16 = .ok (.aload_n 0, 1) := dK_b_85.2.2.1
theorem dX10_practice_17 : decode cX10_practice 17 = .ok (.iload_n 1, 1) := dK_b_85.2.2.2.1
theorem dX10_practice_18 : decode cX10_practice 18 = .ok (.invokevirtual 229, 3) := dK_b_85.2.2.2.2.1
theorem dX10_practice_21 : decode cX10_practice 21 = .ok (.istore_n 3, 1) := dK_b_85.2.2.2.2.2.1
theorem dX10_practice_22 : decode cX10_practice 22 = .ok (.aload_n 0, 1) := dK_b_85.2.2.2.2.2.2.1
theorem dX10_practice_23 : decode cX10_practice 23 = .ok (.aload_n 0, 1) := dK_b_85.2.2.2.2.2.2.2.1
theorem dK_b_86 : dk_P cX10_practice [(24, (.getfield 72, 3)), (27, (.iload_n 1, 1)), (28, (.invokevirtual 169, 3)), (31, (.iload_n 3, 1)), (32, (.invokevirtual 282, 3)), (35, (.aload_n 0, 1)), (36, (.getfield 35, 3)), (39, (.invokevirtual 269, 3))] := dk_of 24 (by decide +kernel)
theorem dX10_practice_24 : decode cX10_practice 24 = .ok (.getfield 72, 3) := dK_b_86.1
theorem dX10_practice_27 : decode cX10_practice 27 = .ok (.iload_n 1, 1) := dK_b_86.2.1
theorem dX10_practice_28 : decode cX10_practice 28 = .ok (.invokevirtual 169, 3) := dK_b_86.2.2.1
theorem dX10_practice_31 : decode cX10_practice 31 = .ok (.iload_n 3, 1) := dK_b_86.2.2.2.1
theorem dX10_practice_32 : decode cX10_practice 32 = .ok (.invokevirtual 282, 3) := dK_b_86.2.2.2.2.1
theorem dX10_practice_35 : decode cX10_practice 35 = .ok (.aload_n 0, 1) := dK_b_86.2.2.2.2.2.1
theorem dX10_practice_36 : decode cX10_practice 36 = .ok (.getfield 35, 3) := dK_b_86.2.2.2.2.2.2.1
theorem dX10_practice_39 : decode cX10_practice 39 = .ok (.invokevirtual 269, 3) := dK_b_86.2.2.2.2.2.2.2.1
theorem dK_b_87 : dk_P cX10_practice [(42, (.lstore 4, 2)), (44, (.bipush (-9), 2)), (46, (.istore 6, 2)), (48, (.iconst 0, 1)), (49, (.istore 7, 2)), (51, (.iload 7, 2)), (53, (.iconst 5, 1)), (54, (.if_icmp .ge 62, 3))] := dk_of 42 (by decide +kernel)
theorem dX10_practice_42 : decode cX10_practice 42 = .ok (.lstore 4, 2) := dK_b_87.1
theorem dX10_practice_44 : decode cX10_practice 44 = .ok (.bipush (-9), 2) := dK_b_87.2.1
theorem dX10_practice_46 : decode cX10_practice 46 = .ok (.istore 6, 2) := dK_b_87.2.2.1
theorem dX10_practice_48 : decode cX10_practice 48 = .ok (.iconst 0, 1) := dK_b_87.2.2.2.1
theorem dX10_practice_49 : decode cX10_practice 49 = .ok (.istore 7, 2) := dK_b_87.2.2.2.2.1
theorem dX10_practice_51 : decode cX10_practice 51 = .ok (.iload 7, 2) := dK_b_87.2.2.2.2.2.1
theorem dX10_practice_53 : decode cX10_practice 53 = .ok (.iconst 5, 1) := dK_b_87.2.2.2.2.2.2.1
theorem dX10_practice_54 : decode cX10_practice 54 = .ok (.if_icmp .ge 62, 3) := dK_b_87.2.2.2.2.2.2.2.1
theorem dK_b_88 : dk_P cX10_practice [(57, (.aload_n 0, 1)), (58, (.getfield 85, 3)), (61, (.aload_n 0, 1)), (62, (.getfield 72, 3)), (65, (.iload_n 1, 1)), (66, (.invokevirtual 169, 3)), (69, (.invokevirtual 277, 3)), (72, (.aload_n 0, 1))] := dk_of 57 (by decide +kernel)
theorem dX10_practice_57 : decode cX10_practice 57 = .ok (.aload_n 0, 1) := dK_b_88.1
theorem dX10_practice_58 : decode cX10_practice 58 = .ok (.getfield 85, 3) := dK_b_88.2.1
theorem dX10_practice_61 : decode cX10_practice 61 = .ok (.aload_n 0, 1) := dK_b_88.2.2.1
theorem dX10_practice_62 : decode cX10_practice 62 = .ok (.getfield 72, 3) := dK_b_88.2.2.2.1
theorem dX10_practice_65 : decode cX10_practice 65 = .ok (.iload_n 1, 1) := dK_b_88.2.2.2.2.1
theorem dX10_practice_66 : decode cX10_practice 66 = .ok (.invokevirtual 169, 3) := dK_b_88.2.2.2.2.2.1
theorem dX10_practice_69 : decode cX10_practice 69 = .ok (.invokevirtual 277, 3) := dK_b_88.2.2.2.2.2.2.1
theorem dX10_practice_72 : decode cX10_practice 72 = .ok (.aload_n 0, 1) := dK_b_88.2.2.2.2.2.2.2.1
theorem dK_b_89 : dk_P cX10_practice [(73, (.iload 7, 2)), (75, (.invokevirtual 395, 3)), (78, (.ifCond .eq 11, 3)), (81, (.aload_n 0, 1)), (82, (.iload_n 3, 1)), (83, (.invokevirtual 398, 3)), (86, (.goto 6, 3)), (89, (.ldc2_w 280, 3))] := dk_of 73 (by decide +kernel)
theorem dX10_practice_73 : decode cX10_practice 73 = .ok (.iload 7, 2) := dK_b_89.1
theorem dX10_practice_75 : decode cX10_practice 75 = .ok (.invokevirtual 395, 3) := dK_b_89.2.1
theorem dX10_practice_78 : decode cX10_practice 78 = .ok (.ifCond .eq 11, 3) := dK_b_89.2.2.1
theorem dX10_practice_81 : decode cX10_practice 81 = .ok (.aload_n 0, 1) := dK_b_89.2.2.2.1
theorem dX10_practice_82 : decode cX10_practice 82 = .ok (.iload_n 3, 1) := dK_b_89.2.2.2.2.1
theorem dX10_practice_83 : decode cX10_practice 83 = .ok (.invokevirtual 398, 3) := dK_b_89.2.2.2.2.2.1
theorem dX10_practice_86 : decode cX10_practice 86 = .ok (.goto 6, 3) := dK_b_89.2.2.2.2.2.2.1
theorem dX10_practice_89 : decode cX10_practice 89 = .ok (.ldc2_w 280, 3) := dK_b_89.2.2.2.2.2.2.2.1
theorem dK_b_90 : dk_P cX10_practice [(92, (.lstore 8, 2)), (94, (.lload 8, 2)), (96, (.lload 4, 2)), (98, (.lcmp, 1)), (99, (.ifCond .le 11, 3)), (102, (.lload 8, 2)), (104, (.lstore 4, 2)), (106, (.iload 7, 2))] := dk_of 92 (by decide +kernel)
theorem dX10_practice_92 : decode cX10_practice 92 = .ok (.lstore 8, 2) := dK_b_90.1
theorem dX10_practice_94 : decode cX10_practice 94 = .ok (.lload 8, 2) := dK_b_90.2.1
theorem dX10_practice_96 : decode cX10_practice 96 = .ok (.lload 4, 2) := dK_b_90.2.2.1
theorem dX10_practice_98 : decode cX10_practice 98 = .ok (.lcmp, 1) := dK_b_90.2.2.2.1
theorem dX10_practice_99 : decode cX10_practice 99 = .ok (.ifCond .le 11, 3) := dK_b_90.2.2.2.2.1
theorem dX10_practice_102 : decode cX10_practice 102 = .ok (.lload 8, 2) := dK_b_90.2.2.2.2.2.1
theorem dX10_practice_104 : decode cX10_practice 104 = .ok (.lstore 4, 2) := dK_b_90.2.2.2.2.2.2.1
theorem dX10_practice_106 : decode cX10_practice 106 = .ok (.iload 7, 2) := dK_b_90.2.2.2.2.2.2.2.1
theorem dK_b_91 : dk_P cX10_practice [(108, (.istore 6, 2)), (110, (.iinc 7 1, 3)), (113, (.goto (-62), 3)), (116, (.iload 6, 2)), (118, (.ireturn, 1))] := dk_of 108 (by decide +kernel)
theorem dX10_practice_108 : decode cX10_practice 108 = .ok (.istore 6, 2) := dK_b_91.1
theorem dX10_practice_110 : decode cX10_practice 110 = .ok (.iinc 7 1, 3) := dK_b_91.2.1
theorem dX10_practice_113 : decode cX10_practice 113 = .ok (.goto (-62), 3) := dK_b_91.2.2.1
theorem dX10_practice_116 : decode cX10_practice 116 = .ok (.iload 6, 2) := dK_b_91.2.2.2.1
theorem dX10_practice_118 : decode cX10_practice 118 = .ok (.ireturn, 1) := dK_b_91.2.2.2.2.1
theorem dK_b_92 : dk_P cX10_meanAt [(0, (.aload_n 0, 1)), (1, (.getfield 35, 3)), (4, (.aload_n 0, 1)), (5, (.getfield 85, 3)), (8, (.aload_n 0, 1)), (9, (.getfield 72, 3)), (12, (.getfield 163, 3)), (15, (.aload_n 0, 1))] := dk_of 0 (by decide +kernel)
theorem dX10_meanAt_0 : decode cX10_meanAt 0 = .ok (.aload_n 0, 1) := dK_b_92.1
theorem dX10_meanAt_1 : decode cX10_meanAt 1 = .ok (.getfield 35, 3) := dK_b_92.2.1
theorem dX10_meanAt_4 : decode cX10_meanAt 4 = .ok (.aload_n 0, 1) := dK_b_92.2.2.1
theorem dX10_meanAt_5 : decode cX10_meanAt 5 = .ok (.getfield 85, 3) := dK_b_92.2.2.2.1
theorem dX10_meanAt_8 : decode cX10_meanAt 8 = .ok (.aload_n 0, 1) := dK_b_92.2.2.2.2.1
theorem dX10_meanAt_9 : decode cX10_meanAt 9 = .ok (.getfield 72, 3) := dK_b_92.2.2.2.2.2.1
theorem dX10_meanAt_12 : decode cX10_meanAt 12 = .ok (.getfield 163, 3) := dK_b_92.2.2.2.2.2.2.1
theorem dX10_meanAt_15 : decode cX10_meanAt 15 = .ok (.aload_n 0, 1) := dK_b_92.2.2.2.2.2.2.2.1
theorem dK_b_93 : dk_P cX10_meanAt [(16, (.getfield 72, 3)), (19, (.getfield 157, 3)), (22, (.iload_n 1, 1)), (23, (.iconst 0, 1)), (24, (.invokevirtual 242, 3)), (27, (.aload_n 0, 1)), (28, (.getfield 35, 3)), (31, (.invokevirtual 269, 3))] := dk_of 16 (by decide +kernel)
theorem dX10_meanAt_16 : decode cX10_meanAt 16 = .ok (.getfield 72, 3) := dK_b_93.1
theorem dX10_meanAt_19 : decode cX10_meanAt 19 = .ok (.getfield 157, 3) := dK_b_93.2.1
theorem dX10_meanAt_22 : decode cX10_meanAt 22 = .ok (.iload_n 1, 1) := dK_b_93.2.2.1
theorem dX10_meanAt_23 : decode cX10_meanAt 23 = .ok (.iconst 0, 1) := dK_b_93.2.2.2.1
theorem dX10_meanAt_24 : decode cX10_meanAt 24 = .ok (.invokevirtual 242, 3) := dK_b_93.2.2.2.2.1
theorem dX10_meanAt_27 : decode cX10_meanAt 27 = .ok (.aload_n 0, 1) := dK_b_93.2.2.2.2.2.1
theorem dX10_meanAt_28 : decode cX10_meanAt 28 = .ok (.getfield 35, 3) := dK_b_93.2.2.2.2.2.2.1
theorem dX10_meanAt_31 : decode cX10_meanAt 31 = .ok (.invokevirtual 269, 3) := dK_b_93.2.2.2.2.2.2.2.1
theorem dK_b_94 : dk_P cX10_meanAt [(34, (.lreturn, 1))] := dk_of 34 (by decide +kernel)
theorem dX10_meanAt_34 : decode cX10_meanAt 34 = .ok (.lreturn, 1) := dK_b_94.1
theorem dK_b_95 : dk_P cX10_practised [(0, (.iload_n 1, 1)), (1, (.tableswitch 95 0 3 #[31, 47, 63, 79], 31)), (32, (.aload_n 0, 1)), (33, (.getfield 85, 3)), (36, (.dup, 1)), (37, (.getfield 189, 3)), (40, (.iconst 1, 1)), (41, (.isub, 1))] := dk_of 0 (by decide +kernel)
theorem dX10_practised_0 : decode cX10_practised 0 = .ok (.iload_n 1, 1) := dK_b_95.1
theorem dX10_practised_1 : decode cX10_practised 1 = .ok (.tableswitch 95 0 3 #[31, 47, 63, 79], 31) := dK_b_95.2.1
theorem dX10_practised_32 : decode cX10_practised 32 = .ok (.aload_n 0, 1) := dK_b_95.2.2.1
theorem dX10_practised_33 : decode cX10_practised 33 = .ok (.getfield 85, 3) := dK_b_95.2.2.2.1
theorem dX10_practised_36 : decode cX10_practised 36 = .ok (.dup, 1) := dK_b_95.2.2.2.2.1
theorem dX10_practised_37 : decode cX10_practised 37 = .ok (.getfield 189, 3) := dK_b_95.2.2.2.2.2.1
theorem dX10_practised_40 : decode cX10_practised 40 = .ok (.iconst 1, 1) := dK_b_95.2.2.2.2.2.2.1
theorem dX10_practised_41 : decode cX10_practised 41 = .ok (.isub, 1) := dK_b_95.2.2.2.2.2.2.2.1
theorem dK_b_96 : dk_P cX10_practised [(42, (.putfield 189, 3)), (45, (.goto 64, 3)), (48, (.aload_n 0, 1)), (49, (.getfield 85, 3)), (52, (.dup, 1)), (53, (.getfield 186, 3)), (56, (.iconst 1, 1)), (57, (.isub, 1))] := dk_of 42 (by decide +kernel)
theorem dX10_practised_42 : decode cX10_practised 42 = .ok (.putfield 189, 3) := dK_b_96.1
theorem dX10_practised_45 : decode cX10_practised 45 = .ok (.goto 64, 3) := dK_b_96.2.1
theorem dX10_practised_48 : decode cX10_practised 48 = .ok (.aload_n 0, 1) := dK_b_96.2.2.1
theorem dX10_practised_49 : decode cX10_practised 49 = .ok (.getfield 85, 3) := dK_b_96.2.2.2.1
theorem dX10_practised_52 : decode cX10_practised 52 = .ok (.dup, 1) := dK_b_96.2.2.2.2.1
theorem dX10_practised_53 : decode cX10_practised 53 = .ok (.getfield 186, 3) := dK_b_96.2.2.2.2.2.1
theorem dX10_practised_56 : decode cX10_practised 56 = .ok (.iconst 1, 1) := dK_b_96.2.2.2.2.2.2.1
theorem dX10_practised_57 : decode cX10_practised 57 = .ok (.isub, 1) := dK_b_96.2.2.2.2.2.2.2.1
theorem dK_b_97 : dk_P cX10_practised [(58, (.putfield 186, 3)), (61, (.goto 48, 3)), (64, (.aload_n 0, 1)), (65, (.getfield 85, 3)), (68, (.dup, 1)), (69, (.getfield 192, 3)), (72, (.iconst 1, 1)), (73, (.iadd, 1))] := dk_of 58 (by decide +kernel)
theorem dX10_practised_58 : decode cX10_practised 58 = .ok (.putfield 186, 3) := dK_b_97.1
theorem dX10_practised_61 : decode cX10_practised 61 = .ok (.goto 48, 3) := dK_b_97.2.1
theorem dX10_practised_64 : decode cX10_practised 64 = .ok (.aload_n 0, 1) := dK_b_97.2.2.1
theorem dX10_practised_65 : decode cX10_practised 65 = .ok (.getfield 85, 3) := dK_b_97.2.2.2.1
theorem dX10_practised_68 : decode cX10_practised 68 = .ok (.dup, 1) := dK_b_97.2.2.2.2.1
theorem dX10_practised_69 : decode cX10_practised 69 = .ok (.getfield 192, 3) := dK_b_97.2.2.2.2.2.1
theorem dX10_practised_72 : decode cX10_practised 72 = .ok (.iconst 1, 1) := dK_b_97.2.2.2.2.2.2.1
theorem dX10_practised_73 : decode cX10_practised 73 = .ok (.iadd, 1) := dK_b_97.2.2.2.2.2.2.2.1
theorem dK_b_98 : dk_P cX10_practised [(74, (.putfield 192, 3)), (77, (.goto 32, 3)), (80, (.aload_n 0, 1)), (81, (.getfield 85, 3)), (84, (.dup, 1)), (85, (.getfield 195, 3)), (88, (.iconst 1, 1)), (89, (.iadd, 1))] := dk_of 74 (by decide +kernel)
theorem dX10_practised_74 : decode cX10_practised 74 = .ok (.putfield 192, 3) := dK_b_98.1
theorem dX10_practised_77 : decode cX10_practised 77 = .ok (.goto 32, 3) := dK_b_98.2.1
theorem dX10_practised_80 : decode cX10_practised 80 = .ok (.aload_n 0, 1) := dK_b_98.2.2.1
theorem dX10_practised_81 : decode cX10_practised 81 = .ok (.getfield 85, 3) := dK_b_98.2.2.2.1
theorem dX10_practised_84 : decode cX10_practised 84 = .ok (.dup, 1) := dK_b_98.2.2.2.2.1
theorem dX10_practised_85 : decode cX10_practised 85 = .ok (.getfield 195, 3) := dK_b_98.2.2.2.2.2.1
theorem dX10_practised_88 : decode cX10_practised 88 = .ok (.iconst 1, 1) := dK_b_98.2.2.2.2.2.2.1
theorem dX10_practised_89 : decode cX10_practised 89 = .ok (.iadd, 1) := dK_b_98.2.2.2.2.2.2.2.1
theorem dK_b_99 : dk_P cX10_practised [(90, (.putfield 195, 3)), (93, (.goto 16, 3)), (96, (.aload_n 0, 1)), (97, (.getfield 85, 3)), (100, (.dup, 1)), (101, (.getfield 195, 3)), (104, (.iconst 1, 1)), (105, (.isub, 1))] := dk_of 90 (by decide +kernel)
theorem dX10_practised_90 : decode cX10_practised 90 = .ok (.putfield 195, 3) := dK_b_99.1
theorem dX10_practised_93 : decode cX10_practised 93 = .ok (.goto 16, 3) := dK_b_99.2.1
theorem dX10_practised_96 : decode cX10_practised 96 = .ok (.aload_n 0, 1) := dK_b_99.2.2.1
theorem dX10_practised_97 : decode cX10_practised 97 = .ok (.getfield 85, 3) := dK_b_99.2.2.2.1
theorem dX10_practised_100 : decode cX10_practised 100 = .ok (.dup, 1) := dK_b_99.2.2.2.2.1
theorem dX10_practised_101 : decode cX10_practised 101 = .ok (.getfield 195, 3) := dK_b_99.2.2.2.2.2.1
theorem dX10_practised_104 : decode cX10_practised 104 = .ok (.iconst 1, 1) := dK_b_99.2.2.2.2.2.2.1
theorem dX10_practised_105 : decode cX10_practised 105 = .ok (.isub, 1) := dK_b_99.2.2.2.2.2.2.2.1
theorem dK_b_100 : dk_P cX10_practised [(106, (.putfield 195, 3)), (109, (.aload_n 0, 1)), (110, (.getfield 85, 3)), (113, (.getfield 189, 3)), (116, (.ifCond .lt 50, 3)), (119, (.aload_n 0, 1)), (120, (.getfield 85, 3)), (123, (.getfield 186, 3))] := dk_of 106 (by decide +kernel)
theorem dX10_practised_106 : decode cX10_practised 106 = .ok (.putfield 195, 3) := dK_b_100.1
theorem dX10_practised_109 : decode cX10_practised 109 = .ok (.aload_n 0, 1) := dK_b_100.2.1
theorem dX10_practised_110 : decode cX10_practised 110 = .ok (.getfield 85, 3) := dK_b_100.2.2.1
theorem dX10_practised_113 : decode cX10_practised 113 = .ok (.getfield 189, 3) := dK_b_100.2.2.2.1
theorem dX10_practised_116 : decode cX10_practised 116 = .ok (.ifCond .lt 50, 3) := dK_b_100.2.2.2.2.1
theorem dX10_practised_119 : decode cX10_practised 119 = .ok (.aload_n 0, 1) := dK_b_100.2.2.2.2.2.1
theorem dX10_practised_120 : decode cX10_practised 120 = .ok (.getfield 85, 3) := dK_b_100.2.2.2.2.2.2.1
theorem dX10_practised_123 : decode cX10_practised 123 = .ok (.getfield 186, 3) := dK_b_100.2.2.2.2.2.2.2.1
theorem dK_b_101 : dk_P cX10_practised [(126, (.ifCond .lt 40, 3)), (129, (.aload_n 0, 1)), (130, (.getfield 85, 3)), (133, (.getfield 192, 3)), (136, (.bipush 99, 2)), (138, (.if_icmp .gt 28, 3)), (141, (.aload_n 0, 1)), (142, (.getfield 85, 3))] := dk_of 126 (by decide +kernel)
theorem dX10_practised_126 : decode cX10_practised 126 = .ok (.ifCond .lt 40, 3) := dK_b_101.1
theorem dX10_practised_129 : decode cX10_practised 129 = .ok (.aload_n 0, 1) := dK_b_101.2.1
theorem dX10_practised_130 : decode cX10_practised 130 = .ok (.getfield 85, 3) := dK_b_101.2.2.1
theorem dX10_practised_133 : decode cX10_practised 133 = .ok (.getfield 192, 3) := dK_b_101.2.2.2.1
theorem dX10_practised_136 : decode cX10_practised 136 = .ok (.bipush 99, 2) := dK_b_101.2.2.2.2.1
theorem dX10_practised_138 : decode cX10_practised 138 = .ok (.if_icmp .gt 28, 3) := dK_b_101.2.2.2.2.2.1
theorem dX10_practised_141 : decode cX10_practised 141 = .ok (.aload_n 0, 1) := dK_b_101.2.2.2.2.2.2.1
theorem dX10_practised_142 : decode cX10_practised 142 = .ok (.getfield 85, 3) := dK_b_101.2.2.2.2.2.2.2.1
theorem dK_b_102 : dk_P cX10_practised [(145, (.getfield 195, 3)), (148, (.ifCond .lt 18, 3)), (151, (.aload_n 0, 1)), (152, (.getfield 85, 3)), (155, (.getfield 195, 3)), (158, (.iconst 4, 1)), (159, (.if_icmp .gt 7, 3)), (162, (.iconst 1, 1))] := dk_of 145 (by decide +kernel)
theorem dX10_practised_145 : decode cX10_practised 145 = .ok (.getfield 195, 3) := dK_b_102.1
theorem dX10_practised_148 : decode cX10_practised 148 = .ok (.ifCond .lt 18, 3) := dK_b_102.2.1
theorem dX10_practised_151 : decode cX10_practised 151 = .ok (.aload_n 0, 1) := dK_b_102.2.2.1
theorem dX10_practised_152 : decode cX10_practised 152 = .ok (.getfield 85, 3) := dK_b_102.2.2.2.1
theorem dX10_practised_155 : decode cX10_practised 155 = .ok (.getfield 195, 3) := dK_b_102.2.2.2.2.1
theorem dX10_practised_158 : decode cX10_practised 158 = .ok (.iconst 4, 1) := dK_b_102.2.2.2.2.2.1
theorem dX10_practised_159 : decode cX10_practised 159 = .ok (.if_icmp .gt 7, 3) := dK_b_102.2.2.2.2.2.2.1
theorem dX10_practised_162 : decode cX10_practised 162 = .ok (.iconst 1, 1) := dK_b_102.2.2.2.2.2.2.2.1
theorem dK_b_103 : dk_P cX10_practised [(163, (.goto 4, 3)), (166, (.iconst 0, 1)), (167, (.ireturn, 1))] := dk_of 163 (by decide +kernel)
theorem dX10_practised_163 : decode cX10_practised 163 = .ok (.goto 4, 3) := dK_b_103.1
theorem dX10_practised_166 : decode cX10_practised 166 = .ok (.iconst 0, 1) := dK_b_103.2.1
theorem dX10_practised_167 : decode cX10_practised 167 = .ok (.ireturn, 1) := dK_b_103.2.2.1
theorem dK_b_104 : dk_P cX10_bestRun [(0, (.aload_n 0, 1)), (1, (.iload_n 1, 1)), (2, (.invokevirtual 93, 3)), (5, (.istore_n 2, 1)), (6, (.iload_n 2, 1)), (7, (.ifCond .eq 9, 3)), (10, (.aload_n 0, 1)), (11, (.iload_n 2, 1))] := dk_of 0 (by decide +kernel)
theorem dX10_bestRun_0 : decode cX10_bestRun 0 = .ok (.aload_n 0, 1) := dK_b_104.1
theorem dX10_bestRun_1 : decode cX10_bestRun 1 = .ok (.iload_n 1, 1) := dK_b_104.2.1
theorem dX10_bestRun_2 : decode cX10_bestRun 2 = .ok (.invokevirtual 93, 3) := dK_b_104.2.2.1
theorem dX10_bestRun_5 : decode cX10_bestRun 5 = .ok (.istore_n 2, 1) := dK_b_104.2.2.2.1
theorem dX10_bestRun_6 : decode cX10_bestRun 6 = .ok (.iload_n 2, 1) := dK_b_104.2.2.2.2.1
theorem dX10_bestRun_7 : decode cX10_bestRun 7 = .ok (.ifCond .eq 9, 3) := dK_b_104.2.2.2.2.2.1
theorem dX10_bestRun_10 : decode cX10_bestRun 10 = .ok (.aload_n 0, 1) := dK_b_104.2.2.2.2.2.2.1
theorem dX10_bestRun_11 : decode cX10_bestRun 11 = .ok (.iload_n 2, 1) := dK_b_104.2.2.2.2.2.2.2.1
theorem dK_b_105 : dk_P cX10_bestRun [(12, (.invokevirtual 111, 3)), (15, (.ireturn, 1)), (16, (.aload_n 0, 1)), (17, (.getfield 72, 3)), (20, (.iload_n 1, 1)), (21, (.invokevirtual 169, 3)), (24, (.astore_n 3, 1)), (25, (.iconst 4, 1))] := dk_of 12 (by decide +kernel)
theorem dX10_bestRun_12 : decode cX10_bestRun 12 = .ok (.invokevirtual 111, 3) := dK_b_105.1
theorem dX10_bestRun_15 : decode cX10_bestRun 15 = .ok (.ireturn, 1) := dK_b_105.2.1
theorem dX10_bestRun_16 : decode cX10_bestRun 16 = .ok (.aload_n 0, 1) := dK_b_105.2.2.1
theorem dX10_bestRun_17 : decode cX10_bestRun 17 = .ok (.getfield 72, 3) := dK_b_105.2.2.2.1
theorem dX10_bestRun_20 : decode cX10_bestRun 20 = .ok (.iload_n 1, 1) := dK_b_105.2.2.2.2.1
theorem dX10_bestRun_21 : decode cX10_bestRun 21 = .ok (.invokevirtual 169, 3) := dK_b_105.2.2.2.2.2.1
theorem dX10_bestRun_24 : decode cX10_bestRun 24 = .ok (.astore_n 3, 1) := dK_b_105.2.2.2.2.2.2.1
theorem dX10_bestRun_25 : decode cX10_bestRun 25 = .ok (.iconst 4, 1) := dK_b_105.2.2.2.2.2.2.2.1
theorem dK_b_106 : dk_P cX10_bestRun [(26, (.istore 4, 2)), (28, (.ldc2_w 280, 3)), (31, (.lstore 5, 2)), (33, (.iconst 4, 1)), (34, (.istore 7, 2)), (36, (.iload 7, 2)), (38, (.bipush 20, 2)), (40, (.if_icmp .gt 68, 3))] := dk_of 26 (by decide +kernel)
theorem dX10_bestRun_26 : decode cX10_bestRun 26 = .ok (.istore 4, 2) := dK_b_106.1
theorem dX10_bestRun_28 : decode cX10_bestRun 28 = .ok (.ldc2_w 280, 3) := dK_b_106.2.1
theorem dX10_bestRun_31 : decode cX10_bestRun 31 = .ok (.lstore 5, 2) := dK_b_106.2.2.1
theorem dX10_bestRun_33 : decode cX10_bestRun 33 = .ok (.iconst 4, 1) := dK_b_106.2.2.2.1
theorem dX10_bestRun_34 : decode cX10_bestRun 34 = .ok (.istore 7, 2) := dK_b_106.2.2.2.2.1
theorem dX10_bestRun_36 : decode cX10_bestRun 36 = .ok (.iload 7, 2) := dK_b_106.2.2.2.2.2.1
theorem dX10_bestRun_38 : decode cX10_bestRun 38 = .ok (.bipush 20, 2) := dK_b_106.2.2.2.2.2.2.1
theorem dX10_bestRun_40 : decode cX10_bestRun 40 = .ok (.if_icmp .gt 68, 3) := dK_b_106.2.2.2.2.2.2.2.1
theorem dK_b_107 : dk_P cX10_bestRun [(43, (.aload_n 0, 1)), (44, (.getfield 35, 3)), (47, (.aload_n 3, 1)), (48, (.iload 7, 2)), (50, (.aload_n 0, 1)), (51, (.getfield 72, 3)), (54, (.getfield 157, 3)), (57, (.aload_n 3, 1))] := dk_of 43 (by decide +kernel)
theorem dX10_bestRun_43 : decode cX10_bestRun 43 = .ok (.aload_n 0, 1) := dK_b_107.1
theorem dX10_bestRun_44 : decode cX10_bestRun 44 = .ok (.getfield 35, 3) := dK_b_107.2.1
theorem dX10_bestRun_47 : decode cX10_bestRun 47 = .ok (.aload_n 3, 1) := dK_b_107.2.2.1
theorem dX10_bestRun_48 : decode cX10_bestRun 48 = .ok (.iload 7, 2) := dK_b_107.2.2.2.1
theorem dX10_bestRun_50 : decode cX10_bestRun 50 = .ok (.aload_n 0, 1) := dK_b_107.2.2.2.2.1
theorem dX10_bestRun_51 : decode cX10_bestRun 51 = .ok (.getfield 72, 3) := dK_b_107.2.2.2.2.2.1
theorem dX10_bestRun_54 : decode cX10_bestRun 54 = .ok (.getfield 157, 3) := dK_b_107.2.2.2.2.2.2.1
theorem dX10_bestRun_57 : decode cX10_bestRun 57 = .ok (.aload_n 3, 1) := dK_b_107.2.2.2.2.2.2.2.1
theorem dK_b_108 : dk_P cX10_bestRun [(58, (.getfield 173, 3)), (61, (.aload_n 3, 1)), (62, (.invokevirtual 354, 3)), (65, (.iconst 0, 1)), (66, (.invokevirtual 242, 3)), (69, (.aload_n 0, 1)), (70, (.getfield 35, 3)), (73, (.invokevirtual 269, 3))] := dk_of 58 (by decide +kernel)
theorem dX10_bestRun_58 : decode cX10_bestRun 58 = .ok (.getfield 173, 3) := dK_b_108.1
theorem dX10_bestRun_61 : decode cX10_bestRun 61 = .ok (.aload_n 3, 1) := dK_b_108.2.1
theorem dX10_bestRun_62 : decode cX10_bestRun 62 = .ok (.invokevirtual 354, 3) := dK_b_108.2.2.1
theorem dX10_bestRun_65 : decode cX10_bestRun 65 = .ok (.iconst 0, 1) := dK_b_108.2.2.2.1
theorem dX10_bestRun_66 : decode cX10_bestRun 66 = .ok (.invokevirtual 242, 3) := dK_b_108.2.2.2.2.1
theorem dX10_bestRun_69 : decode cX10_bestRun 69 = .ok (.aload_n 0, 1) := dK_b_108.2.2.2.2.2.1
theorem dX10_bestRun_70 : decode cX10_bestRun 70 = .ok (.getfield 35, 3) := dK_b_108.2.2.2.2.2.2.1
theorem dX10_bestRun_73 : decode cX10_bestRun 73 = .ok (.invokevirtual 269, 3) := dK_b_108.2.2.2.2.2.2.2.1
theorem dK_b_109 : dk_P cX10_bestRun [(76, (.iconst 2, 1)), (77, (.bipush 20, 2)), (79, (.iload 7, 2)), (81, (.isub, 1)), (82, (.imul, 1)), (83, (.lshl, 1)), (84, (.lstore 8, 2)), (86, (.lload 8, 2))] := dk_of 76 (by decide +kernel)
theorem dX10_bestRun_76 : decode cX10_bestRun 76 = .ok (.iconst 2, 1) := dK_b_109.1
theorem dX10_bestRun_77 : decode cX10_bestRun 77 = .ok (.bipush 20, 2) := dK_b_109.2.1
theorem dX10_bestRun_79 : decode cX10_bestRun 79 = .ok (.iload 7, 2) := dK_b_109.2.2.1
theorem dX10_bestRun_81 : decode cX10_bestRun 81 = .ok (.isub, 1) := dK_b_109.2.2.2.1
theorem dX10_bestRun_82 : decode cX10_bestRun 82 = .ok (.imul, 1) := dK_b_109.2.2.2.2.1
theorem dX10_bestRun_83 : decode cX10_bestRun 83 = .ok (.lshl, 1) := dK_b_109.2.2.2.2.2.1
theorem dX10_bestRun_84 : decode cX10_bestRun 84 = .ok (.lstore 8, 2) := dK_b_109.2.2.2.2.2.2.1
theorem dX10_bestRun_86 : decode cX10_bestRun 86 = .ok (.lload 8, 2) := dK_b_109.2.2.2.2.2.2.2.1
theorem dK_b_110 : dk_P cX10_bestRun [(88, (.lload 5, 2)), (90, (.lcmp, 1)), (91, (.ifCond .le 11, 3)), (94, (.lload 8, 2)), (96, (.lstore 5, 2)), (98, (.iload 7, 2)), (100, (.istore 4, 2)), (102, (.iinc 7 1, 3))] := dk_of 88 (by decide +kernel)
theorem dX10_bestRun_88 : decode cX10_bestRun 88 = .ok (.lload 5, 2) := dK_b_110.1
theorem dX10_bestRun_90 : decode cX10_bestRun 90 = .ok (.lcmp, 1) := dK_b_110.2.1
theorem dX10_bestRun_91 : decode cX10_bestRun 91 = .ok (.ifCond .le 11, 3) := dK_b_110.2.2.1
theorem dX10_bestRun_94 : decode cX10_bestRun 94 = .ok (.lload 8, 2) := dK_b_110.2.2.2.1
theorem dX10_bestRun_96 : decode cX10_bestRun 96 = .ok (.lstore 5, 2) := dK_b_110.2.2.2.2.1
theorem dX10_bestRun_98 : decode cX10_bestRun 98 = .ok (.iload 7, 2) := dK_b_110.2.2.2.2.2.1
theorem dX10_bestRun_100 : decode cX10_bestRun 100 = .ok (.istore 4, 2) := dK_b_110.2.2.2.2.2.2.1
theorem dX10_bestRun_102 : decode cX10_bestRun 102 = .ok (.iinc 7 1, 3) := dK_b_110.2.2.2.2.2.2.2.1
theorem dK_b_111 : dk_P cX10_bestRun [(105, (.goto (-69), 3)), (108, (.iload 4, 2)), (110, (.ireturn, 1))] := dk_of 105 (by decide +kernel)
theorem dX10_bestRun_105 : decode cX10_bestRun 105 = .ok (.goto (-69), 3) := dK_b_111.1
theorem dX10_bestRun_108 : decode cX10_bestRun 108 = .ok (.iload 4, 2) := dK_b_111.2.1
theorem dX10_bestRun_110 : decode cX10_bestRun 110 = .ok (.ireturn, 1) := dK_b_111.2.2.1
theorem dK_b_112 : dk_P cX10_markIn [(0, (.aload_n 0, 1)), (1, (.iload_n 1, 1)), (2, (.invokevirtual 93, 3)), (5, (.iload_n 2, 1)), (6, (.bipush (-9), 2)), (8, (.bipush 9, 2)), (10, (.invokestatic 104, 3)), (13, (.invokestatic 97, 3))] := dk_of 0 (by decide +kernel)
theorem dX10_markIn_0 : decode cX10_markIn 0 = .ok (.aload_n 0, 1) := dK_b_112.1
theorem dX10_markIn_1 : decode cX10_markIn 1 = .ok (.iload_n 1, 1) := dK_b_112.2.1
theorem dX10_markIn_2 : decode cX10_markIn 2 = .ok (.invokevirtual 93, 3) := dK_b_112.2.2.1
theorem dX10_markIn_5 : decode cX10_markIn 5 = .ok (.iload_n 2, 1) := dK_b_112.2.2.2.1
theorem dX10_markIn_6 : decode cX10_markIn 6 = .ok (.bipush (-9), 2) := dK_b_112.2.2.2.2.1
theorem dX10_markIn_8 : decode cX10_markIn 8 = .ok (.bipush 9, 2) := dK_b_112.2.2.2.2.2.1
theorem dX10_markIn_10 : decode cX10_markIn 10 = .ok (.invokestatic 104, 3) := dK_b_112.2.2.2.2.2.2.1
theorem dX10_markIn_13 : decode cX10_markIn 13 = .ok (.invokestatic 97, 3) := dK_b_112.2.2.2.2.2.2.2.1
theorem dK_b_113 : dk_P cX10_markIn [(16, (.istore_n 3, 1)), (17, (.iload_n 3, 1)), (18, (.ifCond .eq 9, 3)), (21, (.aload_n 0, 1)), (22, (.iload_n 3, 1)), (23, (.invokevirtual 111, 3)), (26, (.ireturn, 1)), (27, (.aload_n 0, 1))] := dk_of 16 (by decide +kernel)
theorem dX10_markIn_16 : decode cX10_markIn 16 = .ok (.istore_n 3, 1) := dK_b_113.1
theorem dX10_markIn_17 : decode cX10_markIn 17 = .ok (.iload_n 3, 1) := dK_b_113.2.1
theorem dX10_markIn_18 : decode cX10_markIn 18 = .ok (.ifCond .eq 9, 3) := dK_b_113.2.2.1
theorem dX10_markIn_21 : decode cX10_markIn 21 = .ok (.aload_n 0, 1) := dK_b_113.2.2.2.1
theorem dX10_markIn_22 : decode cX10_markIn 22 = .ok (.iload_n 3, 1) := dK_b_113.2.2.2.2.1
theorem dX10_markIn_23 : decode cX10_markIn 23 = .ok (.invokevirtual 111, 3) := dK_b_113.2.2.2.2.2.1
theorem dX10_markIn_26 : decode cX10_markIn 26 = .ok (.ireturn, 1) := dK_b_113.2.2.2.2.2.2.1
theorem dX10_markIn_27 : decode cX10_markIn 27 = .ok (.aload_n 0, 1) := dK_b_113.2.2.2.2.2.2.2.1
theorem dK_b_114 : dk_P cX10_markIn [(28, (.getfield 72, 3)), (31, (.iload_n 1, 1)), (32, (.invokevirtual 169, 3)), (35, (.astore 4, 2)), (37, (.iconst 0, 1)), (38, (.sipush 2400, 3)), (41, (.aload 4, 2)), (43, (.aload_n 0, 1))] := dk_of 28 (by decide +kernel)
theorem dX10_markIn_28 : decode cX10_markIn 28 = .ok (.getfield 72, 3) := dK_b_114.1
theorem dX10_markIn_31 : decode cX10_markIn 31 = .ok (.iload_n 1, 1) := dK_b_114.2.1
theorem dX10_markIn_32 : decode cX10_markIn 32 = .ok (.invokevirtual 169, 3) := dK_b_114.2.2.1
theorem dX10_markIn_35 : decode cX10_markIn 35 = .ok (.astore 4, 2) := dK_b_114.2.2.2.1
theorem dX10_markIn_37 : decode cX10_markIn 37 = .ok (.iconst 0, 1) := dK_b_114.2.2.2.2.1
theorem dX10_markIn_38 : decode cX10_markIn 38 = .ok (.sipush 2400, 3) := dK_b_114.2.2.2.2.2.1
theorem dX10_markIn_41 : decode cX10_markIn 41 = .ok (.aload 4, 2) := dK_b_114.2.2.2.2.2.2.1
theorem dX10_markIn_43 : decode cX10_markIn 43 = .ok (.aload_n 0, 1) := dK_b_114.2.2.2.2.2.2.2.1
theorem dK_b_115 : dk_P cX10_markIn [(44, (.getfield 72, 3)), (47, (.getfield 163, 3)), (50, (.iload_n 2, 1)), (51, (.invokevirtual 232, 3)), (54, (.aload 4, 2)), (56, (.getfield 173, 3)), (59, (.aload 4, 2)), (61, (.invokevirtual 354, 3))] := dk_of 44 (by decide +kernel)
theorem dX10_markIn_44 : decode cX10_markIn 44 = .ok (.getfield 72, 3) := dK_b_115.1
theorem dX10_markIn_47 : decode cX10_markIn 47 = .ok (.getfield 163, 3) := dK_b_115.2.1
theorem dX10_markIn_50 : decode cX10_markIn 50 = .ok (.iload_n 2, 1) := dK_b_115.2.2.1
theorem dX10_markIn_51 : decode cX10_markIn 51 = .ok (.invokevirtual 232, 3) := dK_b_115.2.2.2.1
theorem dX10_markIn_54 : decode cX10_markIn 54 = .ok (.aload 4, 2) := dK_b_115.2.2.2.2.1
theorem dX10_markIn_56 : decode cX10_markIn 56 = .ok (.getfield 173, 3) := dK_b_115.2.2.2.2.2.1
theorem dX10_markIn_59 : decode cX10_markIn 59 = .ok (.aload 4, 2) := dK_b_115.2.2.2.2.2.2.1
theorem dX10_markIn_61 : decode cX10_markIn 61 = .ok (.invokevirtual 354, 3) := dK_b_115.2.2.2.2.2.2.2.1
theorem dK_b_116 : dk_P cX10_markIn [(64, (.iadd, 1)), (65, (.invokestatic 291, 3)), (68, (.invokestatic 286, 3)), (71, (.ireturn, 1))] := dk_of 64 (by decide +kernel)
theorem dX10_markIn_64 : decode cX10_markIn 64 = .ok (.iadd, 1) := dK_b_116.1
theorem dX10_markIn_65 : decode cX10_markIn 65 = .ok (.invokestatic 291, 3) := dK_b_116.2.1
theorem dX10_markIn_68 : decode cX10_markIn 68 = .ok (.invokestatic 286, 3) := dK_b_116.2.2.1
theorem dX10_markIn_71 : decode cX10_markIn 71 = .ok (.ireturn, 1) := dK_b_116.2.2.2.1
theorem dK_b_117 : dk_P cX10_fouled [(0, (.aload_n 0, 1)), (1, (.iload_n 1, 1)), (2, (.invokevirtual 93, 3)), (5, (.iload_n 2, 1)), (6, (.invokestatic 246, 3)), (9, (.invokestatic 97, 3)), (12, (.istore_n 3, 1)), (13, (.iload_n 3, 1))] := dk_of 0 (by decide +kernel)
theorem dX10_fouled_0 : decode cX10_fouled 0 = .ok (.aload_n 0, 1) := dK_b_117.1
theorem dX10_fouled_1 : decode cX10_fouled 1 = .ok (.iload_n 1, 1) := dK_b_117.2.1
theorem dX10_fouled_2 : decode cX10_fouled 2 = .ok (.invokevirtual 93, 3) := dK_b_117.2.2.1
theorem dX10_fouled_5 : decode cX10_fouled 5 = .ok (.iload_n 2, 1) := dK_b_117.2.2.2.1
theorem dX10_fouled_6 : decode cX10_fouled 6 = .ok (.invokestatic 246, 3) := dK_b_117.2.2.2.2.1
theorem dX10_fouled_9 : decode cX10_fouled 9 = .ok (.invokestatic 97, 3) := dK_b_117.2.2.2.2.2.1
theorem dX10_fouled_12 : decode cX10_fouled 12 = .ok (.istore_n 3, 1) := dK_b_117.2.2.2.2.2.2.1
theorem dX10_fouled_13 : decode cX10_fouled 13 = .ok (.iload_n 3, 1) := dK_b_117.2.2.2.2.2.2.2.1
theorem dK_b_118 : dk_P cX10_fouled [(14, (.ifCond .eq 14, 3)), (17, (.ldc2_w 249, 3)), (20, (.aload_n 0, 1)), (21, (.iload_n 3, 1)), (22, (.invokevirtual 111, 3)), (25, (.i2l, 1)), (26, (.lsub, 1)), (27, (.lreturn, 1))] := dk_of 14 (by decide +kernel)
theorem dX10_fouled_14 : decode cX10_fouled 14 = .ok (.ifCond .eq 14, 3) := dK_b_118.1
theorem dX10_fouled_17 : decode cX10_fouled 17 = .ok (.ldc2_w 249, 3) := dK_b_118.2.1
theorem dX10_fouled_20 : decode cX10_fouled 20 = .ok (.aload_n 0, 1) := dK_b_118.2.2.1
theorem dX10_fouled_21 : decode cX10_fouled 21 = .ok (.iload_n 3, 1) := dK_b_118.2.2.2.1
theorem dX10_fouled_22 : decode cX10_fouled 22 = .ok (.invokevirtual 111, 3) := dK_b_118.2.2.2.2.1
theorem dX10_fouled_25 : decode cX10_fouled 25 = .ok (.i2l, 1) := dK_b_118.2.2.2.2.2.1
theorem dX10_fouled_26 : decode cX10_fouled 26 = .ok (.lsub, 1) := dK_b_118.2.2.2.2.2.2.1
theorem dX10_fouled_27 : decode cX10_fouled 27 = .ok (.lreturn, 1) := dK_b_118.2.2.2.2.2.2.2.1
theorem dK_b_119 : dk_P cX10_fouled [(28, (.iconst 0, 1)), (29, (.istore 4, 2)), (31, (.iconst 0, 1)), (32, (.istore 5, 2)), (34, (.iconst 0, 1)), (35, (.istore 6, 2)), (37, (.iload 6, 2)), (39, (.aload_n 0, 1))] := dk_of 28 (by decide +kernel)
theorem dX10_fouled_28 : decode cX10_fouled 28 = .ok (.iconst 0, 1) := dK_b_119.1
theorem dX10_fouled_29 : decode cX10_fouled 29 = .ok (.istore 4, 2) := dK_b_119.2.1
theorem dX10_fouled_31 : decode cX10_fouled 31 = .ok (.iconst 0, 1) := dK_b_119.2.2.1
theorem dX10_fouled_32 : decode cX10_fouled 32 = .ok (.istore 5, 2) := dK_b_119.2.2.2.1
theorem dX10_fouled_34 : decode cX10_fouled 34 = .ok (.iconst 0, 1) := dK_b_119.2.2.2.2.1
theorem dX10_fouled_35 : decode cX10_fouled 35 = .ok (.istore 6, 2) := dK_b_119.2.2.2.2.2.1
theorem dX10_fouled_37 : decode cX10_fouled 37 = .ok (.iload 6, 2) := dK_b_119.2.2.2.2.2.2.1
theorem dX10_fouled_39 : decode cX10_fouled 39 = .ok (.aload_n 0, 1) := dK_b_119.2.2.2.2.2.2.2.1
theorem dK_b_120 : dk_P cX10_fouled [(40, (.getfield 72, 3)), (43, (.getfield 160, 3)), (46, (.if_icmp .ge 66, 3)), (49, (.aload_n 0, 1)), (50, (.getfield 72, 3)), (53, (.getfield 297, 3)), (56, (.iload 6, 2)), (58, (.iaload, 1))] := dk_of 40 (by decide +kernel)
theorem dX10_fouled_40 : decode cX10_fouled 40 = .ok (.getfield 72, 3) := dK_b_120.1
theorem dX10_fouled_43 : decode cX10_fouled 43 = .ok (.getfield 160, 3) := dK_b_120.2.1
theorem dX10_fouled_46 : decode cX10_fouled 46 = .ok (.if_icmp .ge 66, 3) := dK_b_120.2.2.1
theorem dX10_fouled_49 : decode cX10_fouled 49 = .ok (.aload_n 0, 1) := dK_b_120.2.2.2.1
theorem dX10_fouled_50 : decode cX10_fouled 50 = .ok (.getfield 72, 3) := dK_b_120.2.2.2.2.1
theorem dX10_fouled_53 : decode cX10_fouled 53 = .ok (.getfield 297, 3) := dK_b_120.2.2.2.2.2.1
theorem dX10_fouled_56 : decode cX10_fouled 56 = .ok (.iload 6, 2) := dK_b_120.2.2.2.2.2.2.1
theorem dX10_fouled_58 : decode cX10_fouled 58 = .ok (.iaload, 1) := dK_b_120.2.2.2.2.2.2.2.1
theorem dK_b_121 : dk_P cX10_fouled [(59, (.iload_n 1, 1)), (60, (.if_icmp .ne 46, 3)), (63, (.aload_n 0, 1)), (64, (.getfield 72, 3)), (67, (.getfield 303, 3)), (70, (.iload 6, 2)), (72, (.iaload, 1)), (73, (.bipush (-8), 2))] := dk_of 59 (by decide +kernel)
theorem dX10_fouled_59 : decode cX10_fouled 59 = .ok (.iload_n 1, 1) := dK_b_121.1
theorem dX10_fouled_60 : decode cX10_fouled 60 = .ok (.if_icmp .ne 46, 3) := dK_b_121.2.1
theorem dX10_fouled_63 : decode cX10_fouled 63 = .ok (.aload_n 0, 1) := dK_b_121.2.2.1
theorem dX10_fouled_64 : decode cX10_fouled 64 = .ok (.getfield 72, 3) := dK_b_121.2.2.2.1
theorem dX10_fouled_67 : decode cX10_fouled 67 = .ok (.getfield 303, 3) := dK_b_121.2.2.2.2.1
theorem dX10_fouled_70 : decode cX10_fouled 70 = .ok (.iload 6, 2) := dK_b_121.2.2.2.2.2.1
theorem dX10_fouled_72 : decode cX10_fouled 72 = .ok (.iaload, 1) := dK_b_121.2.2.2.2.2.2.1
theorem dX10_fouled_73 : decode cX10_fouled 73 = .ok (.bipush (-8), 2) := dK_b_121.2.2.2.2.2.2.2.1
theorem dK_b_122 : dk_P cX10_fouled [(75, (.if_icmp .eq 31, 3)), (78, (.iinc 5 1, 3)), (81, (.iload 4, 2)), (83, (.aload_n 0, 1)), (84, (.getfield 72, 3)), (87, (.getfield 303, 3)), (90, (.iload 6, 2)), (92, (.iaload, 1))] := dk_of 75 (by decide +kernel)
theorem dX10_fouled_75 : decode cX10_fouled 75 = .ok (.if_icmp .eq 31, 3) := dK_b_122.1
theorem dX10_fouled_78 : decode cX10_fouled 78 = .ok (.iinc 5 1, 3) := dK_b_122.2.1
theorem dX10_fouled_81 : decode cX10_fouled 81 = .ok (.iload 4, 2) := dK_b_122.2.2.1
theorem dX10_fouled_83 : decode cX10_fouled 83 = .ok (.aload_n 0, 1) := dK_b_122.2.2.2.1
theorem dX10_fouled_84 : decode cX10_fouled 84 = .ok (.getfield 72, 3) := dK_b_122.2.2.2.2.1
theorem dX10_fouled_87 : decode cX10_fouled 87 = .ok (.getfield 303, 3) := dK_b_122.2.2.2.2.2.1
theorem dX10_fouled_90 : decode cX10_fouled 90 = .ok (.iload 6, 2) := dK_b_122.2.2.2.2.2.2.1
theorem dX10_fouled_92 : decode cX10_fouled 92 = .ok (.iaload, 1) := dK_b_122.2.2.2.2.2.2.2.1
theorem dK_b_123 : dk_P cX10_fouled [(93, (.bipush (-9), 2)), (95, (.if_icmp .ne 7, 3)), (98, (.iconst 1, 1)), (99, (.goto 4, 3)), (102, (.iconst 0, 1)), (103, (.iadd, 1)), (104, (.istore 4, 2)), (106, (.iinc 6 1, 3))] := dk_of 93 (by decide +kernel)
theorem dX10_fouled_93 : decode cX10_fouled 93 = .ok (.bipush (-9), 2) := dK_b_123.1
theorem dX10_fouled_95 : decode cX10_fouled 95 = .ok (.if_icmp .ne 7, 3) := dK_b_123.2.1
theorem dX10_fouled_98 : decode cX10_fouled 98 = .ok (.iconst 1, 1) := dK_b_123.2.2.1
theorem dX10_fouled_99 : decode cX10_fouled 99 = .ok (.goto 4, 3) := dK_b_123.2.2.2.1
theorem dX10_fouled_102 : decode cX10_fouled 102 = .ok (.iconst 0, 1) := dK_b_123.2.2.2.2.1
theorem dX10_fouled_103 : decode cX10_fouled 103 = .ok (.iadd, 1) := dK_b_123.2.2.2.2.2.1
theorem dX10_fouled_104 : decode cX10_fouled 104 = .ok (.istore 4, 2) := dK_b_123.2.2.2.2.2.2.1
theorem dX10_fouled_106 : decode cX10_fouled 106 = .ok (.iinc 6 1, 3) := dK_b_123.2.2.2.2.2.2.2.1
theorem dK_b_124 : dk_P cX10_fouled [(109, (.goto (-72), 3)), (112, (.iload 4, 2)), (114, (.i2l, 1)), (115, (.iconst 1, 1)), (116, (.iload 5, 2)), (118, (.invokestatic 286, 3)), (121, (.i2l, 1)), (122, (.iload_n 2, 1))] := dk_of 109 (by decide +kernel)
theorem dX10_fouled_109 : decode cX10_fouled 109 = .ok (.goto (-72), 3) := dK_b_124.1
theorem dX10_fouled_112 : decode cX10_fouled 112 = .ok (.iload 4, 2) := dK_b_124.2.1
theorem dX10_fouled_114 : decode cX10_fouled 114 = .ok (.i2l, 1) := dK_b_124.2.2.1
theorem dX10_fouled_115 : decode cX10_fouled 115 = .ok (.iconst 1, 1) := dK_b_124.2.2.2.1
theorem dX10_fouled_116 : decode cX10_fouled 116 = .ok (.iload 5, 2) := dK_b_124.2.2.2.2.1
theorem dX10_fouled_118 : decode cX10_fouled 118 = .ok (.invokestatic 286, 3) := dK_b_124.2.2.2.2.2.1
theorem dX10_fouled_121 : decode cX10_fouled 121 = .ok (.i2l, 1) := dK_b_124.2.2.2.2.2.2.1
theorem dX10_fouled_122 : decode cX10_fouled 122 = .ok (.iload_n 2, 1) := dK_b_124.2.2.2.2.2.2.2.1
theorem dK_b_125 : dk_P cX10_fouled [(123, (.invokestatic 262, 3)), (126, (.lreturn, 1))] := dk_of 123 (by decide +kernel)
theorem dX10_fouled_123 : decode cX10_fouled 123 = .ok (.invokestatic 262, 3) := dK_b_125.1
theorem dX10_fouled_126 : decode cX10_fouled 126 = .ok (.lreturn, 1) := dK_b_125.2.1
theorem dK_b_126 : dk_P cX10_better [(0, (.aload_n 0, 1)), (1, (.iload_n 1, 1)), (2, (.invokevirtual 93, 3)), (5, (.istore_n 2, 1)), (6, (.iload_n 2, 1)), (7, (.ifCond .eq 9, 3)), (10, (.aload_n 0, 1)), (11, (.iload_n 2, 1))] := dk_of 0 (by decide +kernel)
theorem dX10_better_0 : decode cX10_better 0 = .ok (.aload_n 0, 1) := dK_b_126.1
theorem dX10_better_1 : decode cX10_better 1 = .ok (.iload_n 1, 1) := dK_b_126.2.1
theorem dX10_better_2 : decode cX10_better 2 = .ok (.invokevirtual 93, 3) := dK_b_126.2.2.1
theorem dX10_better_5 : decode cX10_better 5 = .ok (.istore_n 2, 1) := dK_b_126.2.2.2.1
theorem dX10_better_6 : decode cX10_better 6 = .ok (.iload_n 2, 1) := dK_b_126.2.2.2.2.1
theorem dX10_better_7 : decode cX10_better 7 = .ok (.ifCond .eq 9, 3) := dK_b_126.2.2.2.2.2.1
theorem dX10_better_10 : decode cX10_better 10 = .ok (.aload_n 0, 1) := dK_b_126.2.2.2.2.2.2.1
theorem dX10_better_11 : decode cX10_better 11 = .ok (.iload_n 2, 1) := dK_b_126.2.2.2.2.2.2.2.1
theorem dK_b_127 : dk_P cX10_better [(12, (.invokevirtual 111, 3)), (15, (.ireturn, 1)), (16, (.iconst 0, 1)), (17, (.istore_n 3, 1)), (18, (.iconst 0, 1)), (19, (.istore 4, 2)), (21, (.iconst 0, 1)), (22, (.istore 5, 2))] := dk_of 12 (by decide +kernel)
theorem dX10_better_12 : decode cX10_better 12 = .ok (.invokevirtual 111, 3) := dK_b_127.1
theorem dX10_better_15 : decode cX10_better 15 = .ok (.ireturn, 1) := dK_b_127.2.1
theorem dX10_better_16 : decode cX10_better 16 = .ok (.iconst 0, 1) := dK_b_127.2.2.1
theorem dX10_better_17 : decode cX10_better 17 = .ok (.istore_n 3, 1) := dK_b_127.2.2.2.1
theorem dX10_better_18 : decode cX10_better 18 = .ok (.iconst 0, 1) := dK_b_127.2.2.2.2.1
theorem dX10_better_19 : decode cX10_better 19 = .ok (.istore 4, 2) := dK_b_127.2.2.2.2.2.1
theorem dX10_better_21 : decode cX10_better 21 = .ok (.iconst 0, 1) := dK_b_127.2.2.2.2.2.2.1
theorem dX10_better_22 : decode cX10_better 22 = .ok (.istore 5, 2) := dK_b_127.2.2.2.2.2.2.2.1
theorem dK_b_128 : dk_P cX10_better [(24, (.iload 5, 2)), (26, (.aload_n 0, 1)), (27, (.getfield 72, 3)), (30, (.getfield 160, 3)), (33, (.if_icmp .ge 51, 3)), (36, (.aload_n 0, 1)), (37, (.getfield 72, 3)), (40, (.getfield 297, 3))] := dk_of 24 (by decide +kernel)
theorem dX10_better_24 : decode cX10_better 24 = .ok (.iload 5, 2) := dK_b_128.1
theorem dX10_better_26 : decode cX10_better 26 = .ok (.aload_n 0, 1) := dK_b_128.2.1
theorem dX10_better_27 : decode cX10_better 27 = .ok (.getfield 72, 3) := dK_b_128.2.2.1
theorem dX10_better_30 : decode cX10_better 30 = .ok (.getfield 160, 3) := dK_b_128.2.2.2.1
theorem dX10_better_33 : decode cX10_better 33 = .ok (.if_icmp .ge 51, 3) := dK_b_128.2.2.2.2.1
theorem dX10_better_36 : decode cX10_better 36 = .ok (.aload_n 0, 1) := dK_b_128.2.2.2.2.2.1
theorem dX10_better_37 : decode cX10_better 37 = .ok (.getfield 72, 3) := dK_b_128.2.2.2.2.2.2.1
theorem dX10_better_40 : decode cX10_better 40 = .ok (.getfield 297, 3) := dK_b_128.2.2.2.2.2.2.2.1
theorem dK_b_129 : dk_P cX10_better [(43, (.iload 5, 2)), (45, (.iaload, 1)), (46, (.iload_n 1, 1)), (47, (.if_icmp .ne 31, 3)), (50, (.aload_n 0, 1)), (51, (.getfield 72, 3)), (54, (.getfield 303, 3)), (57, (.iload 5, 2))] := dk_of 43 (by decide +kernel)
theorem dX10_better_43 : decode cX10_better 43 = .ok (.iload 5, 2) := dK_b_129.1
theorem dX10_better_45 : decode cX10_better 45 = .ok (.iaload, 1) := dK_b_129.2.1
theorem dX10_better_46 : decode cX10_better 46 = .ok (.iload_n 1, 1) := dK_b_129.2.2.1
theorem dX10_better_47 : decode cX10_better 47 = .ok (.if_icmp .ne 31, 3) := dK_b_129.2.2.2.1
theorem dX10_better_50 : decode cX10_better 50 = .ok (.aload_n 0, 1) := dK_b_129.2.2.2.2.1
theorem dX10_better_51 : decode cX10_better 51 = .ok (.getfield 72, 3) := dK_b_129.2.2.2.2.2.1
theorem dX10_better_54 : decode cX10_better 54 = .ok (.getfield 303, 3) := dK_b_129.2.2.2.2.2.2.1
theorem dX10_better_57 : decode cX10_better 57 = .ok (.iload 5, 2) := dK_b_129.2.2.2.2.2.2.2.1
theorem dK_b_130 : dk_P cX10_better [(59, (.iaload, 1)), (60, (.iload_n 3, 1)), (61, (.if_icmp .le 17, 3)), (64, (.aload_n 0, 1)), (65, (.getfield 72, 3)), (68, (.getfield 303, 3)), (71, (.iload 5, 2)), (73, (.iaload, 1))] := dk_of 59 (by decide +kernel)
theorem dX10_better_59 : decode cX10_better 59 = .ok (.iaload, 1) := dK_b_130.1
theorem dX10_better_60 : decode cX10_better 60 = .ok (.iload_n 3, 1) := dK_b_130.2.1
theorem dX10_better_61 : decode cX10_better 61 = .ok (.if_icmp .le 17, 3) := dK_b_130.2.2.1
theorem dX10_better_64 : decode cX10_better 64 = .ok (.aload_n 0, 1) := dK_b_130.2.2.2.1
theorem dX10_better_65 : decode cX10_better 65 = .ok (.getfield 72, 3) := dK_b_130.2.2.2.2.1
theorem dX10_better_68 : decode cX10_better 68 = .ok (.getfield 303, 3) := dK_b_130.2.2.2.2.2.1
theorem dX10_better_71 : decode cX10_better 71 = .ok (.iload 5, 2) := dK_b_130.2.2.2.2.2.2.1
theorem dX10_better_73 : decode cX10_better 73 = .ok (.iaload, 1) := dK_b_130.2.2.2.2.2.2.2.1
theorem dK_b_131 : dk_P cX10_better [(74, (.istore_n 3, 1)), (75, (.iinc 4 1, 3)), (78, (.iinc 5 1, 3)), (81, (.goto (-57), 3)), (84, (.iload 4, 2)), (86, (.ireturn, 1))] := dk_of 74 (by decide +kernel)
theorem dX10_better_74 : decode cX10_better 74 = .ok (.istore_n 3, 1) := dK_b_131.1
theorem dX10_better_75 : decode cX10_better 75 = .ok (.iinc 4 1, 3) := dK_b_131.2.1
theorem dX10_better_78 : decode cX10_better 78 = .ok (.iinc 5 1, 3) := dK_b_131.2.2.1
theorem dX10_better_81 : decode cX10_better 81 = .ok (.goto (-57), 3) := dK_b_131.2.2.2.1
theorem dX10_better_84 : decode cX10_better 84 = .ok (.iload 4, 2) := dK_b_131.2.2.2.2.1
theorem dX10_better_86 : decode cX10_better 86 = .ok (.ireturn, 1) := dK_b_131.2.2.2.2.2.1
theorem dK_b_132 : dk_P cX10_half [(0, (.aload_n 0, 1)), (1, (.iload_n 1, 1)), (2, (.invokevirtual 93, 3)), (5, (.istore_n 2, 1)), (6, (.iload_n 2, 1)), (7, (.ifCond .eq 9, 3)), (10, (.aload_n 0, 1)), (11, (.iload_n 2, 1))] := dk_of 0 (by decide +kernel)
theorem dX10_half_0 : decode cX10_half 0 = .ok (.aload_n 0, 1) := dK_b_132.1
theorem dX10_half_1 : decode cX10_half 1 = .ok (.iload_n 1, 1) := dK_b_132.2.1
theorem dX10_half_2 : decode cX10_half 2 = .ok (.invokevirtual 93, 3) := dK_b_132.2.2.1
theorem dX10_half_5 : decode cX10_half 5 = .ok (.istore_n 2, 1) := dK_b_132.2.2.2.1
theorem dX10_half_6 : decode cX10_half 6 = .ok (.iload_n 2, 1) := dK_b_132.2.2.2.2.1
theorem dX10_half_7 : decode cX10_half 7 = .ok (.ifCond .eq 9, 3) := dK_b_132.2.2.2.2.2.1
theorem dX10_half_10 : decode cX10_half 10 = .ok (.aload_n 0, 1) := dK_b_132.2.2.2.2.2.2.1
theorem dX10_half_11 : decode cX10_half 11 = .ok (.iload_n 2, 1) := dK_b_132.2.2.2.2.2.2.2.1
theorem dK_b_133 : dk_P cX10_half [(12, (.invokevirtual 111, 3)), (15, (.ireturn, 1)), (16, (.bipush 6, 2)), (18, (.newarray .int, 2)), (20, (.astore_n 3, 1)), (21, (.iconst 0, 1)), (22, (.istore 4, 2)), (24, (.iconst 0, 1))] := dk_of 12 (by decide +kernel)
theorem dX10_half_12 : decode cX10_half 12 = .ok (.invokevirtual 111, 3) := dK_b_133.1
theorem dX10_half_15 : decode cX10_half 15 = .ok (.ireturn, 1) := dK_b_133.2.1
theorem dX10_half_16 : decode cX10_half 16 = .ok (.bipush 6, 2) := dK_b_133.2.2.1
theorem dX10_half_18 : decode cX10_half 18 = .ok (.newarray .int, 2) := dK_b_133.2.2.2.1
theorem dX10_half_20 : decode cX10_half 20 = .ok (.astore_n 3, 1) := dK_b_133.2.2.2.2.1
theorem dX10_half_21 : decode cX10_half 21 = .ok (.iconst 0, 1) := dK_b_133.2.2.2.2.2.1
theorem dX10_half_22 : decode cX10_half 22 = .ok (.istore 4, 2) := dK_b_133.2.2.2.2.2.2.1
theorem dX10_half_24 : decode cX10_half 24 = .ok (.iconst 0, 1) := dK_b_133.2.2.2.2.2.2.2.1
theorem dK_b_134 : dk_P cX10_half [(25, (.istore 5, 2)), (27, (.iload 5, 2)), (29, (.aload_n 0, 1)), (30, (.getfield 72, 3)), (33, (.getfield 160, 3)), (36, (.if_icmp .ge 68, 3)), (39, (.aload_n 0, 1)), (40, (.getfield 72, 3))] := dk_of 25 (by decide +kernel)
theorem dX10_half_25 : decode cX10_half 25 = .ok (.istore 5, 2) := dK_b_134.1
theorem dX10_half_27 : decode cX10_half 27 = .ok (.iload 5, 2) := dK_b_134.2.1
theorem dX10_half_29 : decode cX10_half 29 = .ok (.aload_n 0, 1) := dK_b_134.2.2.1
theorem dX10_half_30 : decode cX10_half 30 = .ok (.getfield 72, 3) := dK_b_134.2.2.2.1
theorem dX10_half_33 : decode cX10_half 33 = .ok (.getfield 160, 3) := dK_b_134.2.2.2.2.1
theorem dX10_half_36 : decode cX10_half 36 = .ok (.if_icmp .ge 68, 3) := dK_b_134.2.2.2.2.2.1
theorem dX10_half_39 : decode cX10_half 39 = .ok (.aload_n 0, 1) := dK_b_134.2.2.2.2.2.2.1
theorem dX10_half_40 : decode cX10_half 40 = .ok (.getfield 72, 3) := dK_b_134.2.2.2.2.2.2.2.1
theorem dK_b_135 : dk_P cX10_half [(43, (.getfield 297, 3)), (46, (.iload 5, 2)), (48, (.iaload, 1)), (49, (.iload_n 1, 1)), (50, (.if_icmp .ne 48, 3)), (53, (.aload_n 0, 1)), (54, (.getfield 72, 3)), (57, (.getfield 303, 3))] := dk_of 43 (by decide +kernel)
theorem dX10_half_43 : decode cX10_half 43 = .ok (.getfield 297, 3) := dK_b_135.1
theorem dX10_half_46 : decode cX10_half 46 = .ok (.iload 5, 2) := dK_b_135.2.1
theorem dX10_half_48 : decode cX10_half 48 = .ok (.iaload, 1) := dK_b_135.2.2.1
theorem dX10_half_49 : decode cX10_half 49 = .ok (.iload_n 1, 1) := dK_b_135.2.2.2.1
theorem dX10_half_50 : decode cX10_half 50 = .ok (.if_icmp .ne 48, 3) := dK_b_135.2.2.2.2.1
theorem dX10_half_53 : decode cX10_half 53 = .ok (.aload_n 0, 1) := dK_b_135.2.2.2.2.2.1
theorem dX10_half_54 : decode cX10_half 54 = .ok (.getfield 72, 3) := dK_b_135.2.2.2.2.2.2.1
theorem dX10_half_57 : decode cX10_half 57 = .ok (.getfield 303, 3) := dK_b_135.2.2.2.2.2.2.2.1
theorem dK_b_136 : dk_P cX10_half [(60, (.iload 5, 2)), (62, (.iaload, 1)), (63, (.bipush (-8), 2)), (65, (.if_icmp .eq 33, 3)), (68, (.iload 4, 2)), (70, (.bipush 6, 2)), (72, (.if_icmp .ge 26, 3)), (75, (.aload_n 3, 1))] := dk_of 60 (by decide +kernel)
theorem dX10_half_60 : decode cX10_half 60 = .ok (.iload 5, 2) := dK_b_136.1
theorem dX10_half_62 : decode cX10_half 62 = .ok (.iaload, 1) := dK_b_136.2.1
theorem dX10_half_63 : decode cX10_half 63 = .ok (.bipush (-8), 2) := dK_b_136.2.2.1
theorem dX10_half_65 : decode cX10_half 65 = .ok (.if_icmp .eq 33, 3) := dK_b_136.2.2.2.1
theorem dX10_half_68 : decode cX10_half 68 = .ok (.iload 4, 2) := dK_b_136.2.2.2.2.1
theorem dX10_half_70 : decode cX10_half 70 = .ok (.bipush 6, 2) := dK_b_136.2.2.2.2.2.1
theorem dX10_half_72 : decode cX10_half 72 = .ok (.if_icmp .ge 26, 3) := dK_b_136.2.2.2.2.2.2.1
theorem dX10_half_75 : decode cX10_half 75 = .ok (.aload_n 3, 1) := dK_b_136.2.2.2.2.2.2.2.1
theorem dK_b_137 : dk_P cX10_half [(76, (.iload 4, 2)), (78, (.iconst 0, 1)), (79, (.aload_n 0, 1)), (80, (.getfield 72, 3)), (83, (.getfield 303, 3)), (86, (.iload 5, 2)), (88, (.iaload, 1)), (89, (.invokestatic 286, 3))] := dk_of 76 (by decide +kernel)
theorem dX10_half_76 : decode cX10_half 76 = .ok (.iload 4, 2) := dK_b_137.1
theorem dX10_half_78 : decode cX10_half 78 = .ok (.iconst 0, 1) := dK_b_137.2.1
theorem dX10_half_79 : decode cX10_half 79 = .ok (.aload_n 0, 1) := dK_b_137.2.2.1
theorem dX10_half_80 : decode cX10_half 80 = .ok (.getfield 72, 3) := dK_b_137.2.2.2.1
theorem dX10_half_83 : decode cX10_half 83 = .ok (.getfield 303, 3) := dK_b_137.2.2.2.2.1
theorem dX10_half_86 : decode cX10_half 86 = .ok (.iload 5, 2) := dK_b_137.2.2.2.2.2.1
theorem dX10_half_88 : decode cX10_half 88 = .ok (.iaload, 1) := dK_b_137.2.2.2.2.2.2.1
theorem dX10_half_89 : decode cX10_half 89 = .ok (.invokestatic 286, 3) := dK_b_137.2.2.2.2.2.2.2.1
theorem dK_b_138 : dk_P cX10_half [(92, (.invokestatic 401, 3)), (95, (.iinc 4 1, 3)), (98, (.iinc 5 1, 3)), (101, (.goto (-74), 3)), (104, (.iload 4, 2)), (106, (.ifCond .ne 8, 3)), (109, (.bipush (-9), 2)), (111, (.goto 11, 3))] := dk_of 92 (by decide +kernel)
theorem dX10_half_92 : decode cX10_half 92 = .ok (.invokestatic 401, 3) := dK_b_138.1
theorem dX10_half_95 : decode cX10_half 95 = .ok (.iinc 4 1, 3) := dK_b_138.2.1
theorem dX10_half_98 : decode cX10_half 98 = .ok (.iinc 5 1, 3) := dK_b_138.2.2.1
theorem dX10_half_101 : decode cX10_half 101 = .ok (.goto (-74), 3) := dK_b_138.2.2.2.1
theorem dX10_half_104 : decode cX10_half 104 = .ok (.iload 4, 2) := dK_b_138.2.2.2.2.1
theorem dX10_half_106 : decode cX10_half 106 = .ok (.ifCond .ne 8, 3) := dK_b_138.2.2.2.2.2.1
theorem dX10_half_109 : decode cX10_half 109 = .ok (.bipush (-9), 2) := dK_b_138.2.2.2.2.2.2.1
theorem dX10_half_111 : decode cX10_half 111 = .ok (.goto 11, 3) := dK_b_138.2.2.2.2.2.2.2.1
theorem dK_b_139 : dk_P cX10_half [(114, (.aload_n 3, 1)), (115, (.iload 4, 2)), (117, (.iconst 1, 1)), (118, (.isub, 1)), (119, (.iconst 2, 1)), (120, (.idiv, 1)), (121, (.iaload, 1)), (122, (.ireturn, 1))] := dk_of 114 (by decide +kernel)
theorem dX10_half_114 : decode cX10_half 114 = .ok (.aload_n 3, 1) := dK_b_139.1
theorem dX10_half_115 : decode cX10_half 115 = .ok (.iload 4, 2) := dK_b_139.2.1
theorem dX10_half_117 : decode cX10_half 117 = .ok (.iconst 1, 1) := dK_b_139.2.2.1
theorem dX10_half_118 : decode cX10_half 118 = .ok (.isub, 1) := dK_b_139.2.2.2.1
theorem dX10_half_119 : decode cX10_half 119 = .ok (.iconst 2, 1) := dK_b_139.2.2.2.2.1
theorem dX10_half_120 : decode cX10_half 120 = .ok (.idiv, 1) := dK_b_139.2.2.2.2.2.1
theorem dX10_half_121 : decode cX10_half 121 = .ok (.iaload, 1) := dK_b_139.2.2.2.2.2.2.1
theorem dX10_half_122 : decode cX10_half 122 = .ok (.ireturn, 1) := dK_b_139.2.2.2.2.2.2.2.1
theorem dK_b_140 : dk_P cX10_insert [(0, (.iload_n 1, 1)), (1, (.istore_n 3, 1)), (2, (.iload_n 3, 1)), (3, (.ifCond .le 26, 3)), (6, (.aload_n 0, 1)), (7, (.iload_n 3, 1)), (8, (.iconst 1, 1)), (9, (.isub, 1))] := dk_of 0 (by decide +kernel)
theorem dX10_insert_0 : decode cX10_insert 0 = .ok (.iload_n 1, 1) := dK_b_140.1
theorem dX10_insert_1 : decode cX10_insert 1 = .ok (.istore_n 3, 1) := dK_b_140.2.1
theorem dX10_insert_2 : decode cX10_insert 2 = .ok (.iload_n 3, 1) := dK_b_140.2.2.1
theorem dX10_insert_3 : decode cX10_insert 3 = .ok (.ifCond .le 26, 3) := dK_b_140.2.2.2.1
theorem dX10_insert_6 : decode cX10_insert 6 = .ok (.aload_n 0, 1) := dK_b_140.2.2.2.2.1
theorem dX10_insert_7 : decode cX10_insert 7 = .ok (.iload_n 3, 1) := dK_b_140.2.2.2.2.2.1
theorem dX10_insert_8 : decode cX10_insert 8 = .ok (.iconst 1, 1) := dK_b_140.2.2.2.2.2.2.1
theorem dX10_insert_9 : decode cX10_insert 9 = .ok (.isub, 1) := dK_b_140.2.2.2.2.2.2.2.1
theorem dK_b_141 : dk_P cX10_insert [(10, (.iaload, 1)), (11, (.iload_n 2, 1)), (12, (.if_icmp .le 17, 3)), (15, (.aload_n 0, 1)), (16, (.iload_n 3, 1)), (17, (.aload_n 0, 1)), (18, (.iload_n 3, 1)), (19, (.iconst 1, 1))] := dk_of 10 (by decide +kernel)
theorem dX10_insert_10 : decode cX10_insert 10 = .ok (.iaload, 1) := dK_b_141.1
theorem dX10_insert_11 : decode cX10_insert 11 = .ok (.iload_n 2, 1) := dK_b_141.2.1
theorem dX10_insert_12 : decode cX10_insert 12 = .ok (.if_icmp .le 17, 3) := dK_b_141.2.2.1
theorem dX10_insert_15 : decode cX10_insert 15 = .ok (.aload_n 0, 1) := dK_b_141.2.2.2.1
theorem dX10_insert_16 : decode cX10_insert 16 = .ok (.iload_n 3, 1) := dK_b_141.2.2.2.2.1
theorem dX10_insert_17 : decode cX10_insert 17 = .ok (.aload_n 0, 1) := dK_b_141.2.2.2.2.2.1
theorem dX10_insert_18 : decode cX10_insert 18 = .ok (.iload_n 3, 1) := dK_b_141.2.2.2.2.2.2.1
theorem dX10_insert_19 : decode cX10_insert 19 = .ok (.iconst 1, 1) := dK_b_141.2.2.2.2.2.2.2.1
theorem dK_b_142 : dk_P cX10_insert [(20, (.isub, 1)), (21, (.iaload, 1)), (22, (.iastore, 1)), (23, (.iinc 3 (-1), 3)), (26, (.goto (-24), 3)), (29, (.aload_n 0, 1)), (30, (.iload_n 3, 1)), (31, (.iload_n 2, 1))] := dk_of 20 (by decide +kernel)
theorem dX10_insert_20 : decode cX10_insert 20 = .ok (.isub, 1) := dK_b_142.1
theorem dX10_insert_21 : decode cX10_insert 21 = .ok (.iaload, 1) := dK_b_142.2.1
theorem dX10_insert_22 : decode cX10_insert 22 = .ok (.iastore, 1) := dK_b_142.2.2.1
theorem dX10_insert_23 : decode cX10_insert 23 = .ok (.iinc 3 (-1), 3) := dK_b_142.2.2.2.1
theorem dX10_insert_26 : decode cX10_insert 26 = .ok (.goto (-24), 3) := dK_b_142.2.2.2.2.1
theorem dX10_insert_29 : decode cX10_insert 29 = .ok (.aload_n 0, 1) := dK_b_142.2.2.2.2.2.1
theorem dX10_insert_30 : decode cX10_insert 30 = .ok (.iload_n 3, 1) := dK_b_142.2.2.2.2.2.2.1
theorem dX10_insert_31 : decode cX10_insert 31 = .ok (.iload_n 2, 1) := dK_b_142.2.2.2.2.2.2.2.1
theorem dK_b_143 : dk_P cX10_insert [(32, (.iastore, 1)), (33, (.return_, 1))] := dk_of 32 (by decide +kernel)
theorem dX10_insert_32 : decode cX10_insert 32 = .ok (.iastore, 1) := dK_b_143.1
theorem dX10_insert_33 : decode cX10_insert 33 = .ok (.return_, 1) := dK_b_143.2.1
theorem dK_b_144 : dk_P cX10_fullLength [(0, (.aload_n 0, 1)), (1, (.getfield 72, 3)), (4, (.iload_n 1, 1)), (5, (.invokevirtual 169, 3)), (8, (.astore_n 2, 1)), (9, (.aload_n 2, 1)), (10, (.getfield 173, 3)), (13, (.aload_n 2, 1))] := dk_of 0 (by decide +kernel)
theorem dX10_fullLength_0 : decode cX10_fullLength 0 = .ok (.aload_n 0, 1) := dK_b_144.1
theorem dX10_fullLength_1 : decode cX10_fullLength 1 = .ok (.getfield 72, 3) := dK_b_144.2.1
theorem dX10_fullLength_4 : decode cX10_fullLength 4 = .ok (.iload_n 1, 1) := dK_b_144.2.2.1
theorem dX10_fullLength_5 : decode cX10_fullLength 5 = .ok (.invokevirtual 169, 3) := dK_b_144.2.2.2.1
theorem dX10_fullLength_8 : decode cX10_fullLength 8 = .ok (.astore_n 2, 1) := dK_b_144.2.2.2.2.1
theorem dX10_fullLength_9 : decode cX10_fullLength 9 = .ok (.aload_n 2, 1) := dK_b_144.2.2.2.2.2.1
theorem dX10_fullLength_10 : decode cX10_fullLength 10 = .ok (.getfield 173, 3) := dK_b_144.2.2.2.2.2.2.1
theorem dX10_fullLength_13 : decode cX10_fullLength 13 = .ok (.aload_n 2, 1) := dK_b_144.2.2.2.2.2.2.2.1
theorem dK_b_145 : dk_P cX10_fullLength [(14, (.iconst 0, 1)), (15, (.iconst 0, 1)), (16, (.aload_n 0, 1)), (17, (.getfield 72, 3)), (20, (.getfield 157, 3)), (23, (.invokevirtual 238, 3)), (26, (.ireturn, 1))] := dk_of 14 (by decide +kernel)
theorem dX10_fullLength_14 : decode cX10_fullLength 14 = .ok (.iconst 0, 1) := dK_b_145.1
theorem dX10_fullLength_15 : decode cX10_fullLength 15 = .ok (.iconst 0, 1) := dK_b_145.2.1
theorem dX10_fullLength_16 : decode cX10_fullLength 16 = .ok (.aload_n 0, 1) := dK_b_145.2.2.1
theorem dX10_fullLength_17 : decode cX10_fullLength 17 = .ok (.getfield 72, 3) := dK_b_145.2.2.2.1
theorem dX10_fullLength_20 : decode cX10_fullLength 20 = .ok (.getfield 157, 3) := dK_b_145.2.2.2.2.1
theorem dX10_fullLength_23 : decode cX10_fullLength 23 = .ok (.invokevirtual 238, 3) := dK_b_145.2.2.2.2.2.1
theorem dX10_fullLength_26 : decode cX10_fullLength 26 = .ok (.ireturn, 1) := dK_b_145.2.2.2.2.2.2.1
theorem dK_b_146 : dk_P cX10_safe [(0, (.aload_n 0, 1)), (1, (.iload_n 1, 1)), (2, (.invokevirtual 93, 3)), (5, (.istore_n 2, 1)), (6, (.iload_n 2, 1)), (7, (.ifCond .eq 9, 3)), (10, (.aload_n 0, 1)), (11, (.iload_n 2, 1))] := dk_of 0 (by decide +kernel)
theorem dX10_safe_0 : decode cX10_safe 0 = .ok (.aload_n 0, 1) := dK_b_146.1
theorem dX10_safe_1 : decode cX10_safe 1 = .ok (.iload_n 1, 1) := dK_b_146.2.1
theorem dX10_safe_2 : decode cX10_safe 2 = .ok (.invokevirtual 93, 3) := dK_b_146.2.2.1
theorem dX10_safe_5 : decode cX10_safe 5 = .ok (.istore_n 2, 1) := dK_b_146.2.2.2.1
theorem dX10_safe_6 : decode cX10_safe 6 = .ok (.iload_n 2, 1) := dK_b_146.2.2.2.2.1
theorem dX10_safe_7 : decode cX10_safe 7 = .ok (.ifCond .eq 9, 3) := dK_b_146.2.2.2.2.2.1
theorem dX10_safe_10 : decode cX10_safe 10 = .ok (.aload_n 0, 1) := dK_b_146.2.2.2.2.2.2.1
theorem dX10_safe_11 : decode cX10_safe 11 = .ok (.iload_n 2, 1) := dK_b_146.2.2.2.2.2.2.2.1
theorem dK_b_147 : dk_P cX10_safe [(12, (.invokevirtual 111, 3)), (15, (.ireturn, 1)), (16, (.aload_n 0, 1)), (17, (.getfield 72, 3)), (20, (.aload_n 0, 1)), (21, (.getfield 28, 3)), (24, (.iconst 0, 1)), (25, (.aload_n 0, 1))] := dk_of 12 (by decide +kernel)
theorem dX10_safe_12 : decode cX10_safe 12 = .ok (.invokevirtual 111, 3) := dK_b_147.1
theorem dX10_safe_15 : decode cX10_safe 15 = .ok (.ireturn, 1) := dK_b_147.2.1
theorem dX10_safe_16 : decode cX10_safe 16 = .ok (.aload_n 0, 1) := dK_b_147.2.2.1
theorem dX10_safe_17 : decode cX10_safe 17 = .ok (.getfield 72, 3) := dK_b_147.2.2.2.1
theorem dX10_safe_20 : decode cX10_safe 20 = .ok (.aload_n 0, 1) := dK_b_147.2.2.2.2.1
theorem dX10_safe_21 : decode cX10_safe 21 = .ok (.getfield 28, 3) := dK_b_147.2.2.2.2.2.1
theorem dX10_safe_24 : decode cX10_safe 24 = .ok (.iconst 0, 1) := dK_b_147.2.2.2.2.2.2.1
theorem dX10_safe_25 : decode cX10_safe 25 = .ok (.aload_n 0, 1) := dK_b_147.2.2.2.2.2.2.2.1
theorem dK_b_148 : dk_P cX10_safe [(26, (.getfield 72, 3)), (29, (.getfield 160, 3)), (32, (.invokevirtual 214, 3)), (35, (.iconst 0, 1)), (36, (.istore_n 3, 1)), (37, (.iload_n 3, 1)), (38, (.aload_n 0, 1)), (39, (.getfield 72, 3))] := dk_of 26 (by decide +kernel)
theorem dX10_safe_26 : decode cX10_safe 26 = .ok (.getfield 72, 3) := dK_b_148.1
theorem dX10_safe_29 : decode cX10_safe 29 = .ok (.getfield 160, 3) := dK_b_148.2.1
theorem dX10_safe_32 : decode cX10_safe 32 = .ok (.invokevirtual 214, 3) := dK_b_148.2.2.1
theorem dX10_safe_35 : decode cX10_safe 35 = .ok (.iconst 0, 1) := dK_b_148.2.2.2.1
theorem dX10_safe_36 : decode cX10_safe 36 = .ok (.istore_n 3, 1) := dK_b_148.2.2.2.2.1
theorem dX10_safe_37 : decode cX10_safe 37 = .ok (.iload_n 3, 1) := dK_b_148.2.2.2.2.2.1
theorem dX10_safe_38 : decode cX10_safe 38 = .ok (.aload_n 0, 1) := dK_b_148.2.2.2.2.2.2.1
theorem dX10_safe_39 : decode cX10_safe 39 = .ok (.getfield 72, 3) := dK_b_148.2.2.2.2.2.2.2.1
theorem dK_b_149 : dk_P cX10_safe [(42, (.getfield 89, 3)), (45, (.if_icmp .ge 27, 3)), (48, (.iload_n 3, 1)), (49, (.iload_n 1, 1)), (50, (.if_icmp .eq 16, 3)), (53, (.aload_n 0, 1)), (54, (.getfield 28, 3)), (57, (.iload_n 3, 1))] := dk_of 42 (by decide +kernel)
theorem dX10_safe_42 : decode cX10_safe 42 = .ok (.getfield 89, 3) := dK_b_149.1
theorem dX10_safe_45 : decode cX10_safe 45 = .ok (.if_icmp .ge 27, 3) := dK_b_149.2.1
theorem dX10_safe_48 : decode cX10_safe 48 = .ok (.iload_n 3, 1) := dK_b_149.2.2.1
theorem dX10_safe_49 : decode cX10_safe 49 = .ok (.iload_n 1, 1) := dK_b_149.2.2.2.1
theorem dX10_safe_50 : decode cX10_safe 50 = .ok (.if_icmp .eq 16, 3) := dK_b_149.2.2.2.2.1
theorem dX10_safe_53 : decode cX10_safe 53 = .ok (.aload_n 0, 1) := dK_b_149.2.2.2.2.2.1
theorem dX10_safe_54 : decode cX10_safe 54 = .ok (.getfield 28, 3) := dK_b_149.2.2.2.2.2.2.1
theorem dX10_safe_57 : decode cX10_safe 57 = .ok (.iload_n 3, 1) := dK_b_149.2.2.2.2.2.2.2.1
theorem dK_b_150 : dk_P cX10_safe [(58, (.aload_n 0, 1)), (59, (.iload_n 3, 1)), (60, (.invokevirtual 404, 3)), (63, (.invokevirtual 339, 3)), (66, (.iinc 3 1, 3)), (69, (.goto (-32), 3)), (72, (.aload_n 0, 1)), (73, (.iload_n 1, 1))] := dk_of 58 (by decide +kernel)
theorem dX10_safe_58 : decode cX10_safe 58 = .ok (.aload_n 0, 1) := dK_b_150.1
theorem dX10_safe_59 : decode cX10_safe 59 = .ok (.iload_n 3, 1) := dK_b_150.2.1
theorem dX10_safe_60 : decode cX10_safe 60 = .ok (.invokevirtual 404, 3) := dK_b_150.2.2.1
theorem dX10_safe_63 : decode cX10_safe 63 = .ok (.invokevirtual 339, 3) := dK_b_150.2.2.2.1
theorem dX10_safe_66 : decode cX10_safe 66 = .ok (.iinc 3 1, 3) := dK_b_150.2.2.2.2.1
theorem dX10_safe_69 : decode cX10_safe 69 = .ok (.goto (-32), 3) := dK_b_150.2.2.2.2.2.1
theorem dX10_safe_72 : decode cX10_safe 72 = .ok (.aload_n 0, 1) := dK_b_150.2.2.2.2.2.2.1
theorem dX10_safe_73 : decode cX10_safe 73 = .ok (.iload_n 1, 1) := dK_b_150.2.2.2.2.2.2.2.1
theorem dK_b_151 : dk_P cX10_safe [(74, (.aload_n 0, 1)), (75, (.getfield 72, 3)), (78, (.invokevirtual 306, 3)), (81, (.invokevirtual 309, 3)), (84, (.ireturn, 1))] := dk_of 74 (by decide +kernel)
theorem dX10_safe_74 : decode cX10_safe 74 = .ok (.aload_n 0, 1) := dK_b_151.1
theorem dX10_safe_75 : decode cX10_safe 75 = .ok (.getfield 72, 3) := dK_b_151.2.1
theorem dX10_safe_78 : decode cX10_safe 78 = .ok (.invokevirtual 306, 3) := dK_b_151.2.2.1
theorem dX10_safe_81 : decode cX10_safe 81 = .ok (.invokevirtual 309, 3) := dK_b_151.2.2.2.1
theorem dX10_safe_84 : decode cX10_safe 84 = .ok (.ireturn, 1) := dK_b_151.2.2.2.2.1
theorem dK_b_152 : dk_P cX10_mayStill [(0, (.aload_n 0, 1)), (1, (.getfield 72, 3)), (4, (.invokevirtual 336, 3)), (7, (.bipush 6, 2)), (9, (.if_icmp .ne 7, 3)), (12, (.iconst 1, 1)), (13, (.goto 4, 3)), (16, (.iconst 0, 1))] := dk_of 0 (by decide +kernel)
theorem dX10_mayStill_0 : decode cX10_mayStill 0 = .ok (.aload_n 0, 1) := dK_b_152.1
theorem dX10_mayStill_1 : decode cX10_mayStill 1 = .ok (.getfield 72, 3) := dK_b_152.2.1
theorem dX10_mayStill_4 : decode cX10_mayStill 4 = .ok (.invokevirtual 336, 3) := dK_b_152.2.2.1
theorem dX10_mayStill_7 : decode cX10_mayStill 7 = .ok (.bipush 6, 2) := dK_b_152.2.2.2.1
theorem dX10_mayStill_9 : decode cX10_mayStill 9 = .ok (.if_icmp .ne 7, 3) := dK_b_152.2.2.2.2.1
theorem dX10_mayStill_12 : decode cX10_mayStill 12 = .ok (.iconst 1, 1) := dK_b_152.2.2.2.2.2.1
theorem dX10_mayStill_13 : decode cX10_mayStill 13 = .ok (.goto 4, 3) := dK_b_152.2.2.2.2.2.2.1
theorem dX10_mayStill_16 : decode cX10_mayStill 16 = .ok (.iconst 0, 1) := dK_b_152.2.2.2.2.2.2.2.1
theorem dK_b_153 : dk_P cX10_mayStill [(17, (.istore_n 1, 1)), (18, (.aload_n 0, 1)), (19, (.getfield 72, 3)), (22, (.aload_n 0, 1)), (23, (.getfield 28, 3)), (26, (.iconst 0, 1)), (27, (.aload_n 0, 1)), (28, (.getfield 72, 3))] := dk_of 17 (by decide +kernel)
theorem dX10_mayStill_17 : decode cX10_mayStill 17 = .ok (.istore_n 1, 1) := dK_b_153.1
theorem dX10_mayStill_18 : decode cX10_mayStill 18 = .ok (.aload_n 0, 1) := dK_b_153.2.1
theorem dX10_mayStill_19 : decode cX10_mayStill 19 = .ok (.getfield 72, 3) := dK_b_153.2.2.1
theorem dX10_mayStill_22 : decode cX10_mayStill 22 = .ok (.aload_n 0, 1) := dK_b_153.2.2.2.1
theorem dX10_mayStill_23 : decode cX10_mayStill 23 = .ok (.getfield 28, 3) := dK_b_153.2.2.2.2.1
theorem dX10_mayStill_26 : decode cX10_mayStill 26 = .ok (.iconst 0, 1) := dK_b_153.2.2.2.2.2.1
theorem dX10_mayStill_27 : decode cX10_mayStill 27 = .ok (.aload_n 0, 1) := dK_b_153.2.2.2.2.2.2.1
theorem dX10_mayStill_28 : decode cX10_mayStill 28 = .ok (.getfield 72, 3) := dK_b_153.2.2.2.2.2.2.2.1
theorem dK_b_154 : dk_P cX10_mayStill [(31, (.getfield 160, 3)), (34, (.invokevirtual 214, 3)), (37, (.iconst 0, 1)), (38, (.istore_n 2, 1)), (39, (.iconst 0, 1)), (40, (.istore_n 3, 1)), (41, (.iload_n 3, 1)), (42, (.aload_n 0, 1))] := dk_of 31 (by decide +kernel)
theorem dX10_mayStill_31 : decode cX10_mayStill 31 = .ok (.getfield 160, 3) := dK_b_154.1
theorem dX10_mayStill_34 : decode cX10_mayStill 34 = .ok (.invokevirtual 214, 3) := dK_b_154.2.1
theorem dX10_mayStill_37 : decode cX10_mayStill 37 = .ok (.iconst 0, 1) := dK_b_154.2.2.1
theorem dX10_mayStill_38 : decode cX10_mayStill 38 = .ok (.istore_n 2, 1) := dK_b_154.2.2.2.1
theorem dX10_mayStill_39 : decode cX10_mayStill 39 = .ok (.iconst 0, 1) := dK_b_154.2.2.2.2.1
theorem dX10_mayStill_40 : decode cX10_mayStill 40 = .ok (.istore_n 3, 1) := dK_b_154.2.2.2.2.2.1
theorem dX10_mayStill_41 : decode cX10_mayStill 41 = .ok (.iload_n 3, 1) := dK_b_154.2.2.2.2.2.2.1
theorem dX10_mayStill_42 : decode cX10_mayStill 42 = .ok (.aload_n 0, 1) := dK_b_154.2.2.2.2.2.2.2.1
theorem dK_b_155 : dk_P cX10_mayStill [(43, (.getfield 72, 3)), (46, (.getfield 89, 3)), (49, (.if_icmp .ge 39, 3)), (52, (.aload_n 0, 1)), (53, (.getfield 28, 3)), (56, (.iload_n 3, 1)), (57, (.iload_n 1, 1)), (58, (.ifCond .eq 7, 3))] := dk_of 43 (by decide +kernel)
theorem dX10_mayStill_43 : decode cX10_mayStill 43 = .ok (.getfield 72, 3) := dK_b_155.1
theorem dX10_mayStill_46 : decode cX10_mayStill 46 = .ok (.getfield 89, 3) := dK_b_155.2.1
theorem dX10_mayStill_49 : decode cX10_mayStill 49 = .ok (.if_icmp .ge 39, 3) := dK_b_155.2.2.1
theorem dX10_mayStill_52 : decode cX10_mayStill 52 = .ok (.aload_n 0, 1) := dK_b_155.2.2.2.1
theorem dX10_mayStill_53 : decode cX10_mayStill 53 = .ok (.getfield 28, 3) := dK_b_155.2.2.2.2.1
theorem dX10_mayStill_56 : decode cX10_mayStill 56 = .ok (.iload_n 3, 1) := dK_b_155.2.2.2.2.2.1
theorem dX10_mayStill_57 : decode cX10_mayStill 57 = .ok (.iload_n 1, 1) := dK_b_155.2.2.2.2.2.2.1
theorem dX10_mayStill_58 : decode cX10_mayStill 58 = .ok (.ifCond .eq 7, 3) := dK_b_155.2.2.2.2.2.2.2.1
theorem dK_b_156 : dk_P cX10_mayStill [(61, (.iconst 0, 1)), (62, (.goto 8, 3)), (65, (.aload_n 0, 1)), (66, (.iload_n 3, 1)), (67, (.invokevirtual 404, 3)), (70, (.invokevirtual 312, 3)), (73, (.ifCond .ne 9, 3)), (76, (.iload_n 2, 1))] := dk_of 61 (by decide +kernel)
theorem dX10_mayStill_61 : decode cX10_mayStill 61 = .ok (.iconst 0, 1) := dK_b_156.1
theorem dX10_mayStill_62 : decode cX10_mayStill 62 = .ok (.goto 8, 3) := dK_b_156.2.1
theorem dX10_mayStill_65 : decode cX10_mayStill 65 = .ok (.aload_n 0, 1) := dK_b_156.2.2.1
theorem dX10_mayStill_66 : decode cX10_mayStill 66 = .ok (.iload_n 3, 1) := dK_b_156.2.2.2.1
theorem dX10_mayStill_67 : decode cX10_mayStill 67 = .ok (.invokevirtual 404, 3) := dK_b_156.2.2.2.2.1
theorem dX10_mayStill_70 : decode cX10_mayStill 70 = .ok (.invokevirtual 312, 3) := dK_b_156.2.2.2.2.2.1
theorem dX10_mayStill_73 : decode cX10_mayStill 73 = .ok (.ifCond .ne 9, 3) := dK_b_156.2.2.2.2.2.2.1
theorem dX10_mayStill_76 : decode cX10_mayStill 76 = .ok (.iload_n 2, 1) := dK_b_156.2.2.2.2.2.2.2.1
theorem dK_b_157 : dk_P cX10_mayStill [(77, (.iconst 1, 1)), (78, (.iload_n 3, 1)), (79, (.ishl, 1)), (80, (.ior, 1)), (81, (.istore_n 2, 1)), (82, (.iinc 3 1, 3)), (85, (.goto (-44), 3)), (88, (.iload_n 2, 1))] := dk_of 77 (by decide +kernel)
theorem dX10_mayStill_77 : decode cX10_mayStill 77 = .ok (.iconst 1, 1) := dK_b_157.1
theorem dX10_mayStill_78 : decode cX10_mayStill 78 = .ok (.iload_n 3, 1) := dK_b_157.2.1
theorem dX10_mayStill_79 : decode cX10_mayStill 79 = .ok (.ishl, 1) := dK_b_157.2.2.1
theorem dX10_mayStill_80 : decode cX10_mayStill 80 = .ok (.ior, 1) := dK_b_157.2.2.2.1
theorem dX10_mayStill_81 : decode cX10_mayStill 81 = .ok (.istore_n 2, 1) := dK_b_157.2.2.2.2.1
theorem dX10_mayStill_82 : decode cX10_mayStill 82 = .ok (.iinc 3 1, 3) := dK_b_157.2.2.2.2.2.1
theorem dX10_mayStill_85 : decode cX10_mayStill 85 = .ok (.goto (-44), 3) := dK_b_157.2.2.2.2.2.2.1
theorem dX10_mayStill_88 : decode cX10_mayStill 88 = .ok (.iload_n 2, 1) := dK_b_157.2.2.2.2.2.2.2.1
theorem dK_b_158 : dk_P cX10_mayStill [(89, (.ireturn, 1))] := dk_of 89 (by decide +kernel)
theorem dX10_mayStill_89 : decode cX10_mayStill 89 = .ok (.ireturn, 1) := dK_b_158.1
theorem dK_b_159 : dk_P cX10_image [(0, (.aload_n 0, 1)), (1, (.getfield 79, 3)), (4, (.aload_n 0, 1)), (5, (.getfield 72, 3)), (8, (.invokevirtual 121, 3)), (11, (.aload_n 0, 1)), (12, (.iconst 1, 1)), (13, (.putfield 407, 3))] := dk_of 0 (by decide +kernel)
theorem dX10_image_0 : decode cX10_image 0 = .ok (.aload_n 0, 1) := dK_b_159.1
theorem dX10_image_1 : decode cX10_image 1 = .ok (.getfield 79, 3) := dK_b_159.2.1
theorem dX10_image_4 : decode cX10_image 4 = .ok (.aload_n 0, 1) := dK_b_159.2.2.1
theorem dX10_image_5 : decode cX10_image 5 = .ok (.getfield 72, 3) := dK_b_159.2.2.2.1
theorem dX10_image_8 : decode cX10_image 8 = .ok (.invokevirtual 121, 3) := dK_b_159.2.2.2.2.1
theorem dX10_image_11 : decode cX10_image 11 = .ok (.aload_n 0, 1) := dK_b_159.2.2.2.2.2.1
theorem dX10_image_12 : decode cX10_image 12 = .ok (.iconst 1, 1) := dK_b_159.2.2.2.2.2.2.1
theorem dX10_image_13 : decode cX10_image 13 = .ok (.putfield 407, 3) := dK_b_159.2.2.2.2.2.2.2.1
theorem dK_b_160 : dk_P cX10_image [(16, (.aload_n 0, 1)), (17, (.getfield 72, 3)), (20, (.getfield 160, 3)), (23, (.ireturn, 1))] := dk_of 16 (by decide +kernel)
theorem dX10_image_16 : decode cX10_image 16 = .ok (.aload_n 0, 1) := dK_b_160.1
theorem dX10_image_17 : decode cX10_image 17 = .ok (.getfield 72, 3) := dK_b_160.2.1
theorem dX10_image_20 : decode cX10_image 20 = .ok (.getfield 160, 3) := dK_b_160.2.2.1
theorem dX10_image_23 : decode cX10_image 23 = .ok (.ireturn, 1) := dK_b_160.2.2.2.1
theorem dK_b_161 : dk_P cX10_restore [(0, (.aload_n 0, 1)), (1, (.getfield 407, 3)), (4, (.ifCond .ne 10, 3)), (7, (.aload_n 0, 1)), (8, (.bipush (-3), 2)), (10, (.invokevirtual 111, 3)), (13, (.ireturn, 1)), (14, (.aload_n 0, 1))] := dk_of 0 (by decide +kernel)
theorem dX10_restore_0 : decode cX10_restore 0 = .ok (.aload_n 0, 1) := dK_b_161.1
theorem dX10_restore_1 : decode cX10_restore 1 = .ok (.getfield 407, 3) := dK_b_161.2.1
theorem dX10_restore_4 : decode cX10_restore 4 = .ok (.ifCond .ne 10, 3) := dK_b_161.2.2.1
theorem dX10_restore_7 : decode cX10_restore 7 = .ok (.aload_n 0, 1) := dK_b_161.2.2.2.1
theorem dX10_restore_8 : decode cX10_restore 8 = .ok (.bipush (-3), 2) := dK_b_161.2.2.2.2.1
theorem dX10_restore_10 : decode cX10_restore 10 = .ok (.invokevirtual 111, 3) := dK_b_161.2.2.2.2.2.1
theorem dX10_restore_13 : decode cX10_restore 13 = .ok (.ireturn, 1) := dK_b_161.2.2.2.2.2.2.1
theorem dX10_restore_14 : decode cX10_restore 14 = .ok (.aload_n 0, 1) := dK_b_161.2.2.2.2.2.2.2.1
theorem dK_b_162 : dk_P cX10_restore [(15, (.getfield 72, 3)), (18, (.aload_n 0, 1)), (19, (.getfield 79, 3)), (22, (.invokevirtual 121, 3)), (25, (.aload_n 0, 1)), (26, (.getfield 72, 3)), (29, (.getfield 160, 3)), (32, (.ireturn, 1))] := dk_of 15 (by decide +kernel)
theorem dX10_restore_15 : decode cX10_restore 15 = .ok (.getfield 72, 3) := dK_b_162.1
theorem dX10_restore_18 : decode cX10_restore 18 = .ok (.aload_n 0, 1) := dK_b_162.2.1
theorem dX10_restore_19 : decode cX10_restore 19 = .ok (.getfield 79, 3) := dK_b_162.2.2.1
theorem dX10_restore_22 : decode cX10_restore 22 = .ok (.invokevirtual 121, 3) := dK_b_162.2.2.2.1
theorem dX10_restore_25 : decode cX10_restore 25 = .ok (.aload_n 0, 1) := dK_b_162.2.2.2.2.1
theorem dX10_restore_26 : decode cX10_restore 26 = .ok (.getfield 72, 3) := dK_b_162.2.2.2.2.2.1
theorem dX10_restore_29 : decode cX10_restore 29 = .ok (.getfield 160, 3) := dK_b_162.2.2.2.2.2.2.1
theorem dX10_restore_32 : decode cX10_restore 32 = .ok (.ireturn, 1) := dK_b_162.2.2.2.2.2.2.2.1
theorem dK_b_163 : dk_P cX10_count [(0, (.iload_n 1, 1)), (1, (.tableswitch 121 0 8 #[51, 59, 67, 75, 83, 91, 101, 111, 116], 51)), (52, (.aload_n 0, 1)), (53, (.getfield 72, 3)), (56, (.getfield 89, 3)), (59, (.ireturn, 1)), (60, (.aload_n 0, 1)), (61, (.getfield 72, 3))] := dk_of 0 (by decide +kernel)
theorem dX10_count_0 : decode cX10_count 0 = .ok (.iload_n 1, 1) := dK_b_163.1
theorem dX10_count_1 : decode cX10_count 1 = .ok (.tableswitch 121 0 8 #[51, 59, 67, 75, 83, 91, 101, 111, 116], 51) := dK_b_163.2.1
theorem dX10_count_52 : decode cX10_count 52 = .ok (.aload_n 0, 1) := dK_b_163.2.2.1
theorem dX10_count_53 : decode cX10_count 53 = .ok (.getfield 72, 3) := dK_b_163.2.2.2.1
theorem dX10_count_56 : decode cX10_count 56 = .ok (.getfield 89, 3) := dK_b_163.2.2.2.2.1
theorem dX10_count_59 : decode cX10_count 59 = .ok (.ireturn, 1) := dK_b_163.2.2.2.2.2.1
theorem dX10_count_60 : decode cX10_count 60 = .ok (.aload_n 0, 1) := dK_b_163.2.2.2.2.2.2.1
theorem dX10_count_61 : decode cX10_count 61 = .ok (.getfield 72, 3) := dK_b_163.2.2.2.2.2.2.2.1
theorem dK_b_164 : dk_P cX10_count [(64, (.invokevirtual 336, 3)), (67, (.ireturn, 1)), (68, (.aload_n 0, 1)), (69, (.getfield 72, 3)), (72, (.getfield 160, 3)), (75, (.ireturn, 1)), (76, (.aload_n 0, 1)), (77, (.getfield 72, 3))] := dk_of 64 (by decide +kernel)
theorem dX10_count_64 : decode cX10_count 64 = .ok (.invokevirtual 336, 3) := dK_b_164.1
theorem dX10_count_67 : decode cX10_count 67 = .ok (.ireturn, 1) := dK_b_164.2.1
theorem dX10_count_68 : decode cX10_count 68 = .ok (.aload_n 0, 1) := dK_b_164.2.2.1
theorem dX10_count_69 : decode cX10_count 69 = .ok (.getfield 72, 3) := dK_b_164.2.2.2.1
theorem dX10_count_72 : decode cX10_count 72 = .ok (.getfield 160, 3) := dK_b_164.2.2.2.2.1
theorem dX10_count_75 : decode cX10_count 75 = .ok (.ireturn, 1) := dK_b_164.2.2.2.2.2.1
theorem dX10_count_76 : decode cX10_count 76 = .ok (.aload_n 0, 1) := dK_b_164.2.2.2.2.2.2.1
theorem dX10_count_77 : decode cX10_count 77 = .ok (.getfield 72, 3) := dK_b_164.2.2.2.2.2.2.2.1
theorem dK_b_165 : dk_P cX10_count [(80, (.getfield 163, 3)), (83, (.ireturn, 1)), (84, (.aload_n 0, 1)), (85, (.getfield 72, 3)), (88, (.getfield 166, 3)), (91, (.ireturn, 1)), (92, (.aload_n 0, 1)), (93, (.getfield 72, 3))] := dk_of 80 (by decide +kernel)
theorem dX10_count_80 : decode cX10_count 80 = .ok (.getfield 163, 3) := dK_b_165.1
theorem dX10_count_83 : decode cX10_count 83 = .ok (.ireturn, 1) := dK_b_165.2.1
theorem dX10_count_84 : decode cX10_count 84 = .ok (.aload_n 0, 1) := dK_b_165.2.2.1
theorem dX10_count_85 : decode cX10_count 85 = .ok (.getfield 72, 3) := dK_b_165.2.2.2.1
theorem dX10_count_88 : decode cX10_count 88 = .ok (.getfield 166, 3) := dK_b_165.2.2.2.2.1
theorem dX10_count_91 : decode cX10_count 91 = .ok (.ireturn, 1) := dK_b_165.2.2.2.2.2.1
theorem dX10_count_92 : decode cX10_count 92 = .ok (.aload_n 0, 1) := dK_b_165.2.2.2.2.2.2.1
theorem dX10_count_93 : decode cX10_count 93 = .ok (.getfield 72, 3) := dK_b_165.2.2.2.2.2.2.2.1
theorem dK_b_166 : dk_P cX10_count [(96, (.bipush (-9), 2)), (98, (.invokevirtual 411, 3)), (101, (.ireturn, 1)), (102, (.aload_n 0, 1)), (103, (.getfield 72, 3)), (106, (.bipush (-8), 2)), (108, (.invokevirtual 411, 3)), (111, (.ireturn, 1))] := dk_of 96 (by decide +kernel)
theorem dX10_count_96 : decode cX10_count 96 = .ok (.bipush (-9), 2) := dK_b_166.1
theorem dX10_count_98 : decode cX10_count 98 = .ok (.invokevirtual 411, 3) := dK_b_166.2.1
theorem dX10_count_101 : decode cX10_count 101 = .ok (.ireturn, 1) := dK_b_166.2.2.1
theorem dX10_count_102 : decode cX10_count 102 = .ok (.aload_n 0, 1) := dK_b_166.2.2.2.1
theorem dX10_count_103 : decode cX10_count 103 = .ok (.getfield 72, 3) := dK_b_166.2.2.2.2.1
theorem dX10_count_106 : decode cX10_count 106 = .ok (.bipush (-8), 2) := dK_b_166.2.2.2.2.2.1
theorem dX10_count_108 : decode cX10_count 108 = .ok (.invokevirtual 411, 3) := dK_b_166.2.2.2.2.2.2.1
theorem dX10_count_111 : decode cX10_count 111 = .ok (.ireturn, 1) := dK_b_166.2.2.2.2.2.2.2.1
theorem dK_b_167 : dk_P cX10_count [(112, (.aload_n 0, 1)), (113, (.getfield 108, 3)), (116, (.ireturn, 1)), (117, (.aload_n 0, 1)), (118, (.getfield 327, 3)), (121, (.ireturn, 1)), (122, (.iload_n 1, 1)), (123, (.bipush 10, 2))] := dk_of 112 (by decide +kernel)
theorem dX10_count_112 : decode cX10_count 112 = .ok (.aload_n 0, 1) := dK_b_167.1
theorem dX10_count_113 : decode cX10_count 113 = .ok (.getfield 108, 3) := dK_b_167.2.1
theorem dX10_count_116 : decode cX10_count 116 = .ok (.ireturn, 1) := dK_b_167.2.2.1
theorem dX10_count_117 : decode cX10_count 117 = .ok (.aload_n 0, 1) := dK_b_167.2.2.2.1
theorem dX10_count_118 : decode cX10_count 118 = .ok (.getfield 327, 3) := dK_b_167.2.2.2.2.1
theorem dX10_count_121 : decode cX10_count 121 = .ok (.ireturn, 1) := dK_b_167.2.2.2.2.2.1
theorem dX10_count_122 : decode cX10_count 122 = .ok (.iload_n 1, 1) := dK_b_167.2.2.2.2.2.2.1
theorem dX10_count_123 : decode cX10_count 123 = .ok (.bipush 10, 2) := dK_b_167.2.2.2.2.2.2.2.1
theorem dK_b_168 : dk_P cX10_count [(125, (.if_icmp .le 27, 3)), (128, (.iload_n 1, 1)), (129, (.bipush 10, 2)), (131, (.isub, 1)), (132, (.aload_n 0, 1)), (133, (.getfield 22, 3)), (136, (.arraylength, 1)), (137, (.if_icmp .ge 15, 3))] := dk_of 125 (by decide +kernel)
theorem dX10_count_125 : decode cX10_count 125 = .ok (.if_icmp .le 27, 3) := dK_b_168.1
theorem dX10_count_128 : decode cX10_count 128 = .ok (.iload_n 1, 1) := dK_b_168.2.1
theorem dX10_count_129 : decode cX10_count 129 = .ok (.bipush 10, 2) := dK_b_168.2.2.1
theorem dX10_count_131 : decode cX10_count 131 = .ok (.isub, 1) := dK_b_168.2.2.2.1
theorem dX10_count_132 : decode cX10_count 132 = .ok (.aload_n 0, 1) := dK_b_168.2.2.2.2.1
theorem dX10_count_133 : decode cX10_count 133 = .ok (.getfield 22, 3) := dK_b_168.2.2.2.2.2.1
theorem dX10_count_136 : decode cX10_count 136 = .ok (.arraylength, 1) := dK_b_168.2.2.2.2.2.2.1
theorem dX10_count_137 : decode cX10_count 137 = .ok (.if_icmp .ge 15, 3) := dK_b_168.2.2.2.2.2.2.2.1
theorem dK_b_169 : dk_P cX10_count [(140, (.aload_n 0, 1)), (141, (.getfield 22, 3)), (144, (.iload_n 1, 1)), (145, (.bipush 10, 2)), (147, (.isub, 1)), (148, (.iaload, 1)), (149, (.goto 5, 3)), (152, (.bipush (-9), 2))] := dk_of 140 (by decide +kernel)
theorem dX10_count_140 : decode cX10_count 140 = .ok (.aload_n 0, 1) := dK_b_169.1
theorem dX10_count_141 : decode cX10_count 141 = .ok (.getfield 22, 3) := dK_b_169.2.1
theorem dX10_count_144 : decode cX10_count 144 = .ok (.iload_n 1, 1) := dK_b_169.2.2.1
theorem dX10_count_145 : decode cX10_count 145 = .ok (.bipush 10, 2) := dK_b_169.2.2.2.1
theorem dX10_count_147 : decode cX10_count 147 = .ok (.isub, 1) := dK_b_169.2.2.2.2.1
theorem dX10_count_148 : decode cX10_count 148 = .ok (.iaload, 1) := dK_b_169.2.2.2.2.2.1
theorem dX10_count_149 : decode cX10_count 149 = .ok (.goto 5, 3) := dK_b_169.2.2.2.2.2.2.1
theorem dX10_count_152 : decode cX10_count 152 = .ok (.bipush (-9), 2) := dK_b_169.2.2.2.2.2.2.2.1
theorem dK_b_170 : dk_P cX10_count [(154, (.ireturn, 1))] := dk_of 154 (by decide +kernel)
theorem dX10_count_154 : decode cX10_count 154 = .ok (.ireturn, 1) := dK_b_170.1
