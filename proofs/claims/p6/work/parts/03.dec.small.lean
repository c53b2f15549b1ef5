theorem dK_s_0 : dk_P cJ7_fill_d0a16 [(0, (.iconst 0, 1)), (1, (.istore_n 3, 1)), (2, (.aload_n 0, 1)), (3, (.arraylength, 1)), (4, (.istore 4, 2)), (6, (.iload_n 3, 1)), (7, (.iload 4, 2)), (9, (.if_icmp .ge 13, 3))] := dk_of 0 (by decide +kernel)
theorem dJ7_fill_d0a16_0 : decode cJ7_fill_d0a16 0 = .ok (.iconst 0, 1) := dK_s_0.1
theorem dJ7_fill_d0a16_1 : decode cJ7_fill_d0a16 1 = .ok (.istore_n 3, 1) := dK_s_0.2.1
theorem dJ7_fill_d0a16_2 : decode cJ7_fill_d0a16 2 = .ok (.aload_n 0, 1) := dK_s_0.2.2.1
theorem dJ7_fill_d0a16_3 : decode cJ7_fill_d0a16 3 = .ok (.arraylength, 1) := dK_s_0.2.2.2.1
theorem dJ7_fill_d0a16_4 : decode cJ7_fill_d0a16 4 = .ok (.istore 4, 2) := dK_s_0.2.2.2.2.1
theorem dJ7_fill_d0a16_6 : decode cJ7_fill_d0a16 6 = .ok (.iload_n 3, 1) := dK_s_0.2.2.2.2.2.1
theorem dJ7_fill_d0a16_7 : decode cJ7_fill_d0a16 7 = .ok (.iload 4, 2) := dK_s_0.2.2.2.2.2.2.1
theorem dJ7_fill_d0a16_9 : decode cJ7_fill_d0a16 9 = .ok (.if_icmp .ge 13, 3) := dK_s_0.2.2.2.2.2.2.2.1
theorem dK_s_1 : dk_P cJ7_fill_d0a16 [(12, (.aload_n 0, 1)), (13, (.iload_n 3, 1)), (14, (.lload_n 1, 1)), (15, (.lastore, 1)), (16, (.iinc 3 1, 3)), (19, (.goto (-13), 3)), (22, (.return_, 1))] := dk_of 12 (by decide +kernel)
theorem dJ7_fill_d0a16_12 : decode cJ7_fill_d0a16 12 = .ok (.aload_n 0, 1) := dK_s_1.1
theorem dJ7_fill_d0a16_13 : decode cJ7_fill_d0a16 13 = .ok (.iload_n 3, 1) := dK_s_1.2.1
theorem dJ7_fill_d0a16_14 : decode cJ7_fill_d0a16 14 = .ok (.lload_n 1, 1) := dK_s_1.2.2.1
theorem dJ7_fill_d0a16_15 : decode cJ7_fill_d0a16 15 = .ok (.lastore, 1) := dK_s_1.2.2.2.1
theorem dJ7_fill_d0a16_16 : decode cJ7_fill_d0a16 16 = .ok (.iinc 3 1, 3) := dK_s_1.2.2.2.2.1
theorem dJ7_fill_d0a16_19 : decode cJ7_fill_d0a16 19 = .ok (.goto (-13), 3) := dK_s_1.2.2.2.2.2.1
theorem dJ7_fill_d0a16_22 : decode cJ7_fill_d0a16 22 = .ok (.return_, 1) := dK_s_1.2.2.2.2.2.2.1
theorem dK_s_2 : dk_P cJ7_fill_53178 [(0, (.iconst 0, 1)), (1, (.istore_n 2, 1)), (2, (.aload_n 0, 1)), (3, (.arraylength, 1)), (4, (.istore_n 3, 1)), (5, (.iload_n 2, 1)), (6, (.iload_n 3, 1)), (7, (.if_icmp .ge 13, 3))] := dk_of 0 (by decide +kernel)
theorem dJ7_fill_53178_0 : decode cJ7_fill_53178 0 = .ok (.iconst 0, 1) := dK_s_2.1
theorem dJ7_fill_53178_1 : decode cJ7_fill_53178 1 = .ok (.istore_n 2, 1) := dK_s_2.2.1
theorem dJ7_fill_53178_2 : decode cJ7_fill_53178 2 = .ok (.aload_n 0, 1) := dK_s_2.2.2.1
theorem dJ7_fill_53178_3 : decode cJ7_fill_53178 3 = .ok (.arraylength, 1) := dK_s_2.2.2.2.1
theorem dJ7_fill_53178_4 : decode cJ7_fill_53178 4 = .ok (.istore_n 3, 1) := dK_s_2.2.2.2.2.1
theorem dJ7_fill_53178_5 : decode cJ7_fill_53178 5 = .ok (.iload_n 2, 1) := dK_s_2.2.2.2.2.2.1
theorem dJ7_fill_53178_6 : decode cJ7_fill_53178 6 = .ok (.iload_n 3, 1) := dK_s_2.2.2.2.2.2.2.1
theorem dJ7_fill_53178_7 : decode cJ7_fill_53178 7 = .ok (.if_icmp .ge 13, 3) := dK_s_2.2.2.2.2.2.2.2.1
theorem dK_s_3 : dk_P cJ7_fill_53178 [(10, (.aload_n 0, 1)), (11, (.iload_n 2, 1)), (12, (.iload_n 1, 1)), (13, (.iastore, 1)), (14, (.iinc 2 1, 3)), (17, (.goto (-12), 3)), (20, (.return_, 1))] := dk_of 10 (by decide +kernel)
theorem dJ7_fill_53178_10 : decode cJ7_fill_53178 10 = .ok (.aload_n 0, 1) := dK_s_3.1
theorem dJ7_fill_53178_11 : decode cJ7_fill_53178 11 = .ok (.iload_n 2, 1) := dK_s_3.2.1
theorem dJ7_fill_53178_12 : decode cJ7_fill_53178 12 = .ok (.iload_n 1, 1) := dK_s_3.2.2.1
theorem dJ7_fill_53178_13 : decode cJ7_fill_53178 13 = .ok (.iastore, 1) := dK_s_3.2.2.2.1
theorem dJ7_fill_53178_14 : decode cJ7_fill_53178 14 = .ok (.iinc 2 1, 3) := dK_s_3.2.2.2.2.1
theorem dJ7_fill_53178_17 : decode cJ7_fill_53178 17 = .ok (.goto (-12), 3) := dK_s_3.2.2.2.2.2.1
theorem dJ7_fill_53178_20 : decode cJ7_fill_53178 20 = .ok (.return_, 1) := dK_s_3.2.2.2.2.2.2.1
theorem dK_s_4 : dk_P cJ9_abs_0f7a4 [(0, (.iload_n 0, 1)), (1, (.ifCond .ge 8, 3)), (4, (.iload_n 0, 1)), (5, (.ineg, 1)), (6, (.goto 4, 3)), (9, (.iload_n 0, 1)), (10, (.ireturn, 1))] := dk_of 0 (by decide +kernel)
theorem dJ9_abs_0f7a4_0 : decode cJ9_abs_0f7a4 0 = .ok (.iload_n 0, 1) := dK_s_4.1
theorem dJ9_abs_0f7a4_1 : decode cJ9_abs_0f7a4 1 = .ok (.ifCond .ge 8, 3) := dK_s_4.2.1
theorem dJ9_abs_0f7a4_4 : decode cJ9_abs_0f7a4 4 = .ok (.iload_n 0, 1) := dK_s_4.2.2.1
theorem dJ9_abs_0f7a4_5 : decode cJ9_abs_0f7a4 5 = .ok (.ineg, 1) := dK_s_4.2.2.2.1
theorem dJ9_abs_0f7a4_6 : decode cJ9_abs_0f7a4 6 = .ok (.goto 4, 3) := dK_s_4.2.2.2.2.1
theorem dJ9_abs_0f7a4_9 : decode cJ9_abs_0f7a4 9 = .ok (.iload_n 0, 1) := dK_s_4.2.2.2.2.2.1
theorem dJ9_abs_0f7a4_10 : decode cJ9_abs_0f7a4 10 = .ok (.ireturn, 1) := dK_s_4.2.2.2.2.2.2.1
theorem dK_s_5 : dk_P cJ9_max_7cf53 [(0, (.iload_n 0, 1)), (1, (.iload_n 1, 1)), (2, (.if_icmp .lt 7, 3)), (5, (.iload_n 0, 1)), (6, (.goto 4, 3)), (9, (.iload_n 1, 1)), (10, (.ireturn, 1))] := dk_of 0 (by decide +kernel)
theorem dJ9_max_7cf53_0 : decode cJ9_max_7cf53 0 = .ok (.iload_n 0, 1) := dK_s_5.1
theorem dJ9_max_7cf53_1 : decode cJ9_max_7cf53 1 = .ok (.iload_n 1, 1) := dK_s_5.2.1
theorem dJ9_max_7cf53_2 : decode cJ9_max_7cf53 2 = .ok (.if_icmp .lt 7, 3) := dK_s_5.2.2.1
theorem dJ9_max_7cf53_5 : decode cJ9_max_7cf53 5 = .ok (.iload_n 0, 1) := dK_s_5.2.2.2.1
theorem dJ9_max_7cf53_6 : decode cJ9_max_7cf53 6 = .ok (.goto 4, 3) := dK_s_5.2.2.2.2.1
theorem dJ9_max_7cf53_9 : decode cJ9_max_7cf53 9 = .ok (.iload_n 1, 1) := dK_s_5.2.2.2.2.2.1
theorem dJ9_max_7cf53_10 : decode cJ9_max_7cf53 10 = .ok (.ireturn, 1) := dK_s_5.2.2.2.2.2.2.1
theorem dK_s_6 : dk_P cJ9_min_7cf53 [(0, (.iload_n 0, 1)), (1, (.iload_n 1, 1)), (2, (.if_icmp .gt 7, 3)), (5, (.iload_n 0, 1)), (6, (.goto 4, 3)), (9, (.iload_n 1, 1)), (10, (.ireturn, 1))] := dk_of 0 (by decide +kernel)
theorem dJ9_min_7cf53_0 : decode cJ9_min_7cf53 0 = .ok (.iload_n 0, 1) := dK_s_6.1
theorem dJ9_min_7cf53_1 : decode cJ9_min_7cf53 1 = .ok (.iload_n 1, 1) := dK_s_6.2.1
theorem dJ9_min_7cf53_2 : decode cJ9_min_7cf53 2 = .ok (.if_icmp .gt 7, 3) := dK_s_6.2.2.1
theorem dJ9_min_7cf53_5 : decode cJ9_min_7cf53 5 = .ok (.iload_n 0, 1) := dK_s_6.2.2.2.1
theorem dJ9_min_7cf53_6 : decode cJ9_min_7cf53 6 = .ok (.goto 4, 3) := dK_s_6.2.2.2.2.1
theorem dJ9_min_7cf53_9 : decode cJ9_min_7cf53 9 = .ok (.iload_n 1, 1) := dK_s_6.2.2.2.2.2.1
theorem dJ9_min_7cf53_10 : decode cJ9_min_7cf53 10 = .ok (.ireturn, 1) := dK_s_6.2.2.2.2.2.2.1
theorem dK_s_7 : dk_P cX0_init [(0, (.aload_n 0, 1)), (1, (.invokespecial 1, 3)), (4, (.return_, 1))] := dk_of 0 (by decide +kernel)
theorem dX0_init_0 : decode cX0_init 0 = .ok (.aload_n 0, 1) := dK_s_7.1
theorem dX0_init_1 : decode cX0_init 1 = .ok (.invokespecial 1, 3) := dK_s_7.2.1
theorem dX0_init_4 : decode cX0_init 4 = .ok (.return_, 1) := dK_s_7.2.2.1
theorem dK_s_8 : dk_P cX0_aimOf [(0, (.iconst 1, 1)), (1, (.ireturn, 1))] := dk_of 0 (by decide +kernel)
theorem dX0_aimOf_0 : decode cX0_aimOf 0 = .ok (.iconst 1, 1) := dK_s_8.1
theorem dX0_aimOf_1 : decode cX0_aimOf 1 = .ok (.ireturn, 1) := dK_s_8.2.1
theorem dK_s_9 : dk_P cX0_strideOf [(0, (.aload_n 0, 1)), (1, (.aload_n 1, 1)), (2, (.iload_n 2, 1)), (3, (.iload_n 3, 1)), (4, (.invokespecial 7, 3)), (7, (.iload_n 2, 1)), (8, (.iconst 2, 1)), (9, (.irem, 1))] := dk_of 0 (by decide +kernel)
theorem dX0_strideOf_0 : decode cX0_strideOf 0 = .ok (.aload_n 0, 1) := dK_s_9.1
theorem dX0_strideOf_1 : decode cX0_strideOf 1 = .ok (.aload_n 1, 1) := dK_s_9.2.1
theorem dX0_strideOf_2 : decode cX0_strideOf 2 = .ok (.iload_n 2, 1) := dK_s_9.2.2.1
theorem dX0_strideOf_3 : decode cX0_strideOf 3 = .ok (.iload_n 3, 1) := dK_s_9.2.2.2.1
theorem dX0_strideOf_4 : decode cX0_strideOf 4 = .ok (.invokespecial 7, 3) := dK_s_9.2.2.2.2.1
theorem dX0_strideOf_7 : decode cX0_strideOf 7 = .ok (.iload_n 2, 1) := dK_s_9.2.2.2.2.2.1
theorem dX0_strideOf_8 : decode cX0_strideOf 8 = .ok (.iconst 2, 1) := dK_s_9.2.2.2.2.2.2.1
theorem dX0_strideOf_9 : decode cX0_strideOf 9 = .ok (.irem, 1) := dK_s_9.2.2.2.2.2.2.2.1
theorem dK_s_10 : dk_P cX0_strideOf [(10, (.iadd, 1)), (11, (.ireturn, 1))] := dk_of 10 (by decide +kernel)
theorem dX0_strideOf_10 : decode cX0_strideOf 10 = .ok (.iadd, 1) := dK_s_10.1
theorem dX0_strideOf_11 : decode cX0_strideOf 11 = .ok (.ireturn, 1) := dK_s_10.2.1
theorem dK_s_11 : dk_P cX0_lengthOf [(0, (.aload_n 0, 1)), (1, (.aload_n 1, 1)), (2, (.iload_n 2, 1)), (3, (.iload_n 3, 1)), (4, (.iload 4, 2)), (6, (.invokespecial 11, 3)), (9, (.iconst 3, 1)), (10, (.iadd, 1))] := dk_of 0 (by decide +kernel)
theorem dX0_lengthOf_0 : decode cX0_lengthOf 0 = .ok (.aload_n 0, 1) := dK_s_11.1
theorem dX0_lengthOf_1 : decode cX0_lengthOf 1 = .ok (.aload_n 1, 1) := dK_s_11.2.1
theorem dX0_lengthOf_2 : decode cX0_lengthOf 2 = .ok (.iload_n 2, 1) := dK_s_11.2.2.1
theorem dX0_lengthOf_3 : decode cX0_lengthOf 3 = .ok (.iload_n 3, 1) := dK_s_11.2.2.2.1
theorem dX0_lengthOf_4 : decode cX0_lengthOf 4 = .ok (.iload 4, 2) := dK_s_11.2.2.2.2.1
theorem dX0_lengthOf_6 : decode cX0_lengthOf 6 = .ok (.invokespecial 11, 3) := dK_s_11.2.2.2.2.2.1
theorem dX0_lengthOf_9 : decode cX0_lengthOf 9 = .ok (.iconst 3, 1) := dK_s_11.2.2.2.2.2.2.1
theorem dX0_lengthOf_10 : decode cX0_lengthOf 10 = .ok (.iadd, 1) := dK_s_11.2.2.2.2.2.2.2.1
theorem dK_s_12 : dk_P cX0_lengthOf [(11, (.ireturn, 1))] := dk_of 11 (by decide +kernel)
theorem dX0_lengthOf_11 : decode cX0_lengthOf 11 = .ok (.ireturn, 1) := dK_s_12.1
theorem dK_s_13 : dk_P cX1_init [(0, (.aload_n 0, 1)), (1, (.invokespecial 3, 3)), (4, (.aload_n 0, 1)), (5, (.bipush 21, 2)), (7, (.bipush 41, 2)), (9, (.multianewarray 9 2, 4)), (13, (.putfield 11, 3)), (16, (.aload_n 0, 1))] := dk_of 0 (by decide +kernel)
theorem dX1_init_0 : decode cX1_init 0 = .ok (.aload_n 0, 1) := dK_s_13.1
theorem dX1_init_1 : decode cX1_init 1 = .ok (.invokespecial 3, 3) := dK_s_13.2.1
theorem dX1_init_4 : decode cX1_init 4 = .ok (.aload_n 0, 1) := dK_s_13.2.2.1
theorem dX1_init_5 : decode cX1_init 5 = .ok (.bipush 21, 2) := dK_s_13.2.2.2.1
theorem dX1_init_7 : decode cX1_init 7 = .ok (.bipush 41, 2) := dK_s_13.2.2.2.2.1
theorem dX1_init_9 : decode cX1_init 9 = .ok (.multianewarray 9 2, 4) := dK_s_13.2.2.2.2.2.1
theorem dX1_init_13 : decode cX1_init 13 = .ok (.putfield 11, 3) := dK_s_13.2.2.2.2.2.2.1
theorem dX1_init_16 : decode cX1_init 16 = .ok (.aload_n 0, 1) := dK_s_13.2.2.2.2.2.2.2.1
theorem dK_s_14 : dk_P cX1_init [(17, (.sipush 1000, 3)), (20, (.newarray .long, 2)), (22, (.putfield 16, 3)), (25, (.aload_n 0, 1)), (26, (.lconst 1, 1)), (27, (.putfield 20, 3)), (30, (.aload_n 0, 1)), (31, (.getfield 11, 3))] := dk_of 17 (by decide +kernel)
theorem dX1_init_17 : decode cX1_init 17 = .ok (.sipush 1000, 3) := dK_s_14.1
theorem dX1_init_20 : decode cX1_init 20 = .ok (.newarray .long, 2) := dK_s_14.2.1
theorem dX1_init_22 : decode cX1_init 22 = .ok (.putfield 16, 3) := dK_s_14.2.2.1
theorem dX1_init_25 : decode cX1_init 25 = .ok (.aload_n 0, 1) := dK_s_14.2.2.2.1
theorem dX1_init_26 : decode cX1_init 26 = .ok (.lconst 1, 1) := dK_s_14.2.2.2.2.1
theorem dX1_init_27 : decode cX1_init 27 = .ok (.putfield 20, 3) := dK_s_14.2.2.2.2.2.1
theorem dX1_init_30 : decode cX1_init 30 = .ok (.aload_n 0, 1) := dK_s_14.2.2.2.2.2.2.1
theorem dX1_init_31 : decode cX1_init 31 = .ok (.getfield 11, 3) := dK_s_14.2.2.2.2.2.2.2.1
theorem dK_s_15 : dk_P cX1_init [(34, (.iconst 0, 1)), (35, (.aaload, 1)), (36, (.iconst 0, 1)), (37, (.lconst 1, 1)), (38, (.lastore, 1)), (39, (.iconst 1, 1)), (40, (.istore_n 1, 1)), (41, (.iload_n 1, 1))] := dk_of 34 (by decide +kernel)
theorem dX1_init_34 : decode cX1_init 34 = .ok (.iconst 0, 1) := dK_s_15.1
theorem dX1_init_35 : decode cX1_init 35 = .ok (.aaload, 1) := dK_s_15.2.1
theorem dX1_init_36 : decode cX1_init 36 = .ok (.iconst 0, 1) := dK_s_15.2.2.1
theorem dX1_init_37 : decode cX1_init 37 = .ok (.lconst 1, 1) := dK_s_15.2.2.2.1
theorem dX1_init_38 : decode cX1_init 38 = .ok (.lastore, 1) := dK_s_15.2.2.2.2.1
theorem dX1_init_39 : decode cX1_init 39 = .ok (.iconst 1, 1) := dK_s_15.2.2.2.2.2.1
theorem dX1_init_40 : decode cX1_init 40 = .ok (.istore_n 1, 1) := dK_s_15.2.2.2.2.2.2.1
theorem dX1_init_41 : decode cX1_init 41 = .ok (.iload_n 1, 1) := dK_s_15.2.2.2.2.2.2.2.1
theorem dK_s_16 : dk_P cX1_init [(42, (.bipush 20, 2)), (44, (.if_icmp .gt 97, 3)), (47, (.iconst 0, 1)), (48, (.istore_n 2, 1)), (49, (.iload_n 2, 1)), (50, (.iconst 2, 1)), (51, (.iload_n 1, 1)), (52, (.imul, 1))] := dk_of 42 (by decide +kernel)
theorem dX1_init_42 : decode cX1_init 42 = .ok (.bipush 20, 2) := dK_s_16.1
theorem dX1_init_44 : decode cX1_init 44 = .ok (.if_icmp .gt 97, 3) := dK_s_16.2.1
theorem dX1_init_47 : decode cX1_init 47 = .ok (.iconst 0, 1) := dK_s_16.2.2.1
theorem dX1_init_48 : decode cX1_init 48 = .ok (.istore_n 2, 1) := dK_s_16.2.2.2.1
theorem dX1_init_49 : decode cX1_init 49 = .ok (.iload_n 2, 1) := dK_s_16.2.2.2.2.1
theorem dX1_init_50 : decode cX1_init 50 = .ok (.iconst 2, 1) := dK_s_16.2.2.2.2.2.1
theorem dX1_init_51 : decode cX1_init 51 = .ok (.iload_n 1, 1) := dK_s_16.2.2.2.2.2.2.1
theorem dX1_init_52 : decode cX1_init 52 = .ok (.imul, 1) := dK_s_16.2.2.2.2.2.2.2.1
theorem dK_s_17 : dk_P cX1_init [(53, (.iconst 2, 1)), (54, (.isub, 1)), (55, (.if_icmp .gt 80, 3)), (58, (.aload_n 0, 1)), (59, (.getfield 11, 3)), (62, (.iload_n 1, 1)), (63, (.aaload, 1)), (64, (.iload_n 2, 1))] := dk_of 53 (by decide +kernel)
theorem dX1_init_53 : decode cX1_init 53 = .ok (.iconst 2, 1) := dK_s_17.1
theorem dX1_init_54 : decode cX1_init 54 = .ok (.isub, 1) := dK_s_17.2.1
theorem dX1_init_55 : decode cX1_init 55 = .ok (.if_icmp .gt 80, 3) := dK_s_17.2.2.1
theorem dX1_init_58 : decode cX1_init 58 = .ok (.aload_n 0, 1) := dK_s_17.2.2.2.1
theorem dX1_init_59 : decode cX1_init 59 = .ok (.getfield 11, 3) := dK_s_17.2.2.2.2.1
theorem dX1_init_62 : decode cX1_init 62 = .ok (.iload_n 1, 1) := dK_s_17.2.2.2.2.2.1
theorem dX1_init_63 : decode cX1_init 63 = .ok (.aaload, 1) := dK_s_17.2.2.2.2.2.2.1
theorem dX1_init_64 : decode cX1_init 64 = .ok (.iload_n 2, 1) := dK_s_17.2.2.2.2.2.2.2.1
theorem dK_s_18 : dk_P cX1_init [(65, (.dup2, 1)), (66, (.laload, 1)), (67, (.aload_n 0, 1)), (68, (.getfield 11, 3)), (71, (.iload_n 1, 1)), (72, (.iconst 1, 1)), (73, (.isub, 1)), (74, (.aaload, 1))] := dk_of 65 (by decide +kernel)
theorem dX1_init_65 : decode cX1_init 65 = .ok (.dup2, 1) := dK_s_18.1
theorem dX1_init_66 : decode cX1_init 66 = .ok (.laload, 1) := dK_s_18.2.1
theorem dX1_init_67 : decode cX1_init 67 = .ok (.aload_n 0, 1) := dK_s_18.2.2.1
theorem dX1_init_68 : decode cX1_init 68 = .ok (.getfield 11, 3) := dK_s_18.2.2.2.1
theorem dX1_init_71 : decode cX1_init 71 = .ok (.iload_n 1, 1) := dK_s_18.2.2.2.2.1
theorem dX1_init_72 : decode cX1_init 72 = .ok (.iconst 1, 1) := dK_s_18.2.2.2.2.2.1
theorem dX1_init_73 : decode cX1_init 73 = .ok (.isub, 1) := dK_s_18.2.2.2.2.2.2.1
theorem dX1_init_74 : decode cX1_init 74 = .ok (.aaload, 1) := dK_s_18.2.2.2.2.2.2.2.1
theorem dK_s_19 : dk_P cX1_init [(75, (.iload_n 2, 1)), (76, (.laload, 1)), (77, (.ladd, 1)), (78, (.lastore, 1)), (79, (.aload_n 0, 1)), (80, (.getfield 11, 3)), (83, (.iload_n 1, 1)), (84, (.aaload, 1))] := dk_of 75 (by decide +kernel)
theorem dX1_init_75 : decode cX1_init 75 = .ok (.iload_n 2, 1) := dK_s_19.1
theorem dX1_init_76 : decode cX1_init 76 = .ok (.laload, 1) := dK_s_19.2.1
theorem dX1_init_77 : decode cX1_init 77 = .ok (.ladd, 1) := dK_s_19.2.2.1
theorem dX1_init_78 : decode cX1_init 78 = .ok (.lastore, 1) := dK_s_19.2.2.2.1
theorem dX1_init_79 : decode cX1_init 79 = .ok (.aload_n 0, 1) := dK_s_19.2.2.2.2.1
theorem dX1_init_80 : decode cX1_init 80 = .ok (.getfield 11, 3) := dK_s_19.2.2.2.2.2.1
theorem dX1_init_83 : decode cX1_init 83 = .ok (.iload_n 1, 1) := dK_s_19.2.2.2.2.2.2.1
theorem dX1_init_84 : decode cX1_init 84 = .ok (.aaload, 1) := dK_s_19.2.2.2.2.2.2.2.1
theorem dK_s_20 : dk_P cX1_init [(85, (.iload_n 2, 1)), (86, (.iconst 1, 1)), (87, (.iadd, 1)), (88, (.dup2, 1)), (89, (.laload, 1)), (90, (.ldc2_w 24, 3)), (93, (.aload_n 0, 1)), (94, (.getfield 11, 3))] := dk_of 85 (by decide +kernel)
theorem dX1_init_85 : decode cX1_init 85 = .ok (.iload_n 2, 1) := dK_s_20.1
theorem dX1_init_86 : decode cX1_init 86 = .ok (.iconst 1, 1) := dK_s_20.2.1
theorem dX1_init_87 : decode cX1_init 87 = .ok (.iadd, 1) := dK_s_20.2.2.1
theorem dX1_init_88 : decode cX1_init 88 = .ok (.dup2, 1) := dK_s_20.2.2.2.1
theorem dX1_init_89 : decode cX1_init 89 = .ok (.laload, 1) := dK_s_20.2.2.2.2.1
theorem dX1_init_90 : decode cX1_init 90 = .ok (.ldc2_w 24, 3) := dK_s_20.2.2.2.2.2.1
theorem dX1_init_93 : decode cX1_init 93 = .ok (.aload_n 0, 1) := dK_s_20.2.2.2.2.2.2.1
theorem dX1_init_94 : decode cX1_init 94 = .ok (.getfield 11, 3) := dK_s_20.2.2.2.2.2.2.2.1
theorem dK_s_21 : dk_P cX1_init [(97, (.iload_n 1, 1)), (98, (.iconst 1, 1)), (99, (.isub, 1)), (100, (.aaload, 1)), (101, (.iload_n 2, 1)), (102, (.laload, 1)), (103, (.lmul, 1)), (104, (.ladd, 1))] := dk_of 97 (by decide +kernel)
theorem dX1_init_97 : decode cX1_init 97 = .ok (.iload_n 1, 1) := dK_s_21.1
theorem dX1_init_98 : decode cX1_init 98 = .ok (.iconst 1, 1) := dK_s_21.2.1
theorem dX1_init_99 : decode cX1_init 99 = .ok (.isub, 1) := dK_s_21.2.2.1
theorem dX1_init_100 : decode cX1_init 100 = .ok (.aaload, 1) := dK_s_21.2.2.2.1
theorem dX1_init_101 : decode cX1_init 101 = .ok (.iload_n 2, 1) := dK_s_21.2.2.2.2.1
theorem dX1_init_102 : decode cX1_init 102 = .ok (.laload, 1) := dK_s_21.2.2.2.2.2.1
theorem dX1_init_103 : decode cX1_init 103 = .ok (.lmul, 1) := dK_s_21.2.2.2.2.2.2.1
theorem dX1_init_104 : decode cX1_init 104 = .ok (.ladd, 1) := dK_s_21.2.2.2.2.2.2.2.1
theorem dK_s_22 : dk_P cX1_init [(105, (.lastore, 1)), (106, (.aload_n 0, 1)), (107, (.getfield 11, 3)), (110, (.iload_n 1, 1)), (111, (.aaload, 1)), (112, (.iload_n 2, 1)), (113, (.iconst 2, 1)), (114, (.iadd, 1))] := dk_of 105 (by decide +kernel)
theorem dX1_init_105 : decode cX1_init 105 = .ok (.lastore, 1) := dK_s_22.1
theorem dX1_init_106 : decode cX1_init 106 = .ok (.aload_n 0, 1) := dK_s_22.2.1
theorem dX1_init_107 : decode cX1_init 107 = .ok (.getfield 11, 3) := dK_s_22.2.2.1
theorem dX1_init_110 : decode cX1_init 110 = .ok (.iload_n 1, 1) := dK_s_22.2.2.2.1
theorem dX1_init_111 : decode cX1_init 111 = .ok (.aaload, 1) := dK_s_22.2.2.2.2.1
theorem dX1_init_112 : decode cX1_init 112 = .ok (.iload_n 2, 1) := dK_s_22.2.2.2.2.2.1
theorem dX1_init_113 : decode cX1_init 113 = .ok (.iconst 2, 1) := dK_s_22.2.2.2.2.2.2.1
theorem dX1_init_114 : decode cX1_init 114 = .ok (.iadd, 1) := dK_s_22.2.2.2.2.2.2.2.1
theorem dK_s_23 : dk_P cX1_init [(115, (.dup2, 1)), (116, (.laload, 1)), (117, (.aload_n 0, 1)), (118, (.getfield 11, 3)), (121, (.iload_n 1, 1)), (122, (.iconst 1, 1)), (123, (.isub, 1)), (124, (.aaload, 1))] := dk_of 115 (by decide +kernel)
theorem dX1_init_115 : decode cX1_init 115 = .ok (.dup2, 1) := dK_s_23.1
theorem dX1_init_116 : decode cX1_init 116 = .ok (.laload, 1) := dK_s_23.2.1
theorem dX1_init_117 : decode cX1_init 117 = .ok (.aload_n 0, 1) := dK_s_23.2.2.1
theorem dX1_init_118 : decode cX1_init 118 = .ok (.getfield 11, 3) := dK_s_23.2.2.2.1
theorem dX1_init_121 : decode cX1_init 121 = .ok (.iload_n 1, 1) := dK_s_23.2.2.2.2.1
theorem dX1_init_122 : decode cX1_init 122 = .ok (.iconst 1, 1) := dK_s_23.2.2.2.2.2.1
theorem dX1_init_123 : decode cX1_init 123 = .ok (.isub, 1) := dK_s_23.2.2.2.2.2.2.1
theorem dX1_init_124 : decode cX1_init 124 = .ok (.aaload, 1) := dK_s_23.2.2.2.2.2.2.2.1
theorem dK_s_24 : dk_P cX1_init [(125, (.iload_n 2, 1)), (126, (.laload, 1)), (127, (.ladd, 1)), (128, (.lastore, 1)), (129, (.iinc 2 1, 3)), (132, (.goto (-83), 3)), (135, (.iinc 1 1, 3)), (138, (.goto (-97), 3))] := dk_of 125 (by decide +kernel)
theorem dX1_init_125 : decode cX1_init 125 = .ok (.iload_n 2, 1) := dK_s_24.1
theorem dX1_init_126 : decode cX1_init 126 = .ok (.laload, 1) := dK_s_24.2.1
theorem dX1_init_127 : decode cX1_init 127 = .ok (.ladd, 1) := dK_s_24.2.2.1
theorem dX1_init_128 : decode cX1_init 128 = .ok (.lastore, 1) := dK_s_24.2.2.2.1
theorem dX1_init_129 : decode cX1_init 129 = .ok (.iinc 2 1, 3) := dK_s_24.2.2.2.2.1
theorem dX1_init_132 : decode cX1_init 132 = .ok (.goto (-83), 3) := dK_s_24.2.2.2.2.2.1
theorem dX1_init_135 : decode cX1_init 135 = .ok (.iinc 1 1, 3) := dK_s_24.2.2.2.2.2.2.1
theorem dX1_init_138 : decode cX1_init 138 = .ok (.goto (-97), 3) := dK_s_24.2.2.2.2.2.2.2.1
theorem dK_s_25 : dk_P cX1_init [(141, (.return_, 1))] := dk_of 141 (by decide +kernel)
theorem dX1_init_141 : decode cX1_init 141 = .ok (.return_, 1) := dK_s_25.1
theorem dK_s_26 : dk_P cX1_spread [(0, (.aload_n 0, 1)), (1, (.getfield 16, 3)), (4, (.lconst 0, 1)), (5, (.invokestatic 26, 3)), (8, (.aload_n 0, 1)), (9, (.lconst 0, 1)), (10, (.putfield 32, 3)), (13, (.aload_n 0, 1))] := dk_of 0 (by decide +kernel)
theorem dX1_spread_0 : decode cX1_spread 0 = .ok (.aload_n 0, 1) := dK_s_26.1
theorem dX1_spread_1 : decode cX1_spread 1 = .ok (.getfield 16, 3) := dK_s_26.2.1
theorem dX1_spread_4 : decode cX1_spread 4 = .ok (.lconst 0, 1) := dK_s_26.2.2.1
theorem dX1_spread_5 : decode cX1_spread 5 = .ok (.invokestatic 26, 3) := dK_s_26.2.2.2.1
theorem dX1_spread_8 : decode cX1_spread 8 = .ok (.aload_n 0, 1) := dK_s_26.2.2.2.2.1
theorem dX1_spread_9 : decode cX1_spread 9 = .ok (.lconst 0, 1) := dK_s_26.2.2.2.2.2.1
theorem dX1_spread_10 : decode cX1_spread 10 = .ok (.putfield 32, 3) := dK_s_26.2.2.2.2.2.2.1
theorem dX1_spread_13 : decode cX1_spread 13 = .ok (.aload_n 0, 1) := dK_s_26.2.2.2.2.2.2.2.1
theorem dK_s_27 : dk_P cX1_spread [(14, (.lconst 0, 1)), (15, (.putfield 35, 3)), (18, (.iload_n 2, 1)), (19, (.aload_n 1, 1)), (20, (.getfield 38, 3)), (23, (.isub, 1)), (24, (.istore 6, 2)), (26, (.iload 6, 2))] := dk_of 14 (by decide +kernel)
theorem dX1_spread_14 : decode cX1_spread 14 = .ok (.lconst 0, 1) := dK_s_27.1
theorem dX1_spread_15 : decode cX1_spread 15 = .ok (.putfield 35, 3) := dK_s_27.2.1
theorem dX1_spread_18 : decode cX1_spread 18 = .ok (.iload_n 2, 1) := dK_s_27.2.2.1
theorem dX1_spread_19 : decode cX1_spread 19 = .ok (.aload_n 1, 1) := dK_s_27.2.2.2.1
theorem dX1_spread_20 : decode cX1_spread 20 = .ok (.getfield 38, 3) := dK_s_27.2.2.2.2.1
theorem dX1_spread_23 : decode cX1_spread 23 = .ok (.isub, 1) := dK_s_27.2.2.2.2.2.1
theorem dX1_spread_24 : decode cX1_spread 24 = .ok (.istore 6, 2) := dK_s_27.2.2.2.2.2.2.1
theorem dX1_spread_26 : decode cX1_spread 26 = .ok (.iload 6, 2) := dK_s_27.2.2.2.2.2.2.2.1
theorem dK_s_28 : dk_P cX1_spread [(28, (.ifCond .lt 24, 3)), (31, (.iload_n 2, 1)), (32, (.bipush 20, 2)), (34, (.if_icmp .gt 18, 3)), (37, (.aload_n 1, 1)), (38, (.getfield 38, 3)), (41, (.ifCond .lt 11, 3)), (44, (.aload_n 1, 1))] := dk_of 28 (by decide +kernel)
theorem dX1_spread_28 : decode cX1_spread 28 = .ok (.ifCond .lt 24, 3) := dK_s_28.1
theorem dX1_spread_31 : decode cX1_spread 31 = .ok (.iload_n 2, 1) := dK_s_28.2.1
theorem dX1_spread_32 : decode cX1_spread 32 = .ok (.bipush 20, 2) := dK_s_28.2.2.1
theorem dX1_spread_34 : decode cX1_spread 34 = .ok (.if_icmp .gt 18, 3) := dK_s_28.2.2.2.1
theorem dX1_spread_37 : decode cX1_spread 37 = .ok (.aload_n 1, 1) := dK_s_28.2.2.2.2.1
theorem dX1_spread_38 : decode cX1_spread 38 = .ok (.getfield 38, 3) := dK_s_28.2.2.2.2.2.1
theorem dX1_spread_41 : decode cX1_spread 41 = .ok (.ifCond .lt 11, 3) := dK_s_28.2.2.2.2.2.2.1
theorem dX1_spread_44 : decode cX1_spread 44 = .ok (.aload_n 1, 1) := dK_s_28.2.2.2.2.2.2.2.1
theorem dK_s_29 : dk_P cX1_spread [(45, (.getfield 38, 3)), (48, (.iconst 4, 1)), (49, (.if_icmp .le 4, 3)), (52, (.return_, 1)), (53, (.aload_n 0, 1)), (54, (.lconst 1, 1)), (55, (.iconst 2, 1)), (56, (.iload_n 2, 1))] := dk_of 45 (by decide +kernel)
theorem dX1_spread_45 : decode cX1_spread 45 = .ok (.getfield 38, 3) := dK_s_29.1
theorem dX1_spread_48 : decode cX1_spread 48 = .ok (.iconst 4, 1) := dK_s_29.2.1
theorem dX1_spread_49 : decode cX1_spread 49 = .ok (.if_icmp .le 4, 3) := dK_s_29.2.2.1
theorem dX1_spread_52 : decode cX1_spread 52 = .ok (.return_, 1) := dK_s_29.2.2.2.1
theorem dX1_spread_53 : decode cX1_spread 53 = .ok (.aload_n 0, 1) := dK_s_29.2.2.2.2.1
theorem dX1_spread_54 : decode cX1_spread 54 = .ok (.lconst 1, 1) := dK_s_29.2.2.2.2.2.1
theorem dX1_spread_55 : decode cX1_spread 55 = .ok (.iconst 2, 1) := dK_s_29.2.2.2.2.2.2.1
theorem dX1_spread_56 : decode cX1_spread 56 = .ok (.iload_n 2, 1) := dK_s_29.2.2.2.2.2.2.2.1
theorem dK_s_30 : dk_P cX1_spread [(57, (.imul, 1)), (58, (.lshl, 1)), (59, (.putfield 20, 3)), (62, (.aload_n 1, 1)), (63, (.getfield 44, 3)), (66, (.aload_n 1, 1)), (67, (.invokevirtual 48, 3)), (70, (.istore 7, 2))] := dk_of 57 (by decide +kernel)
theorem dX1_spread_57 : decode cX1_spread 57 = .ok (.imul, 1) := dK_s_30.1
theorem dX1_spread_58 : decode cX1_spread 58 = .ok (.lshl, 1) := dK_s_30.2.1
theorem dX1_spread_59 : decode cX1_spread 59 = .ok (.putfield 20, 3) := dK_s_30.2.2.1
theorem dX1_spread_62 : decode cX1_spread 62 = .ok (.aload_n 1, 1) := dK_s_30.2.2.2.1
theorem dX1_spread_63 : decode cX1_spread 63 = .ok (.getfield 44, 3) := dK_s_30.2.2.2.2.1
theorem dX1_spread_66 : decode cX1_spread 66 = .ok (.aload_n 1, 1) := dK_s_30.2.2.2.2.2.1
theorem dX1_spread_67 : decode cX1_spread 67 = .ok (.invokevirtual 48, 3) := dK_s_30.2.2.2.2.2.2.1
theorem dX1_spread_70 : decode cX1_spread 70 = .ok (.istore 7, 2) := dK_s_30.2.2.2.2.2.2.2.1
theorem dK_s_31 : dk_P cX1_spread [(72, (.iload 6, 2)), (74, (.ineg, 1)), (75, (.istore 8, 2)), (77, (.iload 8, 2)), (79, (.iload 6, 2)), (81, (.if_icmp .gt 74, 3)), (84, (.iload 4, 2)), (86, (.aload_n 1, 1))] := dk_of 72 (by decide +kernel)
theorem dX1_spread_72 : decode cX1_spread 72 = .ok (.iload 6, 2) := dK_s_31.1
theorem dX1_spread_74 : decode cX1_spread 74 = .ok (.ineg, 1) := dK_s_31.2.1
theorem dX1_spread_75 : decode cX1_spread 75 = .ok (.istore 8, 2) := dK_s_31.2.2.1
theorem dX1_spread_77 : decode cX1_spread 77 = .ok (.iload 8, 2) := dK_s_31.2.2.2.1
theorem dX1_spread_79 : decode cX1_spread 79 = .ok (.iload 6, 2) := dK_s_31.2.2.2.2.1
theorem dX1_spread_81 : decode cX1_spread 81 = .ok (.if_icmp .gt 74, 3) := dK_s_31.2.2.2.2.2.1
theorem dX1_spread_84 : decode cX1_spread 84 = .ok (.iload 4, 2) := dK_s_31.2.2.2.2.2.2.1
theorem dX1_spread_86 : decode cX1_spread 86 = .ok (.aload_n 1, 1) := dK_s_31.2.2.2.2.2.2.2.1
theorem dK_s_32 : dk_P cX1_spread [(87, (.getfield 54, 3)), (90, (.iload 8, 2)), (92, (.imul, 1)), (93, (.isub, 1)), (94, (.istore 9, 2)), (96, (.aload_n 1, 1)), (97, (.getfield 38, 3)), (100, (.ifCond .le 13, 3))] := dk_of 87 (by decide +kernel)
theorem dX1_spread_87 : decode cX1_spread 87 = .ok (.getfield 54, 3) := dK_s_32.1
theorem dX1_spread_90 : decode cX1_spread 90 = .ok (.iload 8, 2) := dK_s_32.2.1
theorem dX1_spread_92 : decode cX1_spread 92 = .ok (.imul, 1) := dK_s_32.2.2.1
theorem dX1_spread_93 : decode cX1_spread 93 = .ok (.isub, 1) := dK_s_32.2.2.2.1
theorem dX1_spread_94 : decode cX1_spread 94 = .ok (.istore 9, 2) := dK_s_32.2.2.2.2.1
theorem dX1_spread_96 : decode cX1_spread 96 = .ok (.aload_n 1, 1) := dK_s_32.2.2.2.2.2.1
theorem dX1_spread_97 : decode cX1_spread 97 = .ok (.getfield 38, 3) := dK_s_32.2.2.2.2.2.2.1
theorem dX1_spread_100 : decode cX1_spread 100 = .ok (.ifCond .le 13, 3) := dK_s_32.2.2.2.2.2.2.2.1
theorem dK_s_33 : dk_P cX1_spread [(103, (.iload 9, 2)), (105, (.iload 7, 2)), (107, (.isub, 1)), (108, (.iconst 2, 1)), (109, (.idiv, 1)), (110, (.goto 4, 3)), (113, (.iconst 0, 1)), (114, (.istore 10, 2))] := dk_of 103 (by decide +kernel)
theorem dX1_spread_103 : decode cX1_spread 103 = .ok (.iload 9, 2) := dK_s_33.1
theorem dX1_spread_105 : decode cX1_spread 105 = .ok (.iload 7, 2) := dK_s_33.2.1
theorem dX1_spread_107 : decode cX1_spread 107 = .ok (.isub, 1) := dK_s_33.2.2.1
theorem dX1_spread_108 : decode cX1_spread 108 = .ok (.iconst 2, 1) := dK_s_33.2.2.2.1
theorem dX1_spread_109 : decode cX1_spread 109 = .ok (.idiv, 1) := dK_s_33.2.2.2.2.1
theorem dX1_spread_110 : decode cX1_spread 110 = .ok (.goto 4, 3) := dK_s_33.2.2.2.2.2.1
theorem dX1_spread_113 : decode cX1_spread 113 = .ok (.iconst 0, 1) := dK_s_33.2.2.2.2.2.2.1
theorem dX1_spread_114 : decode cX1_spread 114 = .ok (.istore 10, 2) := dK_s_33.2.2.2.2.2.2.2.1
theorem dK_s_34 : dk_P cX1_spread [(116, (.aload_n 0, 1)), (117, (.aload_n 1, 1)), (118, (.iload_n 3, 1)), (119, (.iload 9, 2)), (121, (.iload 10, 2)), (123, (.isub, 1)), (124, (.iload 10, 2)), (126, (.invokestatic 57, 3))] := dk_of 116 (by decide +kernel)
theorem dX1_spread_116 : decode cX1_spread 116 = .ok (.aload_n 0, 1) := dK_s_34.1
theorem dX1_spread_117 : decode cX1_spread 117 = .ok (.aload_n 1, 1) := dK_s_34.2.1
theorem dX1_spread_118 : decode cX1_spread 118 = .ok (.iload_n 3, 1) := dK_s_34.2.2.1
theorem dX1_spread_119 : decode cX1_spread 119 = .ok (.iload 9, 2) := dK_s_34.2.2.2.1
theorem dX1_spread_121 : decode cX1_spread 121 = .ok (.iload 10, 2) := dK_s_34.2.2.2.2.1
theorem dX1_spread_123 : decode cX1_spread 123 = .ok (.isub, 1) := dK_s_34.2.2.2.2.2.1
theorem dX1_spread_124 : decode cX1_spread 124 = .ok (.iload 10, 2) := dK_s_34.2.2.2.2.2.2.1
theorem dX1_spread_126 : decode cX1_spread 126 = .ok (.invokestatic 57, 3) := dK_s_34.2.2.2.2.2.2.2.1
theorem dK_s_35 : dk_P cX1_spread [(129, (.iconst 4, 1)), (130, (.idiv, 1)), (131, (.iload 5, 2)), (133, (.aload_n 0, 1)), (134, (.getfield 11, 3)), (137, (.iload 6, 2)), (139, (.aaload, 1)), (140, (.iload 6, 2))] := dk_of 129 (by decide +kernel)
theorem dX1_spread_129 : decode cX1_spread 129 = .ok (.iconst 4, 1) := dK_s_35.1
theorem dX1_spread_130 : decode cX1_spread 130 = .ok (.idiv, 1) := dK_s_35.2.1
theorem dX1_spread_131 : decode cX1_spread 131 = .ok (.iload 5, 2) := dK_s_35.2.2.1
theorem dX1_spread_133 : decode cX1_spread 133 = .ok (.aload_n 0, 1) := dK_s_35.2.2.2.1
theorem dX1_spread_134 : decode cX1_spread 134 = .ok (.getfield 11, 3) := dK_s_35.2.2.2.2.1
theorem dX1_spread_137 : decode cX1_spread 137 = .ok (.iload 6, 2) := dK_s_35.2.2.2.2.2.1
theorem dX1_spread_139 : decode cX1_spread 139 = .ok (.aaload, 1) := dK_s_35.2.2.2.2.2.2.1
theorem dX1_spread_140 : decode cX1_spread 140 = .ok (.iload 6, 2) := dK_s_35.2.2.2.2.2.2.2.1
theorem dK_s_36 : dk_P cX1_spread [(142, (.iload 8, 2)), (144, (.iadd, 1)), (145, (.laload, 1)), (146, (.invokevirtual 63, 3)), (149, (.iinc 8 1, 3)), (152, (.goto (-75), 3)), (155, (.return_, 1))] := dk_of 142 (by decide +kernel)
theorem dX1_spread_142 : decode cX1_spread 142 = .ok (.iload 8, 2) := dK_s_36.1
theorem dX1_spread_144 : decode cX1_spread 144 = .ok (.iadd, 1) := dK_s_36.2.1
theorem dX1_spread_145 : decode cX1_spread 145 = .ok (.laload, 1) := dK_s_36.2.2.1
theorem dX1_spread_146 : decode cX1_spread 146 = .ok (.invokevirtual 63, 3) := dK_s_36.2.2.2.1
theorem dX1_spread_149 : decode cX1_spread 149 = .ok (.iinc 8 1, 3) := dK_s_36.2.2.2.2.1
theorem dX1_spread_152 : decode cX1_spread 152 = .ok (.goto (-75), 3) := dK_s_36.2.2.2.2.2.1
theorem dX1_spread_155 : decode cX1_spread 155 = .ok (.return_, 1) := dK_s_36.2.2.2.2.2.2.1
theorem dK_s_37 : dk_P cX1_spreadLast [(0, (.aload_n 1, 1)), (1, (.getfield 38, 3)), (4, (.ineg, 1)), (5, (.istore 8, 2)), (7, (.iload 8, 2)), (9, (.aload_n 1, 1)), (10, (.getfield 38, 3)), (13, (.if_icmp .gt 133, 3))] := dk_of 0 (by decide +kernel)
theorem dX1_spreadLast_0 : decode cX1_spreadLast 0 = .ok (.aload_n 1, 1) := dK_s_37.1
theorem dX1_spreadLast_1 : decode cX1_spreadLast 1 = .ok (.getfield 38, 3) := dK_s_37.2.1
theorem dX1_spreadLast_4 : decode cX1_spreadLast 4 = .ok (.ineg, 1) := dK_s_37.2.2.1
theorem dX1_spreadLast_5 : decode cX1_spreadLast 5 = .ok (.istore 8, 2) := dK_s_37.2.2.2.1
theorem dX1_spreadLast_7 : decode cX1_spreadLast 7 = .ok (.iload 8, 2) := dK_s_37.2.2.2.2.1
theorem dX1_spreadLast_9 : decode cX1_spreadLast 9 = .ok (.aload_n 1, 1) := dK_s_37.2.2.2.2.2.1
theorem dX1_spreadLast_10 : decode cX1_spreadLast 10 = .ok (.getfield 38, 3) := dK_s_37.2.2.2.2.2.2.1
theorem dX1_spreadLast_13 : decode cX1_spreadLast 13 = .ok (.if_icmp .gt 133, 3) := dK_s_37.2.2.2.2.2.2.2.1
theorem dK_s_38 : dk_P cX1_spreadLast [(16, (.lload 6, 2)), (18, (.aload_n 0, 1)), (19, (.getfield 11, 3)), (22, (.aload_n 1, 1)), (23, (.getfield 38, 3)), (26, (.aaload, 1)), (27, (.aload_n 1, 1)), (28, (.getfield 38, 3))] := dk_of 16 (by decide +kernel)
theorem dX1_spreadLast_16 : decode cX1_spreadLast 16 = .ok (.lload 6, 2) := dK_s_38.1
theorem dX1_spreadLast_18 : decode cX1_spreadLast 18 = .ok (.aload_n 0, 1) := dK_s_38.2.1
theorem dX1_spreadLast_19 : decode cX1_spreadLast 19 = .ok (.getfield 11, 3) := dK_s_38.2.2.1
theorem dX1_spreadLast_22 : decode cX1_spreadLast 22 = .ok (.aload_n 1, 1) := dK_s_38.2.2.2.1
theorem dX1_spreadLast_23 : decode cX1_spreadLast 23 = .ok (.getfield 38, 3) := dK_s_38.2.2.2.2.1
theorem dX1_spreadLast_26 : decode cX1_spreadLast 26 = .ok (.aaload, 1) := dK_s_38.2.2.2.2.2.1
theorem dX1_spreadLast_27 : decode cX1_spreadLast 27 = .ok (.aload_n 1, 1) := dK_s_38.2.2.2.2.2.2.1
theorem dX1_spreadLast_28 : decode cX1_spreadLast 28 = .ok (.getfield 38, 3) := dK_s_38.2.2.2.2.2.2.2.1
theorem dK_s_39 : dk_P cX1_spreadLast [(31, (.iload 8, 2)), (33, (.iadd, 1)), (34, (.laload, 1)), (35, (.lmul, 1)), (36, (.lstore 9, 2)), (38, (.iload_n 3, 1)), (39, (.aload_n 1, 1)), (40, (.getfield 54, 3))] := dk_of 31 (by decide +kernel)
theorem dX1_spreadLast_31 : decode cX1_spreadLast 31 = .ok (.iload 8, 2) := dK_s_39.1
theorem dX1_spreadLast_33 : decode cX1_spreadLast 33 = .ok (.iadd, 1) := dK_s_39.2.1
theorem dX1_spreadLast_34 : decode cX1_spreadLast 34 = .ok (.laload, 1) := dK_s_39.2.2.1
theorem dX1_spreadLast_35 : decode cX1_spreadLast 35 = .ok (.lmul, 1) := dK_s_39.2.2.2.1
theorem dX1_spreadLast_36 : decode cX1_spreadLast 36 = .ok (.lstore 9, 2) := dK_s_39.2.2.2.2.1
theorem dX1_spreadLast_38 : decode cX1_spreadLast 38 = .ok (.iload_n 3, 1) := dK_s_39.2.2.2.2.2.1
theorem dX1_spreadLast_39 : decode cX1_spreadLast 39 = .ok (.aload_n 1, 1) := dK_s_39.2.2.2.2.2.2.1
theorem dX1_spreadLast_40 : decode cX1_spreadLast 40 = .ok (.getfield 54, 3) := dK_s_39.2.2.2.2.2.2.2.1
theorem dK_s_40 : dk_P cX1_spreadLast [(43, (.iload 8, 2)), (45, (.imul, 1)), (46, (.isub, 1)), (47, (.istore 11, 2)), (49, (.iload 11, 2)), (51, (.ifCond .ge 7, 3)), (54, (.iconst 0, 1)), (55, (.goto 16, 3))] := dk_of 43 (by decide +kernel)
theorem dX1_spreadLast_43 : decode cX1_spreadLast 43 = .ok (.iload 8, 2) := dK_s_40.1
theorem dX1_spreadLast_45 : decode cX1_spreadLast 45 = .ok (.imul, 1) := dK_s_40.2.1
theorem dX1_spreadLast_46 : decode cX1_spreadLast 46 = .ok (.isub, 1) := dK_s_40.2.2.1
theorem dX1_spreadLast_47 : decode cX1_spreadLast 47 = .ok (.istore 11, 2) := dK_s_40.2.2.2.1
theorem dX1_spreadLast_49 : decode cX1_spreadLast 49 = .ok (.iload 11, 2) := dK_s_40.2.2.2.2.1
theorem dX1_spreadLast_51 : decode cX1_spreadLast 51 = .ok (.ifCond .ge 7, 3) := dK_s_40.2.2.2.2.2.1
theorem dX1_spreadLast_54 : decode cX1_spreadLast 54 = .ok (.iconst 0, 1) := dK_s_40.2.2.2.2.2.2.1
theorem dX1_spreadLast_55 : decode cX1_spreadLast 55 = .ok (.goto 16, 3) := dK_s_40.2.2.2.2.2.2.2.1
theorem dK_s_41 : dk_P cX1_spreadLast [(58, (.aload_n 1, 1)), (59, (.getfield 44, 3)), (62, (.aload_n 1, 1)), (63, (.iload 11, 2)), (65, (.iload 4, 2)), (67, (.iload_n 2, 1)), (68, (.invokevirtual 67, 3)), (71, (.istore 12, 2))] := dk_of 58 (by decide +kernel)
theorem dX1_spreadLast_58 : decode cX1_spreadLast 58 = .ok (.aload_n 1, 1) := dK_s_41.1
theorem dX1_spreadLast_59 : decode cX1_spreadLast 59 = .ok (.getfield 44, 3) := dK_s_41.2.1
theorem dX1_spreadLast_62 : decode cX1_spreadLast 62 = .ok (.aload_n 1, 1) := dK_s_41.2.2.1
theorem dX1_spreadLast_63 : decode cX1_spreadLast 63 = .ok (.iload 11, 2) := dK_s_41.2.2.2.1
theorem dX1_spreadLast_65 : decode cX1_spreadLast 65 = .ok (.iload 4, 2) := dK_s_41.2.2.2.2.1
theorem dX1_spreadLast_67 : decode cX1_spreadLast 67 = .ok (.iload_n 2, 1) := dK_s_41.2.2.2.2.2.1
theorem dX1_spreadLast_68 : decode cX1_spreadLast 68 = .ok (.invokevirtual 67, 3) := dK_s_41.2.2.2.2.2.2.1
theorem dX1_spreadLast_71 : decode cX1_spreadLast 71 = .ok (.istore 12, 2) := dK_s_41.2.2.2.2.2.2.2.1
theorem dK_s_42 : dk_P cX1_spreadLast [(73, (.aload_n 0, 1)), (74, (.dup, 1)), (75, (.getfield 32, 3)), (78, (.iload 11, 2)), (80, (.ifCond .ge 8, 3)), (83, (.lload 9, 2)), (85, (.goto 4, 3)), (88, (.lconst 0, 1))] := dk_of 73 (by decide +kernel)
theorem dX1_spreadLast_73 : decode cX1_spreadLast 73 = .ok (.aload_n 0, 1) := dK_s_42.1
theorem dX1_spreadLast_74 : decode cX1_spreadLast 74 = .ok (.dup, 1) := dK_s_42.2.1
theorem dX1_spreadLast_75 : decode cX1_spreadLast 75 = .ok (.getfield 32, 3) := dK_s_42.2.2.1
theorem dX1_spreadLast_78 : decode cX1_spreadLast 78 = .ok (.iload 11, 2) := dK_s_42.2.2.2.1
theorem dX1_spreadLast_80 : decode cX1_spreadLast 80 = .ok (.ifCond .ge 8, 3) := dK_s_42.2.2.2.2.1
theorem dX1_spreadLast_83 : decode cX1_spreadLast 83 = .ok (.lload 9, 2) := dK_s_42.2.2.2.2.2.1
theorem dX1_spreadLast_85 : decode cX1_spreadLast 85 = .ok (.goto 4, 3) := dK_s_42.2.2.2.2.2.2.1
theorem dX1_spreadLast_88 : decode cX1_spreadLast 88 = .ok (.lconst 0, 1) := dK_s_42.2.2.2.2.2.2.2.1
theorem dK_s_43 : dk_P cX1_spreadLast [(89, (.ladd, 1)), (90, (.putfield 32, 3)), (93, (.aload_n 0, 1)), (94, (.dup, 1)), (95, (.getfield 35, 3)), (98, (.iload 11, 2)), (100, (.iload 5, 2)), (102, (.if_icmp .ne 8, 3))] := dk_of 89 (by decide +kernel)
theorem dX1_spreadLast_89 : decode cX1_spreadLast 89 = .ok (.ladd, 1) := dK_s_43.1
theorem dX1_spreadLast_90 : decode cX1_spreadLast 90 = .ok (.putfield 32, 3) := dK_s_43.2.1
theorem dX1_spreadLast_93 : decode cX1_spreadLast 93 = .ok (.aload_n 0, 1) := dK_s_43.2.2.1
theorem dX1_spreadLast_94 : decode cX1_spreadLast 94 = .ok (.dup, 1) := dK_s_43.2.2.2.1
theorem dX1_spreadLast_95 : decode cX1_spreadLast 95 = .ok (.getfield 35, 3) := dK_s_43.2.2.2.2.1
theorem dX1_spreadLast_98 : decode cX1_spreadLast 98 = .ok (.iload 11, 2) := dK_s_43.2.2.2.2.2.1
theorem dX1_spreadLast_100 : decode cX1_spreadLast 100 = .ok (.iload 5, 2) := dK_s_43.2.2.2.2.2.2.1
theorem dX1_spreadLast_102 : decode cX1_spreadLast 102 = .ok (.if_icmp .ne 8, 3) := dK_s_43.2.2.2.2.2.2.2.1
theorem dK_s_44 : dk_P cX1_spreadLast [(105, (.lload 9, 2)), (107, (.goto 4, 3)), (110, (.lconst 0, 1)), (111, (.ladd, 1)), (112, (.putfield 35, 3)), (115, (.iload 12, 2)), (117, (.ifCond .lt 23, 3)), (120, (.iload 12, 2))] := dk_of 105 (by decide +kernel)
theorem dX1_spreadLast_105 : decode cX1_spreadLast 105 = .ok (.lload 9, 2) := dK_s_44.1
theorem dX1_spreadLast_107 : decode cX1_spreadLast 107 = .ok (.goto 4, 3) := dK_s_44.2.1
theorem dX1_spreadLast_110 : decode cX1_spreadLast 110 = .ok (.lconst 0, 1) := dK_s_44.2.2.1
theorem dX1_spreadLast_111 : decode cX1_spreadLast 111 = .ok (.ladd, 1) := dK_s_44.2.2.2.1
theorem dX1_spreadLast_112 : decode cX1_spreadLast 112 = .ok (.putfield 35, 3) := dK_s_44.2.2.2.2.1
theorem dX1_spreadLast_115 : decode cX1_spreadLast 115 = .ok (.iload 12, 2) := dK_s_44.2.2.2.2.2.1
theorem dX1_spreadLast_117 : decode cX1_spreadLast 117 = .ok (.ifCond .lt 23, 3) := dK_s_44.2.2.2.2.2.2.1
theorem dX1_spreadLast_120 : decode cX1_spreadLast 120 = .ok (.iload 12, 2) := dK_s_44.2.2.2.2.2.2.2.1
theorem dK_s_45 : dk_P cX1_spreadLast [(122, (.sipush 999, 3)), (125, (.if_icmp .gt 15, 3)), (128, (.aload_n 0, 1)), (129, (.getfield 16, 3)), (132, (.iload 12, 2)), (134, (.dup2, 1)), (135, (.laload, 1)), (136, (.lload 9, 2))] := dk_of 122 (by decide +kernel)
theorem dX1_spreadLast_122 : decode cX1_spreadLast 122 = .ok (.sipush 999, 3) := dK_s_45.1
theorem dX1_spreadLast_125 : decode cX1_spreadLast 125 = .ok (.if_icmp .gt 15, 3) := dK_s_45.2.1
theorem dX1_spreadLast_128 : decode cX1_spreadLast 128 = .ok (.aload_n 0, 1) := dK_s_45.2.2.1
theorem dX1_spreadLast_129 : decode cX1_spreadLast 129 = .ok (.getfield 16, 3) := dK_s_45.2.2.2.1
theorem dX1_spreadLast_132 : decode cX1_spreadLast 132 = .ok (.iload 12, 2) := dK_s_45.2.2.2.2.1
theorem dX1_spreadLast_134 : decode cX1_spreadLast 134 = .ok (.dup2, 1) := dK_s_45.2.2.2.2.2.1
theorem dX1_spreadLast_135 : decode cX1_spreadLast 135 = .ok (.laload, 1) := dK_s_45.2.2.2.2.2.2.1
theorem dX1_spreadLast_136 : decode cX1_spreadLast 136 = .ok (.lload 9, 2) := dK_s_45.2.2.2.2.2.2.2.1
theorem dK_s_46 : dk_P cX1_spreadLast [(138, (.ladd, 1)), (139, (.lastore, 1)), (140, (.iinc 8 1, 3)), (143, (.goto (-136), 3)), (146, (.return_, 1))] := dk_of 138 (by decide +kernel)
theorem dX1_spreadLast_138 : decode cX1_spreadLast 138 = .ok (.ladd, 1) := dK_s_46.1
theorem dX1_spreadLast_139 : decode cX1_spreadLast 139 = .ok (.lastore, 1) := dK_s_46.2.1
theorem dX1_spreadLast_140 : decode cX1_spreadLast 140 = .ok (.iinc 8 1, 3) := dK_s_46.2.2.1
theorem dX1_spreadLast_143 : decode cX1_spreadLast 143 = .ok (.goto (-136), 3) := dK_s_46.2.2.2.1
theorem dX1_spreadLast_146 : decode cX1_spreadLast 146 = .ok (.return_, 1) := dK_s_46.2.2.2.2.1
theorem dK_s_47 : dk_P cX1_meanWays [(0, (.lconst 0, 1)), (1, (.lstore_n 1, 1)), (2, (.iconst 1, 1)), (3, (.istore_n 3, 1)), (4, (.iload_n 3, 1)), (5, (.sipush 999, 3)), (8, (.if_icmp .gt 21, 3)), (11, (.lload_n 1, 1))] := dk_of 0 (by decide +kernel)
theorem dX1_meanWays_0 : decode cX1_meanWays 0 = .ok (.lconst 0, 1) := dK_s_47.1
theorem dX1_meanWays_1 : decode cX1_meanWays 1 = .ok (.lstore_n 1, 1) := dK_s_47.2.1
theorem dX1_meanWays_2 : decode cX1_meanWays 2 = .ok (.iconst 1, 1) := dK_s_47.2.2.1
theorem dX1_meanWays_3 : decode cX1_meanWays 3 = .ok (.istore_n 3, 1) := dK_s_47.2.2.2.1
theorem dX1_meanWays_4 : decode cX1_meanWays 4 = .ok (.iload_n 3, 1) := dK_s_47.2.2.2.2.1
theorem dX1_meanWays_5 : decode cX1_meanWays 5 = .ok (.sipush 999, 3) := dK_s_47.2.2.2.2.2.1
theorem dX1_meanWays_8 : decode cX1_meanWays 8 = .ok (.if_icmp .gt 21, 3) := dK_s_47.2.2.2.2.2.2.1
theorem dX1_meanWays_11 : decode cX1_meanWays 11 = .ok (.lload_n 1, 1) := dK_s_47.2.2.2.2.2.2.2.1
theorem dK_s_48 : dk_P cX1_meanWays [(12, (.iload_n 3, 1)), (13, (.i2l, 1)), (14, (.aload_n 0, 1)), (15, (.getfield 16, 3)), (18, (.iload_n 3, 1)), (19, (.laload, 1)), (20, (.lmul, 1)), (21, (.ladd, 1))] := dk_of 12 (by decide +kernel)
theorem dX1_meanWays_12 : decode cX1_meanWays 12 = .ok (.iload_n 3, 1) := dK_s_48.1
theorem dX1_meanWays_13 : decode cX1_meanWays 13 = .ok (.i2l, 1) := dK_s_48.2.1
theorem dX1_meanWays_14 : decode cX1_meanWays 14 = .ok (.aload_n 0, 1) := dK_s_48.2.2.1
theorem dX1_meanWays_15 : decode cX1_meanWays 15 = .ok (.getfield 16, 3) := dK_s_48.2.2.2.1
theorem dX1_meanWays_18 : decode cX1_meanWays 18 = .ok (.iload_n 3, 1) := dK_s_48.2.2.2.2.1
theorem dX1_meanWays_19 : decode cX1_meanWays 19 = .ok (.laload, 1) := dK_s_48.2.2.2.2.2.1
theorem dX1_meanWays_20 : decode cX1_meanWays 20 = .ok (.lmul, 1) := dK_s_48.2.2.2.2.2.2.1
theorem dX1_meanWays_21 : decode cX1_meanWays 21 = .ok (.ladd, 1) := dK_s_48.2.2.2.2.2.2.2.1
theorem dK_s_49 : dk_P cX1_meanWays [(22, (.lstore_n 1, 1)), (23, (.iinc 3 1, 3)), (26, (.goto (-22), 3)), (29, (.lload_n 1, 1)), (30, (.lreturn, 1))] := dk_of 22 (by decide +kernel)
theorem dX1_meanWays_22 : decode cX1_meanWays 22 = .ok (.lstore_n 1, 1) := dK_s_49.1
theorem dX1_meanWays_23 : decode cX1_meanWays 23 = .ok (.iinc 3 1, 3) := dK_s_49.2.1
theorem dX1_meanWays_26 : decode cX1_meanWays 26 = .ok (.goto (-22), 3) := dK_s_49.2.2.1
theorem dX1_meanWays_29 : decode cX1_meanWays 29 = .ok (.lload_n 1, 1) := dK_s_49.2.2.2.1
theorem dX1_meanWays_30 : decode cX1_meanWays 30 = .ok (.lreturn, 1) := dK_s_49.2.2.2.2.1
theorem dK_s_50 : dk_P cX1_waysPast [(0, (.lconst 0, 1)), (1, (.lstore_n 2, 1)), (2, (.iconst 0, 1)), (3, (.iload_n 1, 1)), (4, (.iconst 1, 1)), (5, (.iadd, 1)), (6, (.invokestatic 71, 3)), (9, (.istore 4, 2))] := dk_of 0 (by decide +kernel)
theorem dX1_waysPast_0 : decode cX1_waysPast 0 = .ok (.lconst 0, 1) := dK_s_50.1
theorem dX1_waysPast_1 : decode cX1_waysPast 1 = .ok (.lstore_n 2, 1) := dK_s_50.2.1
theorem dX1_waysPast_2 : decode cX1_waysPast 2 = .ok (.iconst 0, 1) := dK_s_50.2.2.1
theorem dX1_waysPast_3 : decode cX1_waysPast 3 = .ok (.iload_n 1, 1) := dK_s_50.2.2.2.1
theorem dX1_waysPast_4 : decode cX1_waysPast 4 = .ok (.iconst 1, 1) := dK_s_50.2.2.2.2.1
theorem dX1_waysPast_5 : decode cX1_waysPast 5 = .ok (.iadd, 1) := dK_s_50.2.2.2.2.2.1
theorem dX1_waysPast_6 : decode cX1_waysPast 6 = .ok (.invokestatic 71, 3) := dK_s_50.2.2.2.2.2.2.1
theorem dX1_waysPast_9 : decode cX1_waysPast 9 = .ok (.istore 4, 2) := dK_s_50.2.2.2.2.2.2.2.1
theorem dK_s_51 : dk_P cX1_waysPast [(11, (.iload 4, 2)), (13, (.sipush 999, 3)), (16, (.if_icmp .gt 19, 3)), (19, (.lload_n 2, 1)), (20, (.aload_n 0, 1)), (21, (.getfield 16, 3)), (24, (.iload 4, 2)), (26, (.laload, 1))] := dk_of 11 (by decide +kernel)
theorem dX1_waysPast_11 : decode cX1_waysPast 11 = .ok (.iload 4, 2) := dK_s_51.1
theorem dX1_waysPast_13 : decode cX1_waysPast 13 = .ok (.sipush 999, 3) := dK_s_51.2.1
theorem dX1_waysPast_16 : decode cX1_waysPast 16 = .ok (.if_icmp .gt 19, 3) := dK_s_51.2.2.1
theorem dX1_waysPast_19 : decode cX1_waysPast 19 = .ok (.lload_n 2, 1) := dK_s_51.2.2.2.1
theorem dX1_waysPast_20 : decode cX1_waysPast 20 = .ok (.aload_n 0, 1) := dK_s_51.2.2.2.2.1
theorem dX1_waysPast_21 : decode cX1_waysPast 21 = .ok (.getfield 16, 3) := dK_s_51.2.2.2.2.2.1
theorem dX1_waysPast_24 : decode cX1_waysPast 24 = .ok (.iload 4, 2) := dK_s_51.2.2.2.2.2.2.1
theorem dX1_waysPast_26 : decode cX1_waysPast 26 = .ok (.laload, 1) := dK_s_51.2.2.2.2.2.2.2.1
theorem dK_s_52 : dk_P cX1_waysPast [(27, (.ladd, 1)), (28, (.lstore_n 2, 1)), (29, (.iinc 4 1, 3)), (32, (.goto (-21), 3)), (35, (.lload_n 2, 1)), (36, (.lreturn, 1))] := dk_of 27 (by decide +kernel)
theorem dX1_waysPast_27 : decode cX1_waysPast 27 = .ok (.ladd, 1) := dK_s_52.1
theorem dX1_waysPast_28 : decode cX1_waysPast 28 = .ok (.lstore_n 2, 1) := dK_s_52.2.1
theorem dX1_waysPast_29 : decode cX1_waysPast 29 = .ok (.iinc 4 1, 3) := dK_s_52.2.2.1
theorem dX1_waysPast_32 : decode cX1_waysPast 32 = .ok (.goto (-21), 3) := dK_s_52.2.2.2.1
theorem dX1_waysPast_35 : decode cX1_waysPast 35 = .ok (.lload_n 2, 1) := dK_s_52.2.2.2.2.1
theorem dX1_waysPast_36 : decode cX1_waysPast 36 = .ok (.lreturn, 1) := dK_s_52.2.2.2.2.2.1
theorem dK_s_53 : dk_P cX1_share [(0, (.aload_n 0, 1)), (1, (.getfield 20, 3)), (4, (.lconst 0, 1)), (5, (.lcmp, 1)), (6, (.ifCond .gt 7, 3)), (9, (.iconst 0, 1)), (10, (.goto 14, 3)), (13, (.lload_n 1, 1))] := dk_of 0 (by decide +kernel)
theorem dX1_share_0 : decode cX1_share 0 = .ok (.aload_n 0, 1) := dK_s_53.1
theorem dX1_share_1 : decode cX1_share 1 = .ok (.getfield 20, 3) := dK_s_53.2.1
theorem dX1_share_4 : decode cX1_share 4 = .ok (.lconst 0, 1) := dK_s_53.2.2.1
theorem dX1_share_5 : decode cX1_share 5 = .ok (.lcmp, 1) := dK_s_53.2.2.2.1
theorem dX1_share_6 : decode cX1_share 6 = .ok (.ifCond .gt 7, 3) := dK_s_53.2.2.2.2.1
theorem dX1_share_9 : decode cX1_share 9 = .ok (.iconst 0, 1) := dK_s_53.2.2.2.2.2.1
theorem dX1_share_10 : decode cX1_share 10 = .ok (.goto 14, 3) := dK_s_53.2.2.2.2.2.2.1
theorem dX1_share_13 : decode cX1_share 13 = .ok (.lload_n 1, 1) := dK_s_53.2.2.2.2.2.2.2.1
theorem dK_s_54 : dk_P cX1_share [(14, (.ldc2_w 75, 3)), (17, (.lmul, 1)), (18, (.aload_n 0, 1)), (19, (.getfield 20, 3)), (22, (.ldiv, 1)), (23, (.l2i, 1)), (24, (.ireturn, 1))] := dk_of 14 (by decide +kernel)
theorem dX1_share_14 : decode cX1_share 14 = .ok (.ldc2_w 75, 3) := dK_s_54.1
theorem dX1_share_17 : decode cX1_share 17 = .ok (.lmul, 1) := dK_s_54.2.1
theorem dX1_share_18 : decode cX1_share 18 = .ok (.aload_n 0, 1) := dK_s_54.2.2.1
theorem dX1_share_19 : decode cX1_share 19 = .ok (.getfield 20, 3) := dK_s_54.2.2.2.1
theorem dX1_share_22 : decode cX1_share 22 = .ok (.ldiv, 1) := dK_s_54.2.2.2.2.1
theorem dX1_share_23 : decode cX1_share 23 = .ok (.l2i, 1) := dK_s_54.2.2.2.2.2.1
theorem dX1_share_24 : decode cX1_share 24 = .ok (.ireturn, 1) := dK_s_54.2.2.2.2.2.2.1
theorem dK_s_55 : dk_P cX2_init [(0, (.aload_n 0, 1)), (1, (.invokespecial 1, 3)), (4, (.aload_n 0, 1)), (5, (.aload_n 1, 1)), (6, (.putfield 7, 3)), (9, (.return_, 1))] := dk_of 0 (by decide +kernel)
theorem dX2_init_0 : decode cX2_init 0 = .ok (.aload_n 0, 1) := dK_s_55.1
theorem dX2_init_1 : decode cX2_init 1 = .ok (.invokespecial 1, 3) := dK_s_55.2.1
theorem dX2_init_4 : decode cX2_init 4 = .ok (.aload_n 0, 1) := dK_s_55.2.2.1
theorem dX2_init_5 : decode cX2_init 5 = .ok (.aload_n 1, 1) := dK_s_55.2.2.2.1
theorem dX2_init_6 : decode cX2_init 6 = .ok (.putfield 7, 3) := dK_s_55.2.2.2.2.1
theorem dX2_init_9 : decode cX2_init 9 = .ok (.return_, 1) := dK_s_55.2.2.2.2.2.1
theorem dK_s_56 : dk_P cX2_copyFrom [(0, (.aload_n 0, 1)), (1, (.aload_n 1, 1)), (2, (.getfield 7, 3)), (5, (.putfield 7, 3)), (8, (.aload_n 0, 1)), (9, (.aload_n 1, 1)), (10, (.getfield 13, 3)), (13, (.putfield 13, 3))] := dk_of 0 (by decide +kernel)
theorem dX2_copyFrom_0 : decode cX2_copyFrom 0 = .ok (.aload_n 0, 1) := dK_s_56.1
theorem dX2_copyFrom_1 : decode cX2_copyFrom 1 = .ok (.aload_n 1, 1) := dK_s_56.2.1
theorem dX2_copyFrom_2 : decode cX2_copyFrom 2 = .ok (.getfield 7, 3) := dK_s_56.2.2.1
theorem dX2_copyFrom_5 : decode cX2_copyFrom 5 = .ok (.putfield 7, 3) := dK_s_56.2.2.2.1
theorem dX2_copyFrom_8 : decode cX2_copyFrom 8 = .ok (.aload_n 0, 1) := dK_s_56.2.2.2.2.1
theorem dX2_copyFrom_9 : decode cX2_copyFrom 9 = .ok (.aload_n 1, 1) := dK_s_56.2.2.2.2.2.1
theorem dX2_copyFrom_10 : decode cX2_copyFrom 10 = .ok (.getfield 13, 3) := dK_s_56.2.2.2.2.2.2.1
theorem dX2_copyFrom_13 : decode cX2_copyFrom 13 = .ok (.putfield 13, 3) := dK_s_56.2.2.2.2.2.2.2.1
theorem dK_s_57 : dk_P cX2_copyFrom [(16, (.aload_n 0, 1)), (17, (.aload_n 1, 1)), (18, (.getfield 17, 3)), (21, (.putfield 17, 3)), (24, (.aload_n 0, 1)), (25, (.aload_n 1, 1)), (26, (.getfield 20, 3)), (29, (.putfield 20, 3))] := dk_of 16 (by decide +kernel)
theorem dX2_copyFrom_16 : decode cX2_copyFrom 16 = .ok (.aload_n 0, 1) := dK_s_57.1
theorem dX2_copyFrom_17 : decode cX2_copyFrom 17 = .ok (.aload_n 1, 1) := dK_s_57.2.1
theorem dX2_copyFrom_18 : decode cX2_copyFrom 18 = .ok (.getfield 17, 3) := dK_s_57.2.2.1
theorem dX2_copyFrom_21 : decode cX2_copyFrom 21 = .ok (.putfield 17, 3) := dK_s_57.2.2.2.1
theorem dX2_copyFrom_24 : decode cX2_copyFrom 24 = .ok (.aload_n 0, 1) := dK_s_57.2.2.2.2.1
theorem dX2_copyFrom_25 : decode cX2_copyFrom 25 = .ok (.aload_n 1, 1) := dK_s_57.2.2.2.2.2.1
theorem dX2_copyFrom_26 : decode cX2_copyFrom 26 = .ok (.getfield 20, 3) := dK_s_57.2.2.2.2.2.2.1
theorem dX2_copyFrom_29 : decode cX2_copyFrom 29 = .ok (.putfield 20, 3) := dK_s_57.2.2.2.2.2.2.2.1
theorem dK_s_58 : dk_P cX2_copyFrom [(32, (.aload_n 0, 1)), (33, (.aload_n 1, 1)), (34, (.getfield 23, 3)), (37, (.putfield 23, 3)), (40, (.aload_n 0, 1)), (41, (.aload_n 1, 1)), (42, (.getfield 26, 3)), (45, (.putfield 26, 3))] := dk_of 32 (by decide +kernel)
theorem dX2_copyFrom_32 : decode cX2_copyFrom 32 = .ok (.aload_n 0, 1) := dK_s_58.1
theorem dX2_copyFrom_33 : decode cX2_copyFrom 33 = .ok (.aload_n 1, 1) := dK_s_58.2.1
theorem dX2_copyFrom_34 : decode cX2_copyFrom 34 = .ok (.getfield 23, 3) := dK_s_58.2.2.1
theorem dX2_copyFrom_37 : decode cX2_copyFrom 37 = .ok (.putfield 23, 3) := dK_s_58.2.2.2.1
theorem dX2_copyFrom_40 : decode cX2_copyFrom 40 = .ok (.aload_n 0, 1) := dK_s_58.2.2.2.2.1
theorem dX2_copyFrom_41 : decode cX2_copyFrom 41 = .ok (.aload_n 1, 1) := dK_s_58.2.2.2.2.2.1
theorem dX2_copyFrom_42 : decode cX2_copyFrom 42 = .ok (.getfield 26, 3) := dK_s_58.2.2.2.2.2.2.1
theorem dX2_copyFrom_45 : decode cX2_copyFrom 45 = .ok (.putfield 26, 3) := dK_s_58.2.2.2.2.2.2.2.1
theorem dK_s_59 : dk_P cX2_copyFrom [(48, (.aload_n 0, 1)), (49, (.aload_n 1, 1)), (50, (.getfield 29, 3)), (53, (.putfield 29, 3)), (56, (.aload_n 0, 1)), (57, (.aload_n 1, 1)), (58, (.getfield 32, 3)), (61, (.putfield 32, 3))] := dk_of 48 (by decide +kernel)
theorem dX2_copyFrom_48 : decode cX2_copyFrom 48 = .ok (.aload_n 0, 1) := dK_s_59.1
theorem dX2_copyFrom_49 : decode cX2_copyFrom 49 = .ok (.aload_n 1, 1) := dK_s_59.2.1
theorem dX2_copyFrom_50 : decode cX2_copyFrom 50 = .ok (.getfield 29, 3) := dK_s_59.2.2.1
theorem dX2_copyFrom_53 : decode cX2_copyFrom 53 = .ok (.putfield 29, 3) := dK_s_59.2.2.2.1
theorem dX2_copyFrom_56 : decode cX2_copyFrom 56 = .ok (.aload_n 0, 1) := dK_s_59.2.2.2.2.1
theorem dX2_copyFrom_57 : decode cX2_copyFrom 57 = .ok (.aload_n 1, 1) := dK_s_59.2.2.2.2.2.1
theorem dX2_copyFrom_58 : decode cX2_copyFrom 58 = .ok (.getfield 32, 3) := dK_s_59.2.2.2.2.2.2.1
theorem dX2_copyFrom_61 : decode cX2_copyFrom 61 = .ok (.putfield 32, 3) := dK_s_59.2.2.2.2.2.2.2.1
theorem dK_s_60 : dk_P cX2_copyFrom [(64, (.aload_n 0, 1)), (65, (.aload_n 1, 1)), (66, (.getfield 35, 3)), (69, (.putfield 35, 3)), (72, (.return_, 1))] := dk_of 64 (by decide +kernel)
theorem dX2_copyFrom_64 : decode cX2_copyFrom 64 = .ok (.aload_n 0, 1) := dK_s_60.1
theorem dX2_copyFrom_65 : decode cX2_copyFrom 65 = .ok (.aload_n 1, 1) := dK_s_60.2.1
theorem dX2_copyFrom_66 : decode cX2_copyFrom 66 = .ok (.getfield 35, 3) := dK_s_60.2.2.1
theorem dX2_copyFrom_69 : decode cX2_copyFrom 69 = .ok (.putfield 35, 3) := dK_s_60.2.2.2.1
theorem dX2_copyFrom_72 : decode cX2_copyFrom 72 = .ok (.return_, 1) := dK_s_60.2.2.2.2.1
theorem dK_s_61 : dk_P cX2_property [(0, (.iload_n 1, 1)), (1, (.tableswitch 87 0 7 #[47, 52, 57, 62, 67, 72, 77, 82], 47)), (48, (.aload_n 0, 1)), (49, (.getfield 13, 3)), (52, (.ireturn, 1)), (53, (.aload_n 0, 1)), (54, (.getfield 17, 3)), (57, (.ireturn, 1))] := dk_of 0 (by decide +kernel)
theorem dX2_property_0 : decode cX2_property 0 = .ok (.iload_n 1, 1) := dK_s_61.1
theorem dX2_property_1 : decode cX2_property 1 = .ok (.tableswitch 87 0 7 #[47, 52, 57, 62, 67, 72, 77, 82], 47) := dK_s_61.2.1
theorem dX2_property_48 : decode cX2_property 48 = .ok (.aload_n 0, 1) := dK_s_61.2.2.1
theorem dX2_property_49 : decode cX2_property 49 = .ok (.getfield 13, 3) := dK_s_61.2.2.2.1
theorem dX2_property_52 : decode cX2_property 52 = .ok (.ireturn, 1) := dK_s_61.2.2.2.2.1
theorem dX2_property_53 : decode cX2_property 53 = .ok (.aload_n 0, 1) := dK_s_61.2.2.2.2.2.1
theorem dX2_property_54 : decode cX2_property 54 = .ok (.getfield 17, 3) := dK_s_61.2.2.2.2.2.2.1
theorem dX2_property_57 : decode cX2_property 57 = .ok (.ireturn, 1) := dK_s_61.2.2.2.2.2.2.2.1
theorem dK_s_62 : dk_P cX2_property [(58, (.aload_n 0, 1)), (59, (.getfield 20, 3)), (62, (.ireturn, 1)), (63, (.aload_n 0, 1)), (64, (.getfield 23, 3)), (67, (.ireturn, 1)), (68, (.aload_n 0, 1)), (69, (.getfield 26, 3))] := dk_of 58 (by decide +kernel)
theorem dX2_property_58 : decode cX2_property 58 = .ok (.aload_n 0, 1) := dK_s_62.1
theorem dX2_property_59 : decode cX2_property 59 = .ok (.getfield 20, 3) := dK_s_62.2.1
theorem dX2_property_62 : decode cX2_property 62 = .ok (.ireturn, 1) := dK_s_62.2.2.1
theorem dX2_property_63 : decode cX2_property 63 = .ok (.aload_n 0, 1) := dK_s_62.2.2.2.1
theorem dX2_property_64 : decode cX2_property 64 = .ok (.getfield 23, 3) := dK_s_62.2.2.2.2.1
theorem dX2_property_67 : decode cX2_property 67 = .ok (.ireturn, 1) := dK_s_62.2.2.2.2.2.1
theorem dX2_property_68 : decode cX2_property 68 = .ok (.aload_n 0, 1) := dK_s_62.2.2.2.2.2.2.1
theorem dX2_property_69 : decode cX2_property 69 = .ok (.getfield 26, 3) := dK_s_62.2.2.2.2.2.2.2.1
theorem dK_s_63 : dk_P cX2_property [(72, (.ireturn, 1)), (73, (.aload_n 0, 1)), (74, (.getfield 29, 3)), (77, (.ireturn, 1)), (78, (.aload_n 0, 1)), (79, (.getfield 32, 3)), (82, (.ireturn, 1)), (83, (.aload_n 0, 1))] := dk_of 72 (by decide +kernel)
theorem dX2_property_72 : decode cX2_property 72 = .ok (.ireturn, 1) := dK_s_63.1
theorem dX2_property_73 : decode cX2_property 73 = .ok (.aload_n 0, 1) := dK_s_63.2.1
theorem dX2_property_74 : decode cX2_property 74 = .ok (.getfield 29, 3) := dK_s_63.2.2.1
theorem dX2_property_77 : decode cX2_property 77 = .ok (.ireturn, 1) := dK_s_63.2.2.2.1
theorem dX2_property_78 : decode cX2_property 78 = .ok (.aload_n 0, 1) := dK_s_63.2.2.2.2.1
theorem dX2_property_79 : decode cX2_property 79 = .ok (.getfield 32, 3) := dK_s_63.2.2.2.2.2.1
theorem dX2_property_82 : decode cX2_property 82 = .ok (.ireturn, 1) := dK_s_63.2.2.2.2.2.2.1
theorem dX2_property_83 : decode cX2_property 83 = .ok (.aload_n 0, 1) := dK_s_63.2.2.2.2.2.2.2.1
theorem dK_s_64 : dk_P cX2_property [(84, (.getfield 35, 3)), (87, (.ireturn, 1)), (88, (.aload_n 0, 1)), (89, (.getfield 7, 3)), (92, (.aload_n 0, 1)), (93, (.invokevirtual 38, 3)), (96, (.ireturn, 1))] := dk_of 84 (by decide +kernel)
theorem dX2_property_84 : decode cX2_property 84 = .ok (.getfield 35, 3) := dK_s_64.1
theorem dX2_property_87 : decode cX2_property 87 = .ok (.ireturn, 1) := dK_s_64.2.1
theorem dX2_property_88 : decode cX2_property 88 = .ok (.aload_n 0, 1) := dK_s_64.2.2.1
theorem dX2_property_89 : decode cX2_property 89 = .ok (.getfield 7, 3) := dK_s_64.2.2.2.1
theorem dX2_property_92 : decode cX2_property 92 = .ok (.aload_n 0, 1) := dK_s_64.2.2.2.2.1
theorem dX2_property_93 : decode cX2_property 93 = .ok (.invokevirtual 38, 3) := dK_s_64.2.2.2.2.2.1
theorem dX2_property_96 : decode cX2_property 96 = .ok (.ireturn, 1) := dK_s_64.2.2.2.2.2.2.1
theorem dK_s_65 : dk_P cX2_path [(0, (.iconst 0, 1)), (1, (.istore_n 3, 1)), (2, (.iconst 0, 1)), (3, (.istore 4, 2)), (5, (.iload 4, 2)), (7, (.iload_n 1, 1)), (8, (.if_icmp .ge 23, 3)), (11, (.iload_n 3, 1))] := dk_of 0 (by decide +kernel)
theorem dX2_path_0 : decode cX2_path 0 = .ok (.iconst 0, 1) := dK_s_65.1
theorem dX2_path_1 : decode cX2_path 1 = .ok (.istore_n 3, 1) := dK_s_65.2.1
theorem dX2_path_2 : decode cX2_path 2 = .ok (.iconst 0, 1) := dK_s_65.2.2.1
theorem dX2_path_3 : decode cX2_path 3 = .ok (.istore 4, 2) := dK_s_65.2.2.2.1
theorem dX2_path_5 : decode cX2_path 5 = .ok (.iload 4, 2) := dK_s_65.2.2.2.2.1
theorem dX2_path_7 : decode cX2_path 7 = .ok (.iload_n 1, 1) := dK_s_65.2.2.2.2.2.1
theorem dX2_path_8 : decode cX2_path 8 = .ok (.if_icmp .ge 23, 3) := dK_s_65.2.2.2.2.2.2.1
theorem dX2_path_11 : decode cX2_path 11 = .ok (.iload_n 3, 1) := dK_s_65.2.2.2.2.2.2.2.1
theorem dK_s_66 : dk_P cX2_path [(12, (.aload_n 0, 1)), (13, (.getfield 7, 3)), (16, (.aload_n 0, 1)), (17, (.iload 4, 2)), (19, (.iload_n 2, 1)), (20, (.invokevirtual 44, 3)), (23, (.iadd, 1)), (24, (.istore_n 3, 1))] := dk_of 12 (by decide +kernel)
theorem dX2_path_12 : decode cX2_path 12 = .ok (.aload_n 0, 1) := dK_s_66.1
theorem dX2_path_13 : decode cX2_path 13 = .ok (.getfield 7, 3) := dK_s_66.2.1
theorem dX2_path_16 : decode cX2_path 16 = .ok (.aload_n 0, 1) := dK_s_66.2.2.1
theorem dX2_path_17 : decode cX2_path 17 = .ok (.iload 4, 2) := dK_s_66.2.2.2.1
theorem dX2_path_19 : decode cX2_path 19 = .ok (.iload_n 2, 1) := dK_s_66.2.2.2.2.1
theorem dX2_path_20 : decode cX2_path 20 = .ok (.invokevirtual 44, 3) := dK_s_66.2.2.2.2.2.1
theorem dX2_path_23 : decode cX2_path 23 = .ok (.iadd, 1) := dK_s_66.2.2.2.2.2.2.1
theorem dX2_path_24 : decode cX2_path 24 = .ok (.istore_n 3, 1) := dK_s_66.2.2.2.2.2.2.2.1
theorem dK_s_67 : dk_P cX2_path [(25, (.iinc 4 1, 3)), (28, (.goto (-23), 3)), (31, (.iload_n 3, 1)), (32, (.ireturn, 1))] := dk_of 25 (by decide +kernel)
theorem dX2_path_25 : decode cX2_path 25 = .ok (.iinc 4 1, 3) := dK_s_67.1
theorem dX2_path_28 : decode cX2_path 28 = .ok (.goto (-23), 3) := dK_s_67.2.1
theorem dX2_path_31 : decode cX2_path 31 = .ok (.iload_n 3, 1) := dK_s_67.2.2.1
theorem dX2_path_32 : decode cX2_path 32 = .ok (.ireturn, 1) := dK_s_67.2.2.2.1
theorem dK_s_68 : dk_P cX3_init [(0, (.aload_n 0, 1)), (1, (.invokespecial 1, 3)), (4, (.return_, 1))] := dk_of 0 (by decide +kernel)
theorem dX3_init_0 : decode cX3_init 0 = .ok (.aload_n 0, 1) := dK_s_68.1
theorem dX3_init_1 : decode cX3_init 1 = .ok (.invokespecial 1, 3) := dK_s_68.2.1
theorem dX3_init_4 : decode cX3_init 4 = .ok (.return_, 1) := dK_s_68.2.2.1
theorem dK_s_69 : dk_P cX3_aimOf [(0, (.iconst 0, 1)), (1, (.ireturn, 1))] := dk_of 0 (by decide +kernel)
theorem dX3_aimOf_0 : decode cX3_aimOf 0 = .ok (.iconst 0, 1) := dK_s_69.1
theorem dX3_aimOf_1 : decode cX3_aimOf 1 = .ok (.ireturn, 1) := dK_s_69.2.1
theorem dK_s_70 : dk_P cX3_strideOf [(0, (.aload_n 1, 1)), (1, (.getfield 7, 3)), (4, (.aload_n 1, 1)), (5, (.getfield 13, 3)), (8, (.iload_n 2, 1)), (9, (.imul, 1)), (10, (.bipush 10, 2)), (12, (.idiv, 1))] := dk_of 0 (by decide +kernel)
theorem dX3_strideOf_0 : decode cX3_strideOf 0 = .ok (.aload_n 1, 1) := dK_s_70.1
theorem dX3_strideOf_1 : decode cX3_strideOf 1 = .ok (.getfield 7, 3) := dK_s_70.2.1
theorem dX3_strideOf_4 : decode cX3_strideOf 4 = .ok (.aload_n 1, 1) := dK_s_70.2.2.1
theorem dX3_strideOf_5 : decode cX3_strideOf 5 = .ok (.getfield 13, 3) := dK_s_70.2.2.2.1
theorem dX3_strideOf_8 : decode cX3_strideOf 8 = .ok (.iload_n 2, 1) := dK_s_70.2.2.2.2.1
theorem dX3_strideOf_9 : decode cX3_strideOf 9 = .ok (.imul, 1) := dK_s_70.2.2.2.2.2.1
theorem dX3_strideOf_10 : decode cX3_strideOf 10 = .ok (.bipush 10, 2) := dK_s_70.2.2.2.2.2.2.1
theorem dX3_strideOf_12 : decode cX3_strideOf 12 = .ok (.idiv, 1) := dK_s_70.2.2.2.2.2.2.2.1
theorem dK_s_71 : dk_P cX3_strideOf [(13, (.iadd, 1)), (14, (.iload_n 3, 1)), (15, (.iload_n 2, 1)), (16, (.imul, 1)), (17, (.bipush 10, 2)), (19, (.idiv, 1)), (20, (.iadd, 1)), (21, (.ireturn, 1))] := dk_of 13 (by decide +kernel)
theorem dX3_strideOf_13 : decode cX3_strideOf 13 = .ok (.iadd, 1) := dK_s_71.1
theorem dX3_strideOf_14 : decode cX3_strideOf 14 = .ok (.iload_n 3, 1) := dK_s_71.2.1
theorem dX3_strideOf_15 : decode cX3_strideOf 15 = .ok (.iload_n 2, 1) := dK_s_71.2.2.1
theorem dX3_strideOf_16 : decode cX3_strideOf 16 = .ok (.imul, 1) := dK_s_71.2.2.2.1
theorem dX3_strideOf_17 : decode cX3_strideOf 17 = .ok (.bipush 10, 2) := dK_s_71.2.2.2.2.1
theorem dX3_strideOf_19 : decode cX3_strideOf 19 = .ok (.idiv, 1) := dK_s_71.2.2.2.2.2.1
theorem dX3_strideOf_20 : decode cX3_strideOf 20 = .ok (.iadd, 1) := dK_s_71.2.2.2.2.2.2.1
theorem dX3_strideOf_21 : decode cX3_strideOf 21 = .ok (.ireturn, 1) := dK_s_71.2.2.2.2.2.2.2.1
theorem dK_s_72 : dk_P cX3_lengthOf [(0, (.iconst 4, 1)), (1, (.aload_n 1, 1)), (2, (.getfield 16, 3)), (5, (.imul, 1)), (6, (.iconst 2, 1)), (7, (.iload 4, 2)), (9, (.imul, 1)), (10, (.iadd, 1))] := dk_of 0 (by decide +kernel)
theorem dX3_lengthOf_0 : decode cX3_lengthOf 0 = .ok (.iconst 4, 1) := dK_s_72.1
theorem dX3_lengthOf_1 : decode cX3_lengthOf 1 = .ok (.aload_n 1, 1) := dK_s_72.2.1
theorem dX3_lengthOf_2 : decode cX3_lengthOf 2 = .ok (.getfield 16, 3) := dK_s_72.2.2.1
theorem dX3_lengthOf_5 : decode cX3_lengthOf 5 = .ok (.imul, 1) := dK_s_72.2.2.2.1
theorem dX3_lengthOf_6 : decode cX3_lengthOf 6 = .ok (.iconst 2, 1) := dK_s_72.2.2.2.2.1
theorem dX3_lengthOf_7 : decode cX3_lengthOf 7 = .ok (.iload 4, 2) := dK_s_72.2.2.2.2.2.1
theorem dX3_lengthOf_9 : decode cX3_lengthOf 9 = .ok (.imul, 1) := dK_s_72.2.2.2.2.2.2.1
theorem dX3_lengthOf_10 : decode cX3_lengthOf 10 = .ok (.iadd, 1) := dK_s_72.2.2.2.2.2.2.2.1
theorem dK_s_73 : dk_P cX3_lengthOf [(11, (.aload_n 1, 1)), (12, (.getfield 19, 3)), (15, (.iadd, 1)), (16, (.iload_n 2, 1)), (17, (.isub, 1)), (18, (.iconst 2, 1)), (19, (.iload_n 3, 1)), (20, (.imul, 1))] := dk_of 11 (by decide +kernel)
theorem dX3_lengthOf_11 : decode cX3_lengthOf 11 = .ok (.aload_n 1, 1) := dK_s_73.1
theorem dX3_lengthOf_12 : decode cX3_lengthOf 12 = .ok (.getfield 19, 3) := dK_s_73.2.1
theorem dX3_lengthOf_15 : decode cX3_lengthOf 15 = .ok (.iadd, 1) := dK_s_73.2.2.1
theorem dX3_lengthOf_16 : decode cX3_lengthOf 16 = .ok (.iload_n 2, 1) := dK_s_73.2.2.2.1
theorem dX3_lengthOf_17 : decode cX3_lengthOf 17 = .ok (.isub, 1) := dK_s_73.2.2.2.2.1
theorem dX3_lengthOf_18 : decode cX3_lengthOf 18 = .ok (.iconst 2, 1) := dK_s_73.2.2.2.2.2.1
theorem dX3_lengthOf_19 : decode cX3_lengthOf 19 = .ok (.iload_n 3, 1) := dK_s_73.2.2.2.2.2.2.1
theorem dX3_lengthOf_20 : decode cX3_lengthOf 20 = .ok (.imul, 1) := dK_s_73.2.2.2.2.2.2.2.1
theorem dK_s_74 : dk_P cX3_lengthOf [(21, (.isub, 1)), (22, (.istore 5, 2)), (24, (.iload 5, 2)), (26, (.ifCond .ge 7, 3)), (29, (.iconst 0, 1)), (30, (.goto 5, 3)), (33, (.iload 5, 2)), (35, (.ireturn, 1))] := dk_of 21 (by decide +kernel)
theorem dX3_lengthOf_21 : decode cX3_lengthOf 21 = .ok (.isub, 1) := dK_s_74.1
theorem dX3_lengthOf_22 : decode cX3_lengthOf 22 = .ok (.istore 5, 2) := dK_s_74.2.1
theorem dX3_lengthOf_24 : decode cX3_lengthOf 24 = .ok (.iload 5, 2) := dK_s_74.2.2.1
theorem dX3_lengthOf_26 : decode cX3_lengthOf 26 = .ok (.ifCond .ge 7, 3) := dK_s_74.2.2.2.1
theorem dX3_lengthOf_29 : decode cX3_lengthOf 29 = .ok (.iconst 0, 1) := dK_s_74.2.2.2.2.1
theorem dX3_lengthOf_30 : decode cX3_lengthOf 30 = .ok (.goto 5, 3) := dK_s_74.2.2.2.2.2.1
theorem dX3_lengthOf_33 : decode cX3_lengthOf 33 = .ok (.iload 5, 2) := dK_s_74.2.2.2.2.2.2.1
theorem dX3_lengthOf_35 : decode cX3_lengthOf 35 = .ok (.ireturn, 1) := dK_s_74.2.2.2.2.2.2.2.1
theorem dK_s_75 : dk_P cX4_init [(0, (.aload_n 0, 1)), (1, (.invokespecial 1, 3)), (4, (.return_, 1))] := dk_of 0 (by decide +kernel)
theorem dX4_init_0 : decode cX4_init 0 = .ok (.aload_n 0, 1) := dK_s_75.1
theorem dX4_init_1 : decode cX4_init 1 = .ok (.invokespecial 1, 3) := dK_s_75.2.1
theorem dX4_init_4 : decode cX4_init 4 = .ok (.return_, 1) := dK_s_75.2.2.1
theorem dK_s_76 : dk_P cX4_aimOf [(0, (.aload_n 0, 1)), (1, (.aload_n 1, 1)), (2, (.invokespecial 7, 3)), (5, (.iconst 2, 1)), (6, (.idiv, 1)), (7, (.ireturn, 1))] := dk_of 0 (by decide +kernel)
theorem dX4_aimOf_0 : decode cX4_aimOf 0 = .ok (.aload_n 0, 1) := dK_s_76.1
theorem dX4_aimOf_1 : decode cX4_aimOf 1 = .ok (.aload_n 1, 1) := dK_s_76.2.1
theorem dX4_aimOf_2 : decode cX4_aimOf 2 = .ok (.invokespecial 7, 3) := dK_s_76.2.2.1
theorem dX4_aimOf_5 : decode cX4_aimOf 5 = .ok (.iconst 2, 1) := dK_s_76.2.2.2.1
theorem dX4_aimOf_6 : decode cX4_aimOf 6 = .ok (.idiv, 1) := dK_s_76.2.2.2.2.1
theorem dX4_aimOf_7 : decode cX4_aimOf 7 = .ok (.ireturn, 1) := dK_s_76.2.2.2.2.2.1
theorem dK_s_77 : dk_P cX5_init [(0, (.aload_n 0, 1)), (1, (.invokespecial 3, 3)), (4, (.aload_n 0, 1)), (5, (.bipush 10, 2)), (7, (.putfield 9, 3)), (10, (.aload_n 0, 1)), (11, (.iconst 2, 1)), (12, (.putfield 15, 3))] := dk_of 0 (by decide +kernel)
theorem dX5_init_0 : decode cX5_init 0 = .ok (.aload_n 0, 1) := dK_s_77.1
theorem dX5_init_1 : decode cX5_init 1 = .ok (.invokespecial 3, 3) := dK_s_77.2.1
theorem dX5_init_4 : decode cX5_init 4 = .ok (.aload_n 0, 1) := dK_s_77.2.2.1
theorem dX5_init_5 : decode cX5_init 5 = .ok (.bipush 10, 2) := dK_s_77.2.2.2.1
theorem dX5_init_7 : decode cX5_init 7 = .ok (.putfield 9, 3) := dK_s_77.2.2.2.2.1
theorem dX5_init_10 : decode cX5_init 10 = .ok (.aload_n 0, 1) := dK_s_77.2.2.2.2.2.1
theorem dX5_init_11 : decode cX5_init 11 = .ok (.iconst 2, 1) := dK_s_77.2.2.2.2.2.2.1
theorem dX5_init_12 : decode cX5_init 12 = .ok (.putfield 15, 3) := dK_s_77.2.2.2.2.2.2.2.1
theorem dK_s_78 : dk_P cX5_init [(15, (.aload_n 0, 1)), (16, (.iconst 4, 1)), (17, (.anewarray 18, 3)), (20, (.putfield 20, 3)), (23, (.aload_n 0, 1)), (24, (.bipush 24, 2)), (26, (.newarray .int, 2)), (28, (.putfield 24, 3))] := dk_of 15 (by decide +kernel)
theorem dX5_init_15 : decode cX5_init 15 = .ok (.aload_n 0, 1) := dK_s_78.1
theorem dX5_init_16 : decode cX5_init 16 = .ok (.iconst 4, 1) := dK_s_78.2.1
theorem dX5_init_17 : decode cX5_init 17 = .ok (.anewarray 18, 3) := dK_s_78.2.2.1
theorem dX5_init_20 : decode cX5_init 20 = .ok (.putfield 20, 3) := dK_s_78.2.2.2.1
theorem dX5_init_23 : decode cX5_init 23 = .ok (.aload_n 0, 1) := dK_s_78.2.2.2.2.1
theorem dX5_init_24 : decode cX5_init 24 = .ok (.bipush 24, 2) := dK_s_78.2.2.2.2.2.1
theorem dX5_init_26 : decode cX5_init 26 = .ok (.newarray .int, 2) := dK_s_78.2.2.2.2.2.2.1
theorem dX5_init_28 : decode cX5_init 28 = .ok (.putfield 24, 3) := dK_s_78.2.2.2.2.2.2.2.1
theorem dK_s_79 : dk_P cX5_init [(31, (.aload_n 0, 1)), (32, (.bipush 24, 2)), (34, (.newarray .int, 2)), (36, (.putfield 28, 3)), (39, (.aload_n 0, 1)), (40, (.bipush 24, 2)), (42, (.newarray .int, 2)), (44, (.putfield 31, 3))] := dk_of 31 (by decide +kernel)
theorem dX5_init_31 : decode cX5_init 31 = .ok (.aload_n 0, 1) := dK_s_79.1
theorem dX5_init_32 : decode cX5_init 32 = .ok (.bipush 24, 2) := dK_s_79.2.1
theorem dX5_init_34 : decode cX5_init 34 = .ok (.newarray .int, 2) := dK_s_79.2.2.1
theorem dX5_init_36 : decode cX5_init 36 = .ok (.putfield 28, 3) := dK_s_79.2.2.2.1
theorem dX5_init_39 : decode cX5_init 39 = .ok (.aload_n 0, 1) := dK_s_79.2.2.2.2.1
theorem dX5_init_40 : decode cX5_init 40 = .ok (.bipush 24, 2) := dK_s_79.2.2.2.2.2.1
theorem dX5_init_42 : decode cX5_init 42 = .ok (.newarray .int, 2) := dK_s_79.2.2.2.2.2.2.1
theorem dX5_init_44 : decode cX5_init 44 = .ok (.putfield 31, 3) := dK_s_79.2.2.2.2.2.2.2.1
theorem dK_s_80 : dk_P cX5_init [(47, (.aload_n 0, 1)), (48, (.bipush 24, 2)), (50, (.newarray .int, 2)), (52, (.putfield 34, 3)), (55, (.iconst 0, 1)), (56, (.istore_n 2, 1)), (57, (.iload_n 2, 1)), (58, (.iconst 4, 1))] := dk_of 47 (by decide +kernel)
theorem dX5_init_47 : decode cX5_init 47 = .ok (.aload_n 0, 1) := dK_s_80.1
theorem dX5_init_48 : decode cX5_init 48 = .ok (.bipush 24, 2) := dK_s_80.2.1
theorem dX5_init_50 : decode cX5_init 50 = .ok (.newarray .int, 2) := dK_s_80.2.2.1
theorem dX5_init_52 : decode cX5_init 52 = .ok (.putfield 34, 3) := dK_s_80.2.2.2.1
theorem dX5_init_55 : decode cX5_init 55 = .ok (.iconst 0, 1) := dK_s_80.2.2.2.2.1
theorem dX5_init_56 : decode cX5_init 56 = .ok (.istore_n 2, 1) := dK_s_80.2.2.2.2.2.1
theorem dX5_init_57 : decode cX5_init 57 = .ok (.iload_n 2, 1) := dK_s_80.2.2.2.2.2.2.1
theorem dX5_init_58 : decode cX5_init 58 = .ok (.iconst 4, 1) := dK_s_80.2.2.2.2.2.2.2.1
theorem dK_s_81 : dk_P cX5_init [(59, (.if_icmp .ge 23, 3)), (62, (.aload_n 0, 1)), (63, (.getfield 20, 3)), (66, (.iload_n 2, 1)), (67, (.new 18, 3)), (70, (.dup, 1)), (71, (.aload_n 1, 1)), (72, (.invokespecial 37, 3))] := dk_of 59 (by decide +kernel)
theorem dX5_init_59 : decode cX5_init 59 = .ok (.if_icmp .ge 23, 3) := dK_s_81.1
theorem dX5_init_62 : decode cX5_init 62 = .ok (.aload_n 0, 1) := dK_s_81.2.1
theorem dX5_init_63 : decode cX5_init 63 = .ok (.getfield 20, 3) := dK_s_81.2.2.1
theorem dX5_init_66 : decode cX5_init 66 = .ok (.iload_n 2, 1) := dK_s_81.2.2.2.1
theorem dX5_init_67 : decode cX5_init 67 = .ok (.new 18, 3) := dK_s_81.2.2.2.2.1
theorem dX5_init_70 : decode cX5_init 70 = .ok (.dup, 1) := dK_s_81.2.2.2.2.2.1
theorem dX5_init_71 : decode cX5_init 71 = .ok (.aload_n 1, 1) := dK_s_81.2.2.2.2.2.2.1
theorem dX5_init_72 : decode cX5_init 72 = .ok (.invokespecial 37, 3) := dK_s_81.2.2.2.2.2.2.2.1
theorem dK_s_82 : dk_P cX5_init [(75, (.aastore, 1)), (76, (.iinc 2 1, 3)), (79, (.goto (-22), 3)), (82, (.return_, 1))] := dk_of 75 (by decide +kernel)
theorem dX5_init_75 : decode cX5_init 75 = .ok (.aastore, 1) := dK_s_82.1
theorem dX5_init_76 : decode cX5_init 76 = .ok (.iinc 2 1, 3) := dK_s_82.2.1
theorem dX5_init_79 : decode cX5_init 79 = .ok (.goto (-22), 3) := dK_s_82.2.2.1
theorem dX5_init_82 : decode cX5_init 82 = .ok (.return_, 1) := dK_s_82.2.2.2.1
theorem dK_s_83 : dk_P cX5_copyFrom [(0, (.aload_n 0, 1)), (1, (.aload_n 1, 1)), (2, (.getfield 9, 3)), (5, (.putfield 9, 3)), (8, (.aload_n 0, 1)), (9, (.aload_n 1, 1)), (10, (.getfield 40, 3)), (13, (.putfield 40, 3))] := dk_of 0 (by decide +kernel)
theorem dX5_copyFrom_0 : decode cX5_copyFrom 0 = .ok (.aload_n 0, 1) := dK_s_83.1
theorem dX5_copyFrom_1 : decode cX5_copyFrom 1 = .ok (.aload_n 1, 1) := dK_s_83.2.1
theorem dX5_copyFrom_2 : decode cX5_copyFrom 2 = .ok (.getfield 9, 3) := dK_s_83.2.2.1
theorem dX5_copyFrom_5 : decode cX5_copyFrom 5 = .ok (.putfield 9, 3) := dK_s_83.2.2.2.1
theorem dX5_copyFrom_8 : decode cX5_copyFrom 8 = .ok (.aload_n 0, 1) := dK_s_83.2.2.2.2.1
theorem dX5_copyFrom_9 : decode cX5_copyFrom 9 = .ok (.aload_n 1, 1) := dK_s_83.2.2.2.2.2.1
theorem dX5_copyFrom_10 : decode cX5_copyFrom 10 = .ok (.getfield 40, 3) := dK_s_83.2.2.2.2.2.2.1
theorem dX5_copyFrom_13 : decode cX5_copyFrom 13 = .ok (.putfield 40, 3) := dK_s_83.2.2.2.2.2.2.2.1
theorem dK_s_84 : dk_P cX5_copyFrom [(16, (.aload_n 0, 1)), (17, (.aload_n 1, 1)), (18, (.getfield 15, 3)), (21, (.putfield 15, 3)), (24, (.aload_n 0, 1)), (25, (.aload_n 1, 1)), (26, (.getfield 43, 3)), (29, (.putfield 43, 3))] := dk_of 16 (by decide +kernel)
theorem dX5_copyFrom_16 : decode cX5_copyFrom 16 = .ok (.aload_n 0, 1) := dK_s_84.1
theorem dX5_copyFrom_17 : decode cX5_copyFrom 17 = .ok (.aload_n 1, 1) := dK_s_84.2.1
theorem dX5_copyFrom_18 : decode cX5_copyFrom 18 = .ok (.getfield 15, 3) := dK_s_84.2.2.1
theorem dX5_copyFrom_21 : decode cX5_copyFrom 21 = .ok (.putfield 15, 3) := dK_s_84.2.2.2.1
theorem dX5_copyFrom_24 : decode cX5_copyFrom 24 = .ok (.aload_n 0, 1) := dK_s_84.2.2.2.2.1
theorem dX5_copyFrom_25 : decode cX5_copyFrom 25 = .ok (.aload_n 1, 1) := dK_s_84.2.2.2.2.2.1
theorem dX5_copyFrom_26 : decode cX5_copyFrom 26 = .ok (.getfield 43, 3) := dK_s_84.2.2.2.2.2.2.1
theorem dX5_copyFrom_29 : decode cX5_copyFrom 29 = .ok (.putfield 43, 3) := dK_s_84.2.2.2.2.2.2.2.1
theorem dK_s_85 : dk_P cX5_copyFrom [(32, (.aload_n 0, 1)), (33, (.aload_n 1, 1)), (34, (.getfield 46, 3)), (37, (.putfield 46, 3)), (40, (.iconst 0, 1)), (41, (.istore_n 2, 1)), (42, (.iload_n 2, 1)), (43, (.iconst 4, 1))] := dk_of 32 (by decide +kernel)
theorem dX5_copyFrom_32 : decode cX5_copyFrom 32 = .ok (.aload_n 0, 1) := dK_s_85.1
theorem dX5_copyFrom_33 : decode cX5_copyFrom 33 = .ok (.aload_n 1, 1) := dK_s_85.2.1
theorem dX5_copyFrom_34 : decode cX5_copyFrom 34 = .ok (.getfield 46, 3) := dK_s_85.2.2.1
theorem dX5_copyFrom_37 : decode cX5_copyFrom 37 = .ok (.putfield 46, 3) := dK_s_85.2.2.2.1
theorem dX5_copyFrom_40 : decode cX5_copyFrom 40 = .ok (.iconst 0, 1) := dK_s_85.2.2.2.2.1
theorem dX5_copyFrom_41 : decode cX5_copyFrom 41 = .ok (.istore_n 2, 1) := dK_s_85.2.2.2.2.2.1
theorem dX5_copyFrom_42 : decode cX5_copyFrom 42 = .ok (.iload_n 2, 1) := dK_s_85.2.2.2.2.2.2.1
theorem dX5_copyFrom_43 : decode cX5_copyFrom 43 = .ok (.iconst 4, 1) := dK_s_85.2.2.2.2.2.2.2.1
theorem dK_s_86 : dk_P cX5_copyFrom [(44, (.if_icmp .ge 24, 3)), (47, (.aload_n 0, 1)), (48, (.getfield 20, 3)), (51, (.iload_n 2, 1)), (52, (.aaload, 1)), (53, (.aload_n 1, 1)), (54, (.getfield 20, 3)), (57, (.iload_n 2, 1))] := dk_of 44 (by decide +kernel)
theorem dX5_copyFrom_44 : decode cX5_copyFrom 44 = .ok (.if_icmp .ge 24, 3) := dK_s_86.1
theorem dX5_copyFrom_47 : decode cX5_copyFrom 47 = .ok (.aload_n 0, 1) := dK_s_86.2.1
theorem dX5_copyFrom_48 : decode cX5_copyFrom 48 = .ok (.getfield 20, 3) := dK_s_86.2.2.1
theorem dX5_copyFrom_51 : decode cX5_copyFrom 51 = .ok (.iload_n 2, 1) := dK_s_86.2.2.2.1
theorem dX5_copyFrom_52 : decode cX5_copyFrom 52 = .ok (.aaload, 1) := dK_s_86.2.2.2.2.1
theorem dX5_copyFrom_53 : decode cX5_copyFrom 53 = .ok (.aload_n 1, 1) := dK_s_86.2.2.2.2.2.1
theorem dX5_copyFrom_54 : decode cX5_copyFrom 54 = .ok (.getfield 20, 3) := dK_s_86.2.2.2.2.2.2.1
theorem dX5_copyFrom_57 : decode cX5_copyFrom 57 = .ok (.iload_n 2, 1) := dK_s_86.2.2.2.2.2.2.2.1
theorem dK_s_87 : dk_P cX5_copyFrom [(58, (.aaload, 1)), (59, (.invokevirtual 49, 3)), (62, (.iinc 2 1, 3)), (65, (.goto (-23), 3)), (68, (.aload_n 1, 1)), (69, (.getfield 24, 3)), (72, (.iconst 0, 1)), (73, (.aload_n 0, 1))] := dk_of 58 (by decide +kernel)
theorem dX5_copyFrom_58 : decode cX5_copyFrom 58 = .ok (.aaload, 1) := dK_s_87.1
theorem dX5_copyFrom_59 : decode cX5_copyFrom 59 = .ok (.invokevirtual 49, 3) := dK_s_87.2.1
theorem dX5_copyFrom_62 : decode cX5_copyFrom 62 = .ok (.iinc 2 1, 3) := dK_s_87.2.2.1
theorem dX5_copyFrom_65 : decode cX5_copyFrom 65 = .ok (.goto (-23), 3) := dK_s_87.2.2.2.1
theorem dX5_copyFrom_68 : decode cX5_copyFrom 68 = .ok (.aload_n 1, 1) := dK_s_87.2.2.2.2.1
theorem dX5_copyFrom_69 : decode cX5_copyFrom 69 = .ok (.getfield 24, 3) := dK_s_87.2.2.2.2.2.1
theorem dX5_copyFrom_72 : decode cX5_copyFrom 72 = .ok (.iconst 0, 1) := dK_s_87.2.2.2.2.2.2.1
theorem dX5_copyFrom_73 : decode cX5_copyFrom 73 = .ok (.aload_n 0, 1) := dK_s_87.2.2.2.2.2.2.2.1
theorem dK_s_88 : dk_P cX5_copyFrom [(74, (.getfield 24, 3)), (77, (.iconst 0, 1)), (78, (.bipush 24, 2)), (80, (.invokestatic 53, 3)), (83, (.aload_n 1, 1)), (84, (.getfield 28, 3)), (87, (.iconst 0, 1)), (88, (.aload_n 0, 1))] := dk_of 74 (by decide +kernel)
theorem dX5_copyFrom_74 : decode cX5_copyFrom 74 = .ok (.getfield 24, 3) := dK_s_88.1
theorem dX5_copyFrom_77 : decode cX5_copyFrom 77 = .ok (.iconst 0, 1) := dK_s_88.2.1
theorem dX5_copyFrom_78 : decode cX5_copyFrom 78 = .ok (.bipush 24, 2) := dK_s_88.2.2.1
theorem dX5_copyFrom_80 : decode cX5_copyFrom 80 = .ok (.invokestatic 53, 3) := dK_s_88.2.2.2.1
theorem dX5_copyFrom_83 : decode cX5_copyFrom 83 = .ok (.aload_n 1, 1) := dK_s_88.2.2.2.2.1
theorem dX5_copyFrom_84 : decode cX5_copyFrom 84 = .ok (.getfield 28, 3) := dK_s_88.2.2.2.2.2.1
theorem dX5_copyFrom_87 : decode cX5_copyFrom 87 = .ok (.iconst 0, 1) := dK_s_88.2.2.2.2.2.2.1
theorem dX5_copyFrom_88 : decode cX5_copyFrom 88 = .ok (.aload_n 0, 1) := dK_s_88.2.2.2.2.2.2.2.1
theorem dK_s_89 : dk_P cX5_copyFrom [(89, (.getfield 28, 3)), (92, (.iconst 0, 1)), (93, (.bipush 24, 2)), (95, (.invokestatic 53, 3)), (98, (.aload_n 1, 1)), (99, (.getfield 31, 3)), (102, (.iconst 0, 1)), (103, (.aload_n 0, 1))] := dk_of 89 (by decide +kernel)
theorem dX5_copyFrom_89 : decode cX5_copyFrom 89 = .ok (.getfield 28, 3) := dK_s_89.1
theorem dX5_copyFrom_92 : decode cX5_copyFrom 92 = .ok (.iconst 0, 1) := dK_s_89.2.1
theorem dX5_copyFrom_93 : decode cX5_copyFrom 93 = .ok (.bipush 24, 2) := dK_s_89.2.2.1
theorem dX5_copyFrom_95 : decode cX5_copyFrom 95 = .ok (.invokestatic 53, 3) := dK_s_89.2.2.2.1
theorem dX5_copyFrom_98 : decode cX5_copyFrom 98 = .ok (.aload_n 1, 1) := dK_s_89.2.2.2.2.1
theorem dX5_copyFrom_99 : decode cX5_copyFrom 99 = .ok (.getfield 31, 3) := dK_s_89.2.2.2.2.2.1
theorem dX5_copyFrom_102 : decode cX5_copyFrom 102 = .ok (.iconst 0, 1) := dK_s_89.2.2.2.2.2.2.1
theorem dX5_copyFrom_103 : decode cX5_copyFrom 103 = .ok (.aload_n 0, 1) := dK_s_89.2.2.2.2.2.2.2.1
theorem dK_s_90 : dk_P cX5_copyFrom [(104, (.getfield 31, 3)), (107, (.iconst 0, 1)), (108, (.bipush 24, 2)), (110, (.invokestatic 53, 3)), (113, (.aload_n 1, 1)), (114, (.getfield 34, 3)), (117, (.iconst 0, 1)), (118, (.aload_n 0, 1))] := dk_of 104 (by decide +kernel)
theorem dX5_copyFrom_104 : decode cX5_copyFrom 104 = .ok (.getfield 31, 3) := dK_s_90.1
theorem dX5_copyFrom_107 : decode cX5_copyFrom 107 = .ok (.iconst 0, 1) := dK_s_90.2.1
theorem dX5_copyFrom_108 : decode cX5_copyFrom 108 = .ok (.bipush 24, 2) := dK_s_90.2.2.1
theorem dX5_copyFrom_110 : decode cX5_copyFrom 110 = .ok (.invokestatic 53, 3) := dK_s_90.2.2.2.1
theorem dX5_copyFrom_113 : decode cX5_copyFrom 113 = .ok (.aload_n 1, 1) := dK_s_90.2.2.2.2.1
theorem dX5_copyFrom_114 : decode cX5_copyFrom 114 = .ok (.getfield 34, 3) := dK_s_90.2.2.2.2.2.1
theorem dX5_copyFrom_117 : decode cX5_copyFrom 117 = .ok (.iconst 0, 1) := dK_s_90.2.2.2.2.2.2.1
theorem dX5_copyFrom_118 : decode cX5_copyFrom 118 = .ok (.aload_n 0, 1) := dK_s_90.2.2.2.2.2.2.2.1
theorem dK_s_91 : dk_P cX5_copyFrom [(119, (.getfield 34, 3)), (122, (.iconst 0, 1)), (123, (.bipush 24, 2)), (125, (.invokestatic 53, 3)), (128, (.return_, 1))] := dk_of 119 (by decide +kernel)
theorem dX5_copyFrom_119 : decode cX5_copyFrom 119 = .ok (.getfield 34, 3) := dK_s_91.1
theorem dX5_copyFrom_122 : decode cX5_copyFrom 122 = .ok (.iconst 0, 1) := dK_s_91.2.1
theorem dX5_copyFrom_123 : decode cX5_copyFrom 123 = .ok (.bipush 24, 2) := dK_s_91.2.2.1
theorem dX5_copyFrom_125 : decode cX5_copyFrom 125 = .ok (.invokestatic 53, 3) := dK_s_91.2.2.2.1
theorem dX5_copyFrom_128 : decode cX5_copyFrom 128 = .ok (.return_, 1) := dK_s_91.2.2.2.2.1
theorem dK_s_92 : dk_P cX5_at [(0, (.iload_n 1, 1)), (1, (.ifCond .lt 8, 3)), (4, (.iload_n 1, 1)), (5, (.iconst 4, 1)), (6, (.if_icmp .lt 12, 3)), (9, (.aload_n 0, 1)), (10, (.getfield 20, 3)), (13, (.iconst 0, 1))] := dk_of 0 (by decide +kernel)
theorem dX5_at_0 : decode cX5_at 0 = .ok (.iload_n 1, 1) := dK_s_92.1
theorem dX5_at_1 : decode cX5_at 1 = .ok (.ifCond .lt 8, 3) := dK_s_92.2.1
theorem dX5_at_4 : decode cX5_at 4 = .ok (.iload_n 1, 1) := dK_s_92.2.2.1
theorem dX5_at_5 : decode cX5_at 5 = .ok (.iconst 4, 1) := dK_s_92.2.2.2.1
theorem dX5_at_6 : decode cX5_at 6 = .ok (.if_icmp .lt 12, 3) := dK_s_92.2.2.2.2.1
theorem dX5_at_9 : decode cX5_at 9 = .ok (.aload_n 0, 1) := dK_s_92.2.2.2.2.2.1
theorem dX5_at_10 : decode cX5_at 10 = .ok (.getfield 20, 3) := dK_s_92.2.2.2.2.2.2.1
theorem dX5_at_13 : decode cX5_at 13 = .ok (.iconst 0, 1) := dK_s_92.2.2.2.2.2.2.2.1
theorem dK_s_93 : dk_P cX5_at [(14, (.aaload, 1)), (15, (.goto 9, 3)), (18, (.aload_n 0, 1)), (19, (.getfield 20, 3)), (22, (.iload_n 1, 1)), (23, (.aaload, 1)), (24, (.areturn, 1))] := dk_of 14 (by decide +kernel)
theorem dX5_at_14 : decode cX5_at 14 = .ok (.aaload, 1) := dK_s_93.1
theorem dX5_at_15 : decode cX5_at 15 = .ok (.goto 9, 3) := dK_s_93.2.1
theorem dX5_at_18 : decode cX5_at 18 = .ok (.aload_n 0, 1) := dK_s_93.2.2.1
theorem dX5_at_19 : decode cX5_at 19 = .ok (.getfield 20, 3) := dK_s_93.2.2.2.1
theorem dX5_at_22 : decode cX5_at 22 = .ok (.iload_n 1, 1) := dK_s_93.2.2.2.2.1
theorem dX5_at_23 : decode cX5_at 23 = .ok (.aaload, 1) := dK_s_93.2.2.2.2.2.1
theorem dX5_at_24 : decode cX5_at 24 = .ok (.areturn, 1) := dK_s_93.2.2.2.2.2.2.1
theorem dK_s_94 : dk_P cX5_finalists [(0, (.aload_n 0, 1)), (1, (.getfield 15, 3)), (4, (.aload_n 0, 1)), (5, (.getfield 43, 3)), (8, (.if_icmp .ge 10, 3)), (11, (.aload_n 0, 1)), (12, (.getfield 15, 3)), (15, (.goto 7, 3))] := dk_of 0 (by decide +kernel)
theorem dX5_finalists_0 : decode cX5_finalists 0 = .ok (.aload_n 0, 1) := dK_s_94.1
theorem dX5_finalists_1 : decode cX5_finalists 1 = .ok (.getfield 15, 3) := dK_s_94.2.1
theorem dX5_finalists_4 : decode cX5_finalists 4 = .ok (.aload_n 0, 1) := dK_s_94.2.2.1
theorem dX5_finalists_5 : decode cX5_finalists 5 = .ok (.getfield 43, 3) := dK_s_94.2.2.2.1
theorem dX5_finalists_8 : decode cX5_finalists 8 = .ok (.if_icmp .ge 10, 3) := dK_s_94.2.2.2.2.1
theorem dX5_finalists_11 : decode cX5_finalists 11 = .ok (.aload_n 0, 1) := dK_s_94.2.2.2.2.2.1
theorem dX5_finalists_12 : decode cX5_finalists 12 = .ok (.getfield 15, 3) := dK_s_94.2.2.2.2.2.2.1
theorem dX5_finalists_15 : decode cX5_finalists 15 = .ok (.goto 7, 3) := dK_s_94.2.2.2.2.2.2.2.1
theorem dK_s_95 : dk_P cX5_finalists [(18, (.aload_n 0, 1)), (19, (.getfield 43, 3)), (22, (.ireturn, 1))] := dk_of 18 (by decide +kernel)
theorem dX5_finalists_18 : decode cX5_finalists 18 = .ok (.aload_n 0, 1) := dK_s_95.1
theorem dX5_finalists_19 : decode cX5_finalists 19 = .ok (.getfield 43, 3) := dK_s_95.2.1
theorem dX5_finalists_22 : decode cX5_finalists 22 = .ok (.ireturn, 1) := dK_s_95.2.2.1
theorem dK_s_96 : dk_P cX5_round [(0, (.aload_n 0, 1)), (1, (.invokevirtual 59, 3)), (4, (.istore_n 1, 1)), (5, (.aload_n 0, 1)), (6, (.getfield 43, 3)), (9, (.ifCond .le 7, 3)), (12, (.iload_n 1, 1)), (13, (.ifCond .gt 6, 3))] := dk_of 0 (by decide +kernel)
theorem dX5_round_0 : decode cX5_round 0 = .ok (.aload_n 0, 1) := dK_s_96.1
theorem dX5_round_1 : decode cX5_round 1 = .ok (.invokevirtual 59, 3) := dK_s_96.2.1
theorem dX5_round_4 : decode cX5_round 4 = .ok (.istore_n 1, 1) := dK_s_96.2.2.1
theorem dX5_round_5 : decode cX5_round 5 = .ok (.aload_n 0, 1) := dK_s_96.2.2.2.1
theorem dX5_round_6 : decode cX5_round 6 = .ok (.getfield 43, 3) := dK_s_96.2.2.2.2.1
theorem dX5_round_9 : decode cX5_round 9 = .ok (.ifCond .le 7, 3) := dK_s_96.2.2.2.2.2.1
theorem dX5_round_12 : decode cX5_round 12 = .ok (.iload_n 1, 1) := dK_s_96.2.2.2.2.2.2.1
theorem dX5_round_13 : decode cX5_round 13 = .ok (.ifCond .gt 6, 3) := dK_s_96.2.2.2.2.2.2.2.1
theorem dK_s_97 : dk_P cX5_round [(16, (.bipush 6, 2)), (18, (.ireturn, 1)), (19, (.aload_n 0, 1)), (20, (.getfield 46, 3)), (23, (.iconst 3, 1)), (24, (.aload_n 0, 1)), (25, (.getfield 43, 3)), (28, (.imul, 1))] := dk_of 16 (by decide +kernel)
theorem dX5_round_16 : decode cX5_round 16 = .ok (.bipush 6, 2) := dK_s_97.1
theorem dX5_round_18 : decode cX5_round 18 = .ok (.ireturn, 1) := dK_s_97.2.1
theorem dX5_round_19 : decode cX5_round 19 = .ok (.aload_n 0, 1) := dK_s_97.2.2.1
theorem dX5_round_20 : decode cX5_round 20 = .ok (.getfield 46, 3) := dK_s_97.2.2.2.1
theorem dX5_round_23 : decode cX5_round 23 = .ok (.iconst 3, 1) := dK_s_97.2.2.2.2.1
theorem dX5_round_24 : decode cX5_round 24 = .ok (.aload_n 0, 1) := dK_s_97.2.2.2.2.2.1
theorem dX5_round_25 : decode cX5_round 25 = .ok (.getfield 43, 3) := dK_s_97.2.2.2.2.2.2.1
theorem dX5_round_28 : decode cX5_round 28 = .ok (.imul, 1) := dK_s_97.2.2.2.2.2.2.2.1
theorem dK_s_98 : dk_P cX5_round [(29, (.if_icmp .ge 15, 3)), (32, (.aload_n 0, 1)), (33, (.getfield 46, 3)), (36, (.aload_n 0, 1)), (37, (.getfield 43, 3)), (40, (.idiv, 1)), (41, (.goto 23, 3)), (44, (.bipush 6, 2))] := dk_of 29 (by decide +kernel)
theorem dX5_round_29 : decode cX5_round 29 = .ok (.if_icmp .ge 15, 3) := dK_s_98.1
theorem dX5_round_32 : decode cX5_round 32 = .ok (.aload_n 0, 1) := dK_s_98.2.1
theorem dX5_round_33 : decode cX5_round 33 = .ok (.getfield 46, 3) := dK_s_98.2.2.1
theorem dX5_round_36 : decode cX5_round 36 = .ok (.aload_n 0, 1) := dK_s_98.2.2.2.1
theorem dX5_round_37 : decode cX5_round 37 = .ok (.getfield 43, 3) := dK_s_98.2.2.2.2.1
theorem dX5_round_40 : decode cX5_round 40 = .ok (.idiv, 1) := dK_s_98.2.2.2.2.2.1
theorem dX5_round_41 : decode cX5_round 41 = .ok (.goto 23, 3) := dK_s_98.2.2.2.2.2.2.1
theorem dX5_round_44 : decode cX5_round 44 = .ok (.bipush 6, 2) := dK_s_98.2.2.2.2.2.2.2.1
theorem dK_s_99 : dk_P cX5_round [(46, (.iconst 3, 1)), (47, (.aload_n 0, 1)), (48, (.getfield 46, 3)), (51, (.iconst 3, 1)), (52, (.aload_n 0, 1)), (53, (.getfield 43, 3)), (56, (.imul, 1)), (57, (.isub, 1))] := dk_of 46 (by decide +kernel)
theorem dX5_round_46 : decode cX5_round 46 = .ok (.iconst 3, 1) := dK_s_99.1
theorem dX5_round_47 : decode cX5_round 47 = .ok (.aload_n 0, 1) := dK_s_99.2.1
theorem dX5_round_48 : decode cX5_round 48 = .ok (.getfield 46, 3) := dK_s_99.2.2.1
theorem dX5_round_51 : decode cX5_round 51 = .ok (.iconst 3, 1) := dK_s_99.2.2.2.1
theorem dX5_round_52 : decode cX5_round 52 = .ok (.aload_n 0, 1) := dK_s_99.2.2.2.2.1
theorem dX5_round_53 : decode cX5_round 53 = .ok (.getfield 43, 3) := dK_s_99.2.2.2.2.2.1
theorem dX5_round_56 : decode cX5_round 56 = .ok (.imul, 1) := dK_s_99.2.2.2.2.2.2.1
theorem dX5_round_57 : decode cX5_round 57 = .ok (.isub, 1) := dK_s_99.2.2.2.2.2.2.2.1
theorem dK_s_100 : dk_P cX5_round [(58, (.iload_n 1, 1)), (59, (.idiv, 1)), (60, (.iadd, 1)), (61, (.invokestatic 63, 3)), (64, (.ireturn, 1))] := dk_of 58 (by decide +kernel)
theorem dX5_round_58 : decode cX5_round 58 = .ok (.iload_n 1, 1) := dK_s_100.1
theorem dX5_round_59 : decode cX5_round 59 = .ok (.idiv, 1) := dK_s_100.2.1
theorem dX5_round_60 : decode cX5_round 60 = .ok (.iadd, 1) := dK_s_100.2.2.1
theorem dX5_round_61 : decode cX5_round 61 = .ok (.invokestatic 63, 3) := dK_s_100.2.2.2.1
theorem dX5_round_64 : decode cX5_round 64 = .ok (.ireturn, 1) := dK_s_100.2.2.2.2.1
theorem dK_s_101 : dk_P cX5_inTurn [(0, (.aload_n 0, 1)), (1, (.invokevirtual 59, 3)), (4, (.istore_n 2, 1)), (5, (.aload_n 0, 1)), (6, (.invokevirtual 69, 3)), (9, (.bipush 6, 2)), (11, (.if_icmp .eq 14, 3)), (14, (.aload_n 0, 1))] := dk_of 0 (by decide +kernel)
theorem dX5_inTurn_0 : decode cX5_inTurn 0 = .ok (.aload_n 0, 1) := dK_s_101.1
theorem dX5_inTurn_1 : decode cX5_inTurn 1 = .ok (.invokevirtual 59, 3) := dK_s_101.2.1
theorem dX5_inTurn_4 : decode cX5_inTurn 4 = .ok (.istore_n 2, 1) := dK_s_101.2.2.1
theorem dX5_inTurn_5 : decode cX5_inTurn 5 = .ok (.aload_n 0, 1) := dK_s_101.2.2.2.1
theorem dX5_inTurn_6 : decode cX5_inTurn 6 = .ok (.invokevirtual 69, 3) := dK_s_101.2.2.2.2.1
theorem dX5_inTurn_9 : decode cX5_inTurn 9 = .ok (.bipush 6, 2) := dK_s_101.2.2.2.2.2.1
theorem dX5_inTurn_11 : decode cX5_inTurn 11 = .ok (.if_icmp .eq 14, 3) := dK_s_101.2.2.2.2.2.2.1
theorem dX5_inTurn_14 : decode cX5_inTurn 14 = .ok (.aload_n 0, 1) := dK_s_101.2.2.2.2.2.2.2.1
theorem dK_s_102 : dk_P cX5_inTurn [(15, (.getfield 43, 3)), (18, (.ifCond .le 7, 3)), (21, (.iload_n 2, 1)), (22, (.ifCond .gt 6, 3)), (25, (.bipush (-9), 2)), (27, (.ireturn, 1)), (28, (.aload_n 0, 1)), (29, (.getfield 46, 3))] := dk_of 15 (by decide +kernel)
theorem dX5_inTurn_15 : decode cX5_inTurn 15 = .ok (.getfield 43, 3) := dK_s_102.1
theorem dX5_inTurn_18 : decode cX5_inTurn 18 = .ok (.ifCond .le 7, 3) := dK_s_102.2.1
theorem dX5_inTurn_21 : decode cX5_inTurn 21 = .ok (.iload_n 2, 1) := dK_s_102.2.2.1
theorem dX5_inTurn_22 : decode cX5_inTurn 22 = .ok (.ifCond .gt 6, 3) := dK_s_102.2.2.2.1
theorem dX5_inTurn_25 : decode cX5_inTurn 25 = .ok (.bipush (-9), 2) := dK_s_102.2.2.2.2.1
theorem dX5_inTurn_27 : decode cX5_inTurn 27 = .ok (.ireturn, 1) := dK_s_102.2.2.2.2.2.1
theorem dX5_inTurn_28 : decode cX5_inTurn 28 = .ok (.aload_n 0, 1) := dK_s_102.2.2.2.2.2.2.1
theorem dX5_inTurn_29 : decode cX5_inTurn 29 = .ok (.getfield 46, 3) := dK_s_102.2.2.2.2.2.2.2.1
theorem dK_s_103 : dk_P cX5_inTurn [(32, (.iconst 3, 1)), (33, (.aload_n 0, 1)), (34, (.getfield 43, 3)), (37, (.imul, 1)), (38, (.if_icmp .ge 13, 3)), (41, (.aload_n 0, 1)), (42, (.getfield 46, 3)), (45, (.aload_n 0, 1))] := dk_of 32 (by decide +kernel)
theorem dX5_inTurn_32 : decode cX5_inTurn 32 = .ok (.iconst 3, 1) := dK_s_103.1
theorem dX5_inTurn_33 : decode cX5_inTurn 33 = .ok (.aload_n 0, 1) := dK_s_103.2.1
theorem dX5_inTurn_34 : decode cX5_inTurn 34 = .ok (.getfield 43, 3) := dK_s_103.2.2.1
theorem dX5_inTurn_37 : decode cX5_inTurn 37 = .ok (.imul, 1) := dK_s_103.2.2.2.1
theorem dX5_inTurn_38 : decode cX5_inTurn 38 = .ok (.if_icmp .ge 13, 3) := dK_s_103.2.2.2.2.1
theorem dX5_inTurn_41 : decode cX5_inTurn 41 = .ok (.aload_n 0, 1) := dK_s_103.2.2.2.2.2.1
theorem dX5_inTurn_42 : decode cX5_inTurn 42 = .ok (.getfield 46, 3) := dK_s_103.2.2.2.2.2.2.1
theorem dX5_inTurn_45 : decode cX5_inTurn 45 = .ok (.aload_n 0, 1) := dK_s_103.2.2.2.2.2.2.2.1
theorem dK_s_104 : dk_P cX5_inTurn [(46, (.getfield 43, 3)), (49, (.irem, 1)), (50, (.ireturn, 1)), (51, (.aload_n 0, 1)), (52, (.aload_n 1, 1)), (53, (.iconst 0, 1)), (54, (.iconst 3, 1)), (55, (.aload_n 0, 1))] := dk_of 46 (by decide +kernel)
theorem dX5_inTurn_46 : decode cX5_inTurn 46 = .ok (.getfield 43, 3) := dK_s_104.1
theorem dX5_inTurn_49 : decode cX5_inTurn 49 = .ok (.irem, 1) := dK_s_104.2.1
theorem dX5_inTurn_50 : decode cX5_inTurn 50 = .ok (.ireturn, 1) := dK_s_104.2.2.1
theorem dX5_inTurn_51 : decode cX5_inTurn 51 = .ok (.aload_n 0, 1) := dK_s_104.2.2.2.1
theorem dX5_inTurn_52 : decode cX5_inTurn 52 = .ok (.aload_n 1, 1) := dK_s_104.2.2.2.2.1
theorem dX5_inTurn_53 : decode cX5_inTurn 53 = .ok (.iconst 0, 1) := dK_s_104.2.2.2.2.2.1
theorem dX5_inTurn_54 : decode cX5_inTurn 54 = .ok (.iconst 3, 1) := dK_s_104.2.2.2.2.2.2.1
theorem dX5_inTurn_55 : decode cX5_inTurn 55 = .ok (.aload_n 0, 1) := dK_s_104.2.2.2.2.2.2.2.1
theorem dK_s_105 : dk_P cX5_inTurn [(56, (.getfield 43, 3)), (59, (.imul, 1)), (60, (.invokevirtual 72, 3)), (63, (.aload_n 1, 1)), (64, (.iload_n 2, 1)), (65, (.iconst 1, 1)), (66, (.isub, 1)), (67, (.aload_n 0, 1))] := dk_of 56 (by decide +kernel)
theorem dX5_inTurn_56 : decode cX5_inTurn 56 = .ok (.getfield 43, 3) := dK_s_105.1
theorem dX5_inTurn_59 : decode cX5_inTurn 59 = .ok (.imul, 1) := dK_s_105.2.1
theorem dX5_inTurn_60 : decode cX5_inTurn 60 = .ok (.invokevirtual 72, 3) := dK_s_105.2.2.1
theorem dX5_inTurn_63 : decode cX5_inTurn 63 = .ok (.aload_n 1, 1) := dK_s_105.2.2.2.1
theorem dX5_inTurn_64 : decode cX5_inTurn 64 = .ok (.iload_n 2, 1) := dK_s_105.2.2.2.2.1
theorem dX5_inTurn_65 : decode cX5_inTurn 65 = .ok (.iconst 1, 1) := dK_s_105.2.2.2.2.2.1
theorem dX5_inTurn_66 : decode cX5_inTurn 66 = .ok (.isub, 1) := dK_s_105.2.2.2.2.2.2.1
theorem dX5_inTurn_67 : decode cX5_inTurn 67 = .ok (.aload_n 0, 1) := dK_s_105.2.2.2.2.2.2.2.1
theorem dK_s_106 : dk_P cX5_inTurn [(68, (.getfield 46, 3)), (71, (.iconst 3, 1)), (72, (.aload_n 0, 1)), (73, (.getfield 43, 3)), (76, (.imul, 1)), (77, (.isub, 1)), (78, (.iload_n 2, 1)), (79, (.irem, 1))] := dk_of 68 (by decide +kernel)
theorem dX5_inTurn_68 : decode cX5_inTurn 68 = .ok (.getfield 46, 3) := dK_s_106.1
theorem dX5_inTurn_71 : decode cX5_inTurn 71 = .ok (.iconst 3, 1) := dK_s_106.2.1
theorem dX5_inTurn_72 : decode cX5_inTurn 72 = .ok (.aload_n 0, 1) := dK_s_106.2.2.1
theorem dX5_inTurn_73 : decode cX5_inTurn 73 = .ok (.getfield 43, 3) := dK_s_106.2.2.2.1
theorem dX5_inTurn_76 : decode cX5_inTurn 76 = .ok (.imul, 1) := dK_s_106.2.2.2.2.1
theorem dX5_inTurn_77 : decode cX5_inTurn 77 = .ok (.isub, 1) := dK_s_106.2.2.2.2.2.1
theorem dX5_inTurn_78 : decode cX5_inTurn 78 = .ok (.iload_n 2, 1) := dK_s_106.2.2.2.2.2.2.1
theorem dX5_inTurn_79 : decode cX5_inTurn 79 = .ok (.irem, 1) := dK_s_106.2.2.2.2.2.2.2.1
theorem dK_s_107 : dk_P cX5_inTurn [(80, (.isub, 1)), (81, (.invokevirtual 76, 3)), (84, (.ireturn, 1))] := dk_of 80 (by decide +kernel)
theorem dX5_inTurn_80 : decode cX5_inTurn 80 = .ok (.isub, 1) := dK_s_107.1
theorem dX5_inTurn_81 : decode cX5_inTurn 81 = .ok (.invokevirtual 76, 3) := dK_s_107.2.1
theorem dX5_inTurn_84 : decode cX5_inTurn 84 = .ok (.ireturn, 1) := dK_s_107.2.2.1
theorem dK_s_108 : dk_P cX5_record [(0, (.aload_n 0, 1)), (1, (.iload_n 1, 1)), (2, (.invokevirtual 82, 3)), (5, (.astore 4, 2)), (7, (.iload_n 2, 1)), (8, (.ifCond .ge 7, 3)), (11, (.iload_n 2, 1)), (12, (.goto 19, 3))] := dk_of 0 (by decide +kernel)
theorem dX5_record_0 : decode cX5_record 0 = .ok (.aload_n 0, 1) := dK_s_108.1
theorem dX5_record_1 : decode cX5_record 1 = .ok (.iload_n 1, 1) := dK_s_108.2.1
theorem dX5_record_2 : decode cX5_record 2 = .ok (.invokevirtual 82, 3) := dK_s_108.2.2.1
theorem dX5_record_5 : decode cX5_record 5 = .ok (.astore 4, 2) := dK_s_108.2.2.2.1
theorem dX5_record_7 : decode cX5_record 7 = .ok (.iload_n 2, 1) := dK_s_108.2.2.2.2.1
theorem dX5_record_8 : decode cX5_record 8 = .ok (.ifCond .ge 7, 3) := dK_s_108.2.2.2.2.2.1
theorem dX5_record_11 : decode cX5_record 11 = .ok (.iload_n 2, 1) := dK_s_108.2.2.2.2.2.2.1
theorem dX5_record_12 : decode cX5_record 12 = .ok (.goto 19, 3) := dK_s_108.2.2.2.2.2.2.2.1
theorem dK_s_109 : dk_P cX5_record [(15, (.aload 4, 2)), (17, (.getfield 85, 3)), (20, (.aload 4, 2)), (22, (.iload_n 2, 1)), (23, (.iload_n 3, 1)), (24, (.aload_n 0, 1)), (25, (.getfield 40, 3)), (28, (.invokevirtual 89, 3))] := dk_of 15 (by decide +kernel)
theorem dX5_record_15 : decode cX5_record 15 = .ok (.aload 4, 2) := dK_s_109.1
theorem dX5_record_17 : decode cX5_record 17 = .ok (.getfield 85, 3) := dK_s_109.2.1
theorem dX5_record_20 : decode cX5_record 20 = .ok (.aload 4, 2) := dK_s_109.2.2.1
theorem dX5_record_22 : decode cX5_record 22 = .ok (.iload_n 2, 1) := dK_s_109.2.2.2.1
theorem dX5_record_23 : decode cX5_record 23 = .ok (.iload_n 3, 1) := dK_s_109.2.2.2.2.1
theorem dX5_record_24 : decode cX5_record 24 = .ok (.aload_n 0, 1) := dK_s_109.2.2.2.2.2.1
theorem dX5_record_25 : decode cX5_record 25 = .ok (.getfield 40, 3) := dK_s_109.2.2.2.2.2.2.1
theorem dX5_record_28 : decode cX5_record 28 = .ok (.invokevirtual 89, 3) := dK_s_109.2.2.2.2.2.2.2.1
theorem dK_s_110 : dk_P cX5_record [(31, (.istore 5, 2)), (33, (.aload_n 0, 1)), (34, (.getfield 46, 3)), (37, (.bipush 24, 2)), (39, (.if_icmp .ge 69, 3)), (42, (.aload_n 0, 1)), (43, (.getfield 24, 3)), (46, (.aload_n 0, 1))] := dk_of 31 (by decide +kernel)
theorem dX5_record_31 : decode cX5_record 31 = .ok (.istore 5, 2) := dK_s_110.1
theorem dX5_record_33 : decode cX5_record 33 = .ok (.aload_n 0, 1) := dK_s_110.2.1
theorem dX5_record_34 : decode cX5_record 34 = .ok (.getfield 46, 3) := dK_s_110.2.2.1
theorem dX5_record_37 : decode cX5_record 37 = .ok (.bipush 24, 2) := dK_s_110.2.2.2.1
theorem dX5_record_39 : decode cX5_record 39 = .ok (.if_icmp .ge 69, 3) := dK_s_110.2.2.2.2.1
theorem dX5_record_42 : decode cX5_record 42 = .ok (.aload_n 0, 1) := dK_s_110.2.2.2.2.2.1
theorem dX5_record_43 : decode cX5_record 43 = .ok (.getfield 24, 3) := dK_s_110.2.2.2.2.2.2.1
theorem dX5_record_46 : decode cX5_record 46 = .ok (.aload_n 0, 1) := dK_s_110.2.2.2.2.2.2.2.1
theorem dK_s_111 : dk_P cX5_record [(47, (.getfield 46, 3)), (50, (.iload_n 1, 1)), (51, (.iastore, 1)), (52, (.aload_n 0, 1)), (53, (.getfield 28, 3)), (56, (.aload_n 0, 1)), (57, (.getfield 46, 3)), (60, (.iload_n 2, 1))] := dk_of 47 (by decide +kernel)
theorem dX5_record_47 : decode cX5_record 47 = .ok (.getfield 46, 3) := dK_s_111.1
theorem dX5_record_50 : decode cX5_record 50 = .ok (.iload_n 1, 1) := dK_s_111.2.1
theorem dX5_record_51 : decode cX5_record 51 = .ok (.iastore, 1) := dK_s_111.2.2.1
theorem dX5_record_52 : decode cX5_record 52 = .ok (.aload_n 0, 1) := dK_s_111.2.2.2.1
theorem dX5_record_53 : decode cX5_record 53 = .ok (.getfield 28, 3) := dK_s_111.2.2.2.2.1
theorem dX5_record_56 : decode cX5_record 56 = .ok (.aload_n 0, 1) := dK_s_111.2.2.2.2.2.1
theorem dX5_record_57 : decode cX5_record 57 = .ok (.getfield 46, 3) := dK_s_111.2.2.2.2.2.2.1
theorem dX5_record_60 : decode cX5_record 60 = .ok (.iload_n 2, 1) := dK_s_111.2.2.2.2.2.2.2.1
theorem dK_s_112 : dk_P cX5_record [(61, (.iastore, 1)), (62, (.aload_n 0, 1)), (63, (.getfield 31, 3)), (66, (.aload_n 0, 1)), (67, (.getfield 46, 3)), (70, (.iload 5, 2)), (72, (.iastore, 1)), (73, (.aload_n 0, 1))] := dk_of 61 (by decide +kernel)
theorem dX5_record_61 : decode cX5_record 61 = .ok (.iastore, 1) := dK_s_112.1
theorem dX5_record_62 : decode cX5_record 62 = .ok (.aload_n 0, 1) := dK_s_112.2.1
theorem dX5_record_63 : decode cX5_record 63 = .ok (.getfield 31, 3) := dK_s_112.2.2.1
theorem dX5_record_66 : decode cX5_record 66 = .ok (.aload_n 0, 1) := dK_s_112.2.2.2.1
theorem dX5_record_67 : decode cX5_record 67 = .ok (.getfield 46, 3) := dK_s_112.2.2.2.2.1
theorem dX5_record_70 : decode cX5_record 70 = .ok (.iload 5, 2) := dK_s_112.2.2.2.2.2.1
theorem dX5_record_72 : decode cX5_record 72 = .ok (.iastore, 1) := dK_s_112.2.2.2.2.2.2.1
theorem dX5_record_73 : decode cX5_record 73 = .ok (.aload_n 0, 1) := dK_s_112.2.2.2.2.2.2.2.1
theorem dK_s_113 : dk_P cX5_record [(74, (.getfield 34, 3)), (77, (.aload_n 0, 1)), (78, (.getfield 46, 3)), (81, (.aload 4, 2)), (83, (.getfield 85, 3)), (86, (.aload 4, 2)), (88, (.iconst 0, 1)), (89, (.iconst 0, 1))] := dk_of 74 (by decide +kernel)
theorem dX5_record_74 : decode cX5_record 74 = .ok (.getfield 34, 3) := dK_s_113.1
theorem dX5_record_77 : decode cX5_record 77 = .ok (.aload_n 0, 1) := dK_s_113.2.1
theorem dX5_record_78 : decode cX5_record 78 = .ok (.getfield 46, 3) := dK_s_113.2.2.1
theorem dX5_record_81 : decode cX5_record 81 = .ok (.aload 4, 2) := dK_s_113.2.2.2.1
theorem dX5_record_83 : decode cX5_record 83 = .ok (.getfield 85, 3) := dK_s_113.2.2.2.2.1
theorem dX5_record_86 : decode cX5_record 86 = .ok (.aload 4, 2) := dK_s_113.2.2.2.2.2.1
theorem dX5_record_88 : decode cX5_record 88 = .ok (.iconst 0, 1) := dK_s_113.2.2.2.2.2.2.1
theorem dX5_record_89 : decode cX5_record 89 = .ok (.iconst 0, 1) := dK_s_113.2.2.2.2.2.2.2.1
theorem dK_s_114 : dk_P cX5_record [(90, (.aload_n 0, 1)), (91, (.getfield 40, 3)), (94, (.invokevirtual 89, 3)), (97, (.iastore, 1)), (98, (.aload_n 0, 1)), (99, (.dup, 1)), (100, (.getfield 46, 3)), (103, (.iconst 1, 1))] := dk_of 90 (by decide +kernel)
theorem dX5_record_90 : decode cX5_record 90 = .ok (.aload_n 0, 1) := dK_s_114.1
theorem dX5_record_91 : decode cX5_record 91 = .ok (.getfield 40, 3) := dK_s_114.2.1
theorem dX5_record_94 : decode cX5_record 94 = .ok (.invokevirtual 89, 3) := dK_s_114.2.2.1
theorem dX5_record_97 : decode cX5_record 97 = .ok (.iastore, 1) := dK_s_114.2.2.2.1
theorem dX5_record_98 : decode cX5_record 98 = .ok (.aload_n 0, 1) := dK_s_114.2.2.2.2.1
theorem dX5_record_99 : decode cX5_record 99 = .ok (.dup, 1) := dK_s_114.2.2.2.2.2.1
theorem dX5_record_100 : decode cX5_record 100 = .ok (.getfield 46, 3) := dK_s_114.2.2.2.2.2.2.1
theorem dX5_record_103 : decode cX5_record 103 = .ok (.iconst 1, 1) := dK_s_114.2.2.2.2.2.2.2.1
theorem dK_s_115 : dk_P cX5_record [(104, (.iadd, 1)), (105, (.putfield 46, 3)), (108, (.iload 5, 2)), (110, (.ireturn, 1))] := dk_of 104 (by decide +kernel)
theorem dX5_record_104 : decode cX5_record 104 = .ok (.iadd, 1) := dK_s_115.1
theorem dX5_record_105 : decode cX5_record 105 = .ok (.putfield 46, 3) := dK_s_115.2.1
theorem dX5_record_108 : decode cX5_record 108 = .ok (.iload 5, 2) := dK_s_115.2.2.1
theorem dX5_record_110 : decode cX5_record 110 = .ok (.ireturn, 1) := dK_s_115.2.2.2.1
theorem dK_s_116 : dk_P cX5_lengthBy [(0, (.aload_n 0, 1)), (1, (.getfield 31, 3)), (4, (.iload_n 2, 1)), (5, (.iaload, 1)), (6, (.ifCond .ge 30, 3)), (9, (.iload_n 1, 1)), (10, (.iconst 2, 1)), (11, (.if_icmp .ne 23, 3))] := dk_of 0 (by decide +kernel)
theorem dX5_lengthBy_0 : decode cX5_lengthBy 0 = .ok (.aload_n 0, 1) := dK_s_116.1
theorem dX5_lengthBy_1 : decode cX5_lengthBy 1 = .ok (.getfield 31, 3) := dK_s_116.2.1
theorem dX5_lengthBy_4 : decode cX5_lengthBy 4 = .ok (.iload_n 2, 1) := dK_s_116.2.2.1
theorem dX5_lengthBy_5 : decode cX5_lengthBy 5 = .ok (.iaload, 1) := dK_s_116.2.2.2.1
theorem dX5_lengthBy_6 : decode cX5_lengthBy 6 = .ok (.ifCond .ge 30, 3) := dK_s_116.2.2.2.2.1
theorem dX5_lengthBy_9 : decode cX5_lengthBy 9 = .ok (.iload_n 1, 1) := dK_s_116.2.2.2.2.2.1
theorem dX5_lengthBy_10 : decode cX5_lengthBy 10 = .ok (.iconst 2, 1) := dK_s_116.2.2.2.2.2.2.1
theorem dX5_lengthBy_11 : decode cX5_lengthBy 11 = .ok (.if_icmp .ne 23, 3) := dK_s_116.2.2.2.2.2.2.2.1
theorem dK_s_117 : dk_P cX5_lengthBy [(14, (.aload_n 0, 1)), (15, (.getfield 31, 3)), (18, (.iload_n 2, 1)), (19, (.iaload, 1)), (20, (.bipush (-9), 2)), (22, (.if_icmp .ne 12, 3)), (25, (.aload_n 0, 1)), (26, (.getfield 34, 3))] := dk_of 14 (by decide +kernel)
theorem dX5_lengthBy_14 : decode cX5_lengthBy 14 = .ok (.aload_n 0, 1) := dK_s_117.1
theorem dX5_lengthBy_15 : decode cX5_lengthBy 15 = .ok (.getfield 31, 3) := dK_s_117.2.1
theorem dX5_lengthBy_18 : decode cX5_lengthBy 18 = .ok (.iload_n 2, 1) := dK_s_117.2.2.1
theorem dX5_lengthBy_19 : decode cX5_lengthBy 19 = .ok (.iaload, 1) := dK_s_117.2.2.2.1
theorem dX5_lengthBy_20 : decode cX5_lengthBy 20 = .ok (.bipush (-9), 2) := dK_s_117.2.2.2.2.1
theorem dX5_lengthBy_22 : decode cX5_lengthBy 22 = .ok (.if_icmp .ne 12, 3) := dK_s_117.2.2.2.2.2.1
theorem dX5_lengthBy_25 : decode cX5_lengthBy 25 = .ok (.aload_n 0, 1) := dK_s_117.2.2.2.2.2.2.1
theorem dX5_lengthBy_26 : decode cX5_lengthBy 26 = .ok (.getfield 34, 3) := dK_s_117.2.2.2.2.2.2.2.1
theorem dK_s_118 : dk_P cX5_lengthBy [(29, (.iload_n 2, 1)), (30, (.iaload, 1)), (31, (.goto 4, 3)), (34, (.iconst 0, 1)), (35, (.ireturn, 1)), (36, (.iload_n 1, 1)), (37, (.iconst 1, 1)), (38, (.if_icmp .ne 19, 3))] := dk_of 29 (by decide +kernel)
theorem dX5_lengthBy_29 : decode cX5_lengthBy 29 = .ok (.iload_n 2, 1) := dK_s_118.1
theorem dX5_lengthBy_30 : decode cX5_lengthBy 30 = .ok (.iaload, 1) := dK_s_118.2.1
theorem dX5_lengthBy_31 : decode cX5_lengthBy 31 = .ok (.goto 4, 3) := dK_s_118.2.2.1
theorem dX5_lengthBy_34 : decode cX5_lengthBy 34 = .ok (.iconst 0, 1) := dK_s_118.2.2.2.1
theorem dX5_lengthBy_35 : decode cX5_lengthBy 35 = .ok (.ireturn, 1) := dK_s_118.2.2.2.2.1
theorem dX5_lengthBy_36 : decode cX5_lengthBy 36 = .ok (.iload_n 1, 1) := dK_s_118.2.2.2.2.2.1
theorem dX5_lengthBy_37 : decode cX5_lengthBy 37 = .ok (.iconst 1, 1) := dK_s_118.2.2.2.2.2.2.1
theorem dX5_lengthBy_38 : decode cX5_lengthBy 38 = .ok (.if_icmp .ne 19, 3) := dK_s_118.2.2.2.2.2.2.2.1
theorem dK_s_119 : dk_P cX5_lengthBy [(41, (.aload_n 0, 1)), (42, (.getfield 31, 3)), (45, (.iload_n 2, 1)), (46, (.iaload, 1)), (47, (.aload_n 0, 1)), (48, (.getfield 28, 3)), (51, (.iload_n 2, 1)), (52, (.iaload, 1))] := dk_of 41 (by decide +kernel)
theorem dX5_lengthBy_41 : decode cX5_lengthBy 41 = .ok (.aload_n 0, 1) := dK_s_119.1
theorem dX5_lengthBy_42 : decode cX5_lengthBy 42 = .ok (.getfield 31, 3) := dK_s_119.2.1
theorem dX5_lengthBy_45 : decode cX5_lengthBy 45 = .ok (.iload_n 2, 1) := dK_s_119.2.2.1
theorem dX5_lengthBy_46 : decode cX5_lengthBy 46 = .ok (.iaload, 1) := dK_s_119.2.2.2.1
theorem dX5_lengthBy_47 : decode cX5_lengthBy 47 = .ok (.aload_n 0, 1) := dK_s_119.2.2.2.2.1
theorem dX5_lengthBy_48 : decode cX5_lengthBy 48 = .ok (.getfield 28, 3) := dK_s_119.2.2.2.2.2.1
theorem dX5_lengthBy_51 : decode cX5_lengthBy 51 = .ok (.iload_n 2, 1) := dK_s_119.2.2.2.2.2.2.1
theorem dX5_lengthBy_52 : decode cX5_lengthBy 52 = .ok (.iaload, 1) := dK_s_119.2.2.2.2.2.2.2.1
theorem dK_s_120 : dk_P cX5_lengthBy [(53, (.iadd, 1)), (54, (.goto 9, 3)), (57, (.aload_n 0, 1)), (58, (.getfield 31, 3)), (61, (.iload_n 2, 1)), (62, (.iaload, 1)), (63, (.ireturn, 1))] := dk_of 53 (by decide +kernel)
theorem dX5_lengthBy_53 : decode cX5_lengthBy 53 = .ok (.iadd, 1) := dK_s_120.1
theorem dX5_lengthBy_54 : decode cX5_lengthBy 54 = .ok (.goto 9, 3) := dK_s_120.2.1
theorem dX5_lengthBy_57 : decode cX5_lengthBy 57 = .ok (.aload_n 0, 1) := dK_s_120.2.2.1
theorem dX5_lengthBy_58 : decode cX5_lengthBy 58 = .ok (.getfield 31, 3) := dK_s_120.2.2.2.1
theorem dX5_lengthBy_61 : decode cX5_lengthBy 61 = .ok (.iload_n 2, 1) := dK_s_120.2.2.2.2.1
theorem dX5_lengthBy_62 : decode cX5_lengthBy 62 = .ok (.iaload, 1) := dK_s_120.2.2.2.2.2.1
theorem dX5_lengthBy_63 : decode cX5_lengthBy 63 = .ok (.ireturn, 1) := dK_s_120.2.2.2.2.2.2.1
theorem dK_s_121 : dk_P cX5_rank [(0, (.aload_n 1, 1)), (1, (.aload_n 0, 1)), (2, (.getfield 43, 3)), (5, (.invokevirtual 95, 3)), (8, (.iconst 0, 1)), (9, (.istore 4, 2)), (11, (.iload 4, 2)), (13, (.iload_n 3, 1))] := dk_of 0 (by decide +kernel)
theorem dX5_rank_0 : decode cX5_rank 0 = .ok (.aload_n 1, 1) := dK_s_121.1
theorem dX5_rank_1 : decode cX5_rank 1 = .ok (.aload_n 0, 1) := dK_s_121.2.1
theorem dX5_rank_2 : decode cX5_rank 2 = .ok (.getfield 43, 3) := dK_s_121.2.2.1
theorem dX5_rank_5 : decode cX5_rank 5 = .ok (.invokevirtual 95, 3) := dK_s_121.2.2.2.1
theorem dX5_rank_8 : decode cX5_rank 8 = .ok (.iconst 0, 1) := dK_s_121.2.2.2.2.1
theorem dX5_rank_9 : decode cX5_rank 9 = .ok (.istore 4, 2) := dK_s_121.2.2.2.2.2.1
theorem dX5_rank_11 : decode cX5_rank 11 = .ok (.iload 4, 2) := dK_s_121.2.2.2.2.2.2.1
theorem dX5_rank_13 : decode cX5_rank 13 = .ok (.iload_n 3, 1) := dK_s_121.2.2.2.2.2.2.2.1
theorem dK_s_122 : dk_P cX5_rank [(14, (.if_icmp .ge 36, 3)), (17, (.iload 4, 2)), (19, (.aload_n 0, 1)), (20, (.getfield 46, 3)), (23, (.if_icmp .ge 27, 3)), (26, (.aload_n 1, 1)), (27, (.aload_n 0, 1)), (28, (.getfield 24, 3))] := dk_of 14 (by decide +kernel)
theorem dX5_rank_14 : decode cX5_rank 14 = .ok (.if_icmp .ge 36, 3) := dK_s_122.1
theorem dX5_rank_17 : decode cX5_rank 17 = .ok (.iload 4, 2) := dK_s_122.2.1
theorem dX5_rank_19 : decode cX5_rank 19 = .ok (.aload_n 0, 1) := dK_s_122.2.2.1
theorem dX5_rank_20 : decode cX5_rank 20 = .ok (.getfield 46, 3) := dK_s_122.2.2.2.1
theorem dX5_rank_23 : decode cX5_rank 23 = .ok (.if_icmp .ge 27, 3) := dK_s_122.2.2.2.2.1
theorem dX5_rank_26 : decode cX5_rank 26 = .ok (.aload_n 1, 1) := dK_s_122.2.2.2.2.2.1
theorem dX5_rank_27 : decode cX5_rank 27 = .ok (.aload_n 0, 1) := dK_s_122.2.2.2.2.2.2.1
theorem dX5_rank_28 : decode cX5_rank 28 = .ok (.getfield 24, 3) := dK_s_122.2.2.2.2.2.2.2.1
theorem dK_s_123 : dk_P cX5_rank [(31, (.iload 4, 2)), (33, (.iaload, 1)), (34, (.aload_n 0, 1)), (35, (.iload_n 2, 1)), (36, (.iload 4, 2)), (38, (.invokevirtual 99, 3)), (41, (.invokevirtual 102, 3)), (44, (.iinc 4 1, 3))] := dk_of 31 (by decide +kernel)
theorem dX5_rank_31 : decode cX5_rank 31 = .ok (.iload 4, 2) := dK_s_123.1
theorem dX5_rank_33 : decode cX5_rank 33 = .ok (.iaload, 1) := dK_s_123.2.1
theorem dX5_rank_34 : decode cX5_rank 34 = .ok (.aload_n 0, 1) := dK_s_123.2.2.1
theorem dX5_rank_35 : decode cX5_rank 35 = .ok (.iload_n 2, 1) := dK_s_123.2.2.2.1
theorem dX5_rank_36 : decode cX5_rank 36 = .ok (.iload 4, 2) := dK_s_123.2.2.2.2.1
theorem dX5_rank_38 : decode cX5_rank 38 = .ok (.invokevirtual 99, 3) := dK_s_123.2.2.2.2.2.1
theorem dX5_rank_41 : decode cX5_rank 41 = .ok (.invokevirtual 102, 3) := dK_s_123.2.2.2.2.2.2.1
theorem dX5_rank_44 : decode cX5_rank 44 = .ok (.iinc 4 1, 3) := dK_s_123.2.2.2.2.2.2.2.1
theorem dK_s_124 : dk_P cX5_rank [(47, (.goto (-36), 3)), (50, (.return_, 1))] := dk_of 47 (by decide +kernel)
theorem dX5_rank_47 : decode cX5_rank 47 = .ok (.goto (-36), 3) := dK_s_124.1
theorem dX5_rank_50 : decode cX5_rank 50 = .ok (.return_, 1) := dK_s_124.2.1
theorem dK_s_125 : dk_P cX5_leader [(0, (.aload_n 0, 1)), (1, (.aload_n 1, 1)), (2, (.iconst 0, 1)), (3, (.aload_n 0, 1)), (4, (.getfield 46, 3)), (7, (.invokevirtual 72, 3)), (10, (.aload_n 0, 1)), (11, (.getfield 43, 3))] := dk_of 0 (by decide +kernel)
theorem dX5_leader_0 : decode cX5_leader 0 = .ok (.aload_n 0, 1) := dK_s_125.1
theorem dX5_leader_1 : decode cX5_leader 1 = .ok (.aload_n 1, 1) := dK_s_125.2.1
theorem dX5_leader_2 : decode cX5_leader 2 = .ok (.iconst 0, 1) := dK_s_125.2.2.1
theorem dX5_leader_3 : decode cX5_leader 3 = .ok (.aload_n 0, 1) := dK_s_125.2.2.2.1
theorem dX5_leader_4 : decode cX5_leader 4 = .ok (.getfield 46, 3) := dK_s_125.2.2.2.2.1
theorem dX5_leader_7 : decode cX5_leader 7 = .ok (.invokevirtual 72, 3) := dK_s_125.2.2.2.2.2.1
theorem dX5_leader_10 : decode cX5_leader 10 = .ok (.aload_n 0, 1) := dK_s_125.2.2.2.2.2.2.1
theorem dX5_leader_11 : decode cX5_leader 11 = .ok (.getfield 43, 3) := dK_s_125.2.2.2.2.2.2.2.1
theorem dK_s_126 : dk_P cX5_leader [(14, (.ifCond .ne 8, 3)), (17, (.bipush (-9), 2)), (19, (.goto 8, 3)), (22, (.aload_n 1, 1)), (23, (.iconst 0, 1)), (24, (.invokevirtual 76, 3)), (27, (.ireturn, 1))] := dk_of 14 (by decide +kernel)
theorem dX5_leader_14 : decode cX5_leader 14 = .ok (.ifCond .ne 8, 3) := dK_s_126.1
theorem dX5_leader_17 : decode cX5_leader 17 = .ok (.bipush (-9), 2) := dK_s_126.2.1
theorem dX5_leader_19 : decode cX5_leader 19 = .ok (.goto 8, 3) := dK_s_126.2.2.1
theorem dX5_leader_22 : decode cX5_leader 22 = .ok (.aload_n 1, 1) := dK_s_126.2.2.2.1
theorem dX5_leader_23 : decode cX5_leader 23 = .ok (.iconst 0, 1) := dK_s_126.2.2.2.2.1
theorem dX5_leader_24 : decode cX5_leader 24 = .ok (.invokevirtual 76, 3) := dK_s_126.2.2.2.2.2.1
theorem dX5_leader_27 : decode cX5_leader 27 = .ok (.ireturn, 1) := dK_s_126.2.2.2.2.2.2.1
theorem dK_s_127 : dk_P cX5_triesOf [(0, (.iconst 0, 1)), (1, (.istore_n 2, 1)), (2, (.iconst 0, 1)), (3, (.istore_n 3, 1)), (4, (.iload_n 3, 1)), (5, (.aload_n 0, 1)), (6, (.getfield 46, 3)), (9, (.if_icmp .ge 27, 3))] := dk_of 0 (by decide +kernel)
theorem dX5_triesOf_0 : decode cX5_triesOf 0 = .ok (.iconst 0, 1) := dK_s_127.1
theorem dX5_triesOf_1 : decode cX5_triesOf 1 = .ok (.istore_n 2, 1) := dK_s_127.2.1
theorem dX5_triesOf_2 : decode cX5_triesOf 2 = .ok (.iconst 0, 1) := dK_s_127.2.2.1
theorem dX5_triesOf_3 : decode cX5_triesOf 3 = .ok (.istore_n 3, 1) := dK_s_127.2.2.2.1
theorem dX5_triesOf_4 : decode cX5_triesOf 4 = .ok (.iload_n 3, 1) := dK_s_127.2.2.2.2.1
theorem dX5_triesOf_5 : decode cX5_triesOf 5 = .ok (.aload_n 0, 1) := dK_s_127.2.2.2.2.2.1
theorem dX5_triesOf_6 : decode cX5_triesOf 6 = .ok (.getfield 46, 3) := dK_s_127.2.2.2.2.2.2.1
theorem dX5_triesOf_9 : decode cX5_triesOf 9 = .ok (.if_icmp .ge 27, 3) := dK_s_127.2.2.2.2.2.2.2.1
theorem dK_s_128 : dk_P cX5_triesOf [(12, (.iload_n 2, 1)), (13, (.aload_n 0, 1)), (14, (.getfield 24, 3)), (17, (.iload_n 3, 1)), (18, (.iaload, 1)), (19, (.iload_n 1, 1)), (20, (.if_icmp .ne 7, 3)), (23, (.iconst 1, 1))] := dk_of 12 (by decide +kernel)
theorem dX5_triesOf_12 : decode cX5_triesOf 12 = .ok (.iload_n 2, 1) := dK_s_128.1
theorem dX5_triesOf_13 : decode cX5_triesOf 13 = .ok (.aload_n 0, 1) := dK_s_128.2.1
theorem dX5_triesOf_14 : decode cX5_triesOf 14 = .ok (.getfield 24, 3) := dK_s_128.2.2.1
theorem dX5_triesOf_17 : decode cX5_triesOf 17 = .ok (.iload_n 3, 1) := dK_s_128.2.2.2.1
theorem dX5_triesOf_18 : decode cX5_triesOf 18 = .ok (.iaload, 1) := dK_s_128.2.2.2.2.1
theorem dX5_triesOf_19 : decode cX5_triesOf 19 = .ok (.iload_n 1, 1) := dK_s_128.2.2.2.2.2.1
theorem dX5_triesOf_20 : decode cX5_triesOf 20 = .ok (.if_icmp .ne 7, 3) := dK_s_128.2.2.2.2.2.2.1
theorem dX5_triesOf_23 : decode cX5_triesOf 23 = .ok (.iconst 1, 1) := dK_s_128.2.2.2.2.2.2.2.1
theorem dK_s_129 : dk_P cX5_triesOf [(24, (.goto 4, 3)), (27, (.iconst 0, 1)), (28, (.iadd, 1)), (29, (.istore_n 2, 1)), (30, (.iinc 3 1, 3)), (33, (.goto (-29), 3)), (36, (.iload_n 2, 1)), (37, (.ireturn, 1))] := dk_of 24 (by decide +kernel)
theorem dX5_triesOf_24 : decode cX5_triesOf 24 = .ok (.goto 4, 3) := dK_s_129.1
theorem dX5_triesOf_27 : decode cX5_triesOf 27 = .ok (.iconst 0, 1) := dK_s_129.2.1
theorem dX5_triesOf_28 : decode cX5_triesOf 28 = .ok (.iadd, 1) := dK_s_129.2.2.1
theorem dX5_triesOf_29 : decode cX5_triesOf 29 = .ok (.istore_n 2, 1) := dK_s_129.2.2.2.1
theorem dX5_triesOf_30 : decode cX5_triesOf 30 = .ok (.iinc 3 1, 3) := dK_s_129.2.2.2.2.1
theorem dX5_triesOf_33 : decode cX5_triesOf 33 = .ok (.goto (-29), 3) := dK_s_129.2.2.2.2.2.1
theorem dX5_triesOf_36 : decode cX5_triesOf 36 = .ok (.iload_n 2, 1) := dK_s_129.2.2.2.2.2.2.1
theorem dX5_triesOf_37 : decode cX5_triesOf 37 = .ok (.ireturn, 1) := dK_s_129.2.2.2.2.2.2.2.1
theorem dK_s_130 : dk_P cX5_triesWith [(0, (.iconst 0, 1)), (1, (.istore_n 2, 1)), (2, (.iconst 0, 1)), (3, (.istore_n 3, 1)), (4, (.iload_n 3, 1)), (5, (.aload_n 0, 1)), (6, (.getfield 46, 3)), (9, (.if_icmp .ge 27, 3))] := dk_of 0 (by decide +kernel)
theorem dX5_triesWith_0 : decode cX5_triesWith 0 = .ok (.iconst 0, 1) := dK_s_130.1
theorem dX5_triesWith_1 : decode cX5_triesWith 1 = .ok (.istore_n 2, 1) := dK_s_130.2.1
theorem dX5_triesWith_2 : decode cX5_triesWith 2 = .ok (.iconst 0, 1) := dK_s_130.2.2.1
theorem dX5_triesWith_3 : decode cX5_triesWith 3 = .ok (.istore_n 3, 1) := dK_s_130.2.2.2.1
theorem dX5_triesWith_4 : decode cX5_triesWith 4 = .ok (.iload_n 3, 1) := dK_s_130.2.2.2.2.1
theorem dX5_triesWith_5 : decode cX5_triesWith 5 = .ok (.aload_n 0, 1) := dK_s_130.2.2.2.2.2.1
theorem dX5_triesWith_6 : decode cX5_triesWith 6 = .ok (.getfield 46, 3) := dK_s_130.2.2.2.2.2.2.1
theorem dX5_triesWith_9 : decode cX5_triesWith 9 = .ok (.if_icmp .ge 27, 3) := dK_s_130.2.2.2.2.2.2.2.1
theorem dK_s_131 : dk_P cX5_triesWith [(12, (.iload_n 2, 1)), (13, (.aload_n 0, 1)), (14, (.getfield 31, 3)), (17, (.iload_n 3, 1)), (18, (.iaload, 1)), (19, (.iload_n 1, 1)), (20, (.if_icmp .ne 7, 3)), (23, (.iconst 1, 1))] := dk_of 12 (by decide +kernel)
theorem dX5_triesWith_12 : decode cX5_triesWith 12 = .ok (.iload_n 2, 1) := dK_s_131.1
theorem dX5_triesWith_13 : decode cX5_triesWith 13 = .ok (.aload_n 0, 1) := dK_s_131.2.1
theorem dX5_triesWith_14 : decode cX5_triesWith 14 = .ok (.getfield 31, 3) := dK_s_131.2.2.1
theorem dX5_triesWith_17 : decode cX5_triesWith 17 = .ok (.iload_n 3, 1) := dK_s_131.2.2.2.1
theorem dX5_triesWith_18 : decode cX5_triesWith 18 = .ok (.iaload, 1) := dK_s_131.2.2.2.2.1
theorem dX5_triesWith_19 : decode cX5_triesWith 19 = .ok (.iload_n 1, 1) := dK_s_131.2.2.2.2.2.1
theorem dX5_triesWith_20 : decode cX5_triesWith 20 = .ok (.if_icmp .ne 7, 3) := dK_s_131.2.2.2.2.2.2.1
theorem dX5_triesWith_23 : decode cX5_triesWith 23 = .ok (.iconst 1, 1) := dK_s_131.2.2.2.2.2.2.2.1
theorem dK_s_132 : dk_P cX5_triesWith [(24, (.goto 4, 3)), (27, (.iconst 0, 1)), (28, (.iadd, 1)), (29, (.istore_n 2, 1)), (30, (.iinc 3 1, 3)), (33, (.goto (-29), 3)), (36, (.iload_n 2, 1)), (37, (.ireturn, 1))] := dk_of 24 (by decide +kernel)
theorem dX5_triesWith_24 : decode cX5_triesWith 24 = .ok (.goto 4, 3) := dK_s_132.1
theorem dX5_triesWith_27 : decode cX5_triesWith 27 = .ok (.iconst 0, 1) := dK_s_132.2.1
theorem dX5_triesWith_28 : decode cX5_triesWith 28 = .ok (.iadd, 1) := dK_s_132.2.2.1
theorem dX5_triesWith_29 : decode cX5_triesWith 29 = .ok (.istore_n 2, 1) := dK_s_132.2.2.2.1
theorem dX5_triesWith_30 : decode cX5_triesWith 30 = .ok (.iinc 3 1, 3) := dK_s_132.2.2.2.2.1
theorem dX5_triesWith_33 : decode cX5_triesWith 33 = .ok (.goto (-29), 3) := dK_s_132.2.2.2.2.2.1
theorem dX5_triesWith_36 : decode cX5_triesWith 36 = .ok (.iload_n 2, 1) := dK_s_132.2.2.2.2.2.2.1
theorem dX5_triesWith_37 : decode cX5_triesWith 37 = .ok (.ireturn, 1) := dK_s_132.2.2.2.2.2.2.2.1
theorem dK_s_133 : dk_P cX5_find [(0, (.iconst 0, 1)), (1, (.istore_n 3, 1)), (2, (.iconst 0, 1)), (3, (.istore 4, 2)), (5, (.iload 4, 2)), (7, (.aload_n 0, 1)), (8, (.getfield 46, 3)), (11, (.if_icmp .ge 31, 3))] := dk_of 0 (by decide +kernel)
theorem dX5_find_0 : decode cX5_find 0 = .ok (.iconst 0, 1) := dK_s_133.1
theorem dX5_find_1 : decode cX5_find 1 = .ok (.istore_n 3, 1) := dK_s_133.2.1
theorem dX5_find_2 : decode cX5_find 2 = .ok (.iconst 0, 1) := dK_s_133.2.2.1
theorem dX5_find_3 : decode cX5_find 3 = .ok (.istore 4, 2) := dK_s_133.2.2.2.1
theorem dX5_find_5 : decode cX5_find 5 = .ok (.iload 4, 2) := dK_s_133.2.2.2.2.1
theorem dX5_find_7 : decode cX5_find 7 = .ok (.aload_n 0, 1) := dK_s_133.2.2.2.2.2.1
theorem dX5_find_8 : decode cX5_find 8 = .ok (.getfield 46, 3) := dK_s_133.2.2.2.2.2.2.1
theorem dX5_find_11 : decode cX5_find 11 = .ok (.if_icmp .ge 31, 3) := dK_s_133.2.2.2.2.2.2.2.1
theorem dK_s_134 : dk_P cX5_find [(14, (.aload_n 0, 1)), (15, (.getfield 24, 3)), (18, (.iload 4, 2)), (20, (.iaload, 1)), (21, (.iload_n 1, 1)), (22, (.if_icmp .ne 14, 3)), (25, (.iload_n 3, 1)), (26, (.iload_n 2, 1))] := dk_of 14 (by decide +kernel)
theorem dX5_find_14 : decode cX5_find 14 = .ok (.aload_n 0, 1) := dK_s_134.1
theorem dX5_find_15 : decode cX5_find 15 = .ok (.getfield 24, 3) := dK_s_134.2.1
theorem dX5_find_18 : decode cX5_find 18 = .ok (.iload 4, 2) := dK_s_134.2.2.1
theorem dX5_find_20 : decode cX5_find 20 = .ok (.iaload, 1) := dK_s_134.2.2.2.1
theorem dX5_find_21 : decode cX5_find 21 = .ok (.iload_n 1, 1) := dK_s_134.2.2.2.2.1
theorem dX5_find_22 : decode cX5_find 22 = .ok (.if_icmp .ne 14, 3) := dK_s_134.2.2.2.2.2.1
theorem dX5_find_25 : decode cX5_find 25 = .ok (.iload_n 3, 1) := dK_s_134.2.2.2.2.2.2.1
theorem dX5_find_26 : decode cX5_find 26 = .ok (.iload_n 2, 1) := dK_s_134.2.2.2.2.2.2.2.1
theorem dK_s_135 : dk_P cX5_find [(27, (.if_icmp .ne 6, 3)), (30, (.iload 4, 2)), (32, (.ireturn, 1)), (33, (.iinc 3 1, 3)), (36, (.iinc 4 1, 3)), (39, (.goto (-34), 3)), (42, (.iconst (-1), 1)), (43, (.ireturn, 1))] := dk_of 27 (by decide +kernel)
theorem dX5_find_27 : decode cX5_find 27 = .ok (.if_icmp .ne 6, 3) := dK_s_135.1
theorem dX5_find_30 : decode cX5_find 30 = .ok (.iload 4, 2) := dK_s_135.2.1
theorem dX5_find_32 : decode cX5_find 32 = .ok (.ireturn, 1) := dK_s_135.2.2.1
theorem dX5_find_33 : decode cX5_find 33 = .ok (.iinc 3 1, 3) := dK_s_135.2.2.2.1
theorem dX5_find_36 : decode cX5_find 36 = .ok (.iinc 4 1, 3) := dK_s_135.2.2.2.2.1
theorem dX5_find_39 : decode cX5_find 39 = .ok (.goto (-34), 3) := dK_s_135.2.2.2.2.2.1
theorem dX5_find_42 : decode cX5_find 42 = .ok (.iconst (-1), 1) := dK_s_135.2.2.2.2.2.2.1
theorem dX5_find_43 : decode cX5_find 43 = .ok (.ireturn, 1) := dK_s_135.2.2.2.2.2.2.2.1
theorem dK_s_136 : dk_P cX6_init [(0, (.aload_n 0, 1)), (1, (.invokespecial 3, 3)), (4, (.aload_n 0, 1)), (5, (.iconst 4, 1)), (6, (.newarray .int, 2)), (8, (.putfield 9, 3)), (11, (.aload_n 0, 1)), (12, (.iconst 4, 1))] := dk_of 0 (by decide +kernel)
theorem dX6_init_0 : decode cX6_init 0 = .ok (.aload_n 0, 1) := dK_s_136.1
theorem dX6_init_1 : decode cX6_init 1 = .ok (.invokespecial 3, 3) := dK_s_136.2.1
theorem dX6_init_4 : decode cX6_init 4 = .ok (.aload_n 0, 1) := dK_s_136.2.2.1
theorem dX6_init_5 : decode cX6_init 5 = .ok (.iconst 4, 1) := dK_s_136.2.2.2.1
theorem dX6_init_6 : decode cX6_init 6 = .ok (.newarray .int, 2) := dK_s_136.2.2.2.2.1
theorem dX6_init_8 : decode cX6_init 8 = .ok (.putfield 9, 3) := dK_s_136.2.2.2.2.2.1
theorem dX6_init_11 : decode cX6_init 11 = .ok (.aload_n 0, 1) := dK_s_136.2.2.2.2.2.2.1
theorem dX6_init_12 : decode cX6_init 12 = .ok (.iconst 4, 1) := dK_s_136.2.2.2.2.2.2.2.1
theorem dK_s_137 : dk_P cX6_init [(13, (.newarray .int, 2)), (15, (.putfield 15, 3)), (18, (.return_, 1))] := dk_of 13 (by decide +kernel)
theorem dX6_init_13 : decode cX6_init 13 = .ok (.newarray .int, 2) := dK_s_137.1
theorem dX6_init_15 : decode cX6_init 15 = .ok (.putfield 15, 3) := dK_s_137.2.1
theorem dX6_init_18 : decode cX6_init 18 = .ok (.return_, 1) := dK_s_137.2.2.1
theorem dK_s_138 : dk_P cX6_start [(0, (.aload_n 0, 1)), (1, (.iconst 0, 1)), (2, (.iconst 4, 1)), (3, (.iload_n 1, 1)), (4, (.invokestatic 18, 3)), (7, (.invokestatic 24, 3)), (10, (.putfield 27, 3)), (13, (.aload_n 0, 1))] := dk_of 0 (by decide +kernel)
theorem dX6_start_0 : decode cX6_start 0 = .ok (.aload_n 0, 1) := dK_s_138.1
theorem dX6_start_1 : decode cX6_start 1 = .ok (.iconst 0, 1) := dK_s_138.2.1
theorem dX6_start_2 : decode cX6_start 2 = .ok (.iconst 4, 1) := dK_s_138.2.2.1
theorem dX6_start_3 : decode cX6_start 3 = .ok (.iload_n 1, 1) := dK_s_138.2.2.2.1
theorem dX6_start_4 : decode cX6_start 4 = .ok (.invokestatic 18, 3) := dK_s_138.2.2.2.2.1
theorem dX6_start_7 : decode cX6_start 7 = .ok (.invokestatic 24, 3) := dK_s_138.2.2.2.2.2.1
theorem dX6_start_10 : decode cX6_start 10 = .ok (.putfield 27, 3) := dK_s_138.2.2.2.2.2.2.1
theorem dX6_start_13 : decode cX6_start 13 = .ok (.aload_n 0, 1) := dK_s_138.2.2.2.2.2.2.2.1
theorem dK_s_139 : dk_P cX6_start [(14, (.getfield 9, 3)), (17, (.iconst 0, 1)), (18, (.invokestatic 31, 3)), (21, (.aload_n 0, 1)), (22, (.getfield 15, 3)), (25, (.iconst 0, 1)), (26, (.invokestatic 31, 3)), (29, (.return_, 1))] := dk_of 14 (by decide +kernel)
theorem dX6_start_14 : decode cX6_start 14 = .ok (.getfield 9, 3) := dK_s_139.1
theorem dX6_start_17 : decode cX6_start 17 = .ok (.iconst 0, 1) := dK_s_139.2.1
theorem dX6_start_18 : decode cX6_start 18 = .ok (.invokestatic 31, 3) := dK_s_139.2.2.1
theorem dX6_start_21 : decode cX6_start 21 = .ok (.aload_n 0, 1) := dK_s_139.2.2.2.1
theorem dX6_start_22 : decode cX6_start 22 = .ok (.getfield 15, 3) := dK_s_139.2.2.2.2.1
theorem dX6_start_25 : decode cX6_start 25 = .ok (.iconst 0, 1) := dK_s_139.2.2.2.2.2.1
theorem dX6_start_26 : decode cX6_start 26 = .ok (.invokestatic 31, 3) := dK_s_139.2.2.2.2.2.2.1
theorem dX6_start_29 : decode cX6_start 29 = .ok (.return_, 1) := dK_s_139.2.2.2.2.2.2.2.1
theorem dK_s_140 : dk_P cX6_add [(0, (.iload_n 1, 1)), (1, (.ifCond .lt 8, 3)), (4, (.iload_n 1, 1)), (5, (.iconst 4, 1)), (6, (.if_icmp .lt 4, 3)), (9, (.return_, 1)), (10, (.iload_n 2, 1)), (11, (.aload_n 0, 1))] := dk_of 0 (by decide +kernel)
theorem dX6_add_0 : decode cX6_add 0 = .ok (.iload_n 1, 1) := dK_s_140.1
theorem dX6_add_1 : decode cX6_add 1 = .ok (.ifCond .lt 8, 3) := dK_s_140.2.1
theorem dX6_add_4 : decode cX6_add 4 = .ok (.iload_n 1, 1) := dK_s_140.2.2.1
theorem dX6_add_5 : decode cX6_add 5 = .ok (.iconst 4, 1) := dK_s_140.2.2.2.1
theorem dX6_add_6 : decode cX6_add 6 = .ok (.if_icmp .lt 4, 3) := dK_s_140.2.2.2.2.1
theorem dX6_add_9 : decode cX6_add 9 = .ok (.return_, 1) := dK_s_140.2.2.2.2.2.1
theorem dX6_add_10 : decode cX6_add 10 = .ok (.iload_n 2, 1) := dK_s_140.2.2.2.2.2.2.1
theorem dX6_add_11 : decode cX6_add 11 = .ok (.aload_n 0, 1) := dK_s_140.2.2.2.2.2.2.2.1
theorem dK_s_141 : dk_P cX6_add [(12, (.getfield 9, 3)), (15, (.iload_n 1, 1)), (16, (.iaload, 1)), (17, (.if_icmp .le 25, 3)), (20, (.aload_n 0, 1)), (21, (.getfield 15, 3)), (24, (.iload_n 1, 1)), (25, (.aload_n 0, 1))] := dk_of 12 (by decide +kernel)
theorem dX6_add_12 : decode cX6_add 12 = .ok (.getfield 9, 3) := dK_s_141.1
theorem dX6_add_15 : decode cX6_add 15 = .ok (.iload_n 1, 1) := dK_s_141.2.1
theorem dX6_add_16 : decode cX6_add 16 = .ok (.iaload, 1) := dK_s_141.2.2.1
theorem dX6_add_17 : decode cX6_add 17 = .ok (.if_icmp .le 25, 3) := dK_s_141.2.2.2.1
theorem dX6_add_20 : decode cX6_add 20 = .ok (.aload_n 0, 1) := dK_s_141.2.2.2.2.1
theorem dX6_add_21 : decode cX6_add 21 = .ok (.getfield 15, 3) := dK_s_141.2.2.2.2.2.1
theorem dX6_add_24 : decode cX6_add 24 = .ok (.iload_n 1, 1) := dK_s_141.2.2.2.2.2.2.1
theorem dX6_add_25 : decode cX6_add 25 = .ok (.aload_n 0, 1) := dK_s_141.2.2.2.2.2.2.2.1
theorem dK_s_142 : dk_P cX6_add [(26, (.getfield 9, 3)), (29, (.iload_n 1, 1)), (30, (.iaload, 1)), (31, (.iastore, 1)), (32, (.aload_n 0, 1)), (33, (.getfield 9, 3)), (36, (.iload_n 1, 1)), (37, (.iload_n 2, 1))] := dk_of 26 (by decide +kernel)
theorem dX6_add_26 : decode cX6_add 26 = .ok (.getfield 9, 3) := dK_s_142.1
theorem dX6_add_29 : decode cX6_add 29 = .ok (.iload_n 1, 1) := dK_s_142.2.1
theorem dX6_add_30 : decode cX6_add 30 = .ok (.iaload, 1) := dK_s_142.2.2.1
theorem dX6_add_31 : decode cX6_add 31 = .ok (.iastore, 1) := dK_s_142.2.2.2.1
theorem dX6_add_32 : decode cX6_add 32 = .ok (.aload_n 0, 1) := dK_s_142.2.2.2.2.1
theorem dX6_add_33 : decode cX6_add 33 = .ok (.getfield 9, 3) := dK_s_142.2.2.2.2.2.1
theorem dX6_add_36 : decode cX6_add 36 = .ok (.iload_n 1, 1) := dK_s_142.2.2.2.2.2.2.1
theorem dX6_add_37 : decode cX6_add 37 = .ok (.iload_n 2, 1) := dK_s_142.2.2.2.2.2.2.2.1
theorem dK_s_143 : dk_P cX6_add [(38, (.iastore, 1)), (39, (.goto 20, 3)), (42, (.iload_n 2, 1)), (43, (.aload_n 0, 1)), (44, (.getfield 15, 3)), (47, (.iload_n 1, 1)), (48, (.iaload, 1)), (49, (.if_icmp .le 10, 3))] := dk_of 38 (by decide +kernel)
theorem dX6_add_38 : decode cX6_add 38 = .ok (.iastore, 1) := dK_s_143.1
theorem dX6_add_39 : decode cX6_add 39 = .ok (.goto 20, 3) := dK_s_143.2.1
theorem dX6_add_42 : decode cX6_add 42 = .ok (.iload_n 2, 1) := dK_s_143.2.2.1
theorem dX6_add_43 : decode cX6_add 43 = .ok (.aload_n 0, 1) := dK_s_143.2.2.2.1
theorem dX6_add_44 : decode cX6_add 44 = .ok (.getfield 15, 3) := dK_s_143.2.2.2.2.1
theorem dX6_add_47 : decode cX6_add 47 = .ok (.iload_n 1, 1) := dK_s_143.2.2.2.2.2.1
theorem dX6_add_48 : decode cX6_add 48 = .ok (.iaload, 1) := dK_s_143.2.2.2.2.2.2.1
theorem dX6_add_49 : decode cX6_add 49 = .ok (.if_icmp .le 10, 3) := dK_s_143.2.2.2.2.2.2.2.1
theorem dK_s_144 : dk_P cX6_add [(52, (.aload_n 0, 1)), (53, (.getfield 15, 3)), (56, (.iload_n 1, 1)), (57, (.iload_n 2, 1)), (58, (.iastore, 1)), (59, (.return_, 1))] := dk_of 52 (by decide +kernel)
theorem dX6_add_52 : decode cX6_add 52 = .ok (.aload_n 0, 1) := dK_s_144.1
theorem dX6_add_53 : decode cX6_add 53 = .ok (.getfield 15, 3) := dK_s_144.2.1
theorem dX6_add_56 : decode cX6_add 56 = .ok (.iload_n 1, 1) := dK_s_144.2.2.1
theorem dX6_add_57 : decode cX6_add 57 = .ok (.iload_n 2, 1) := dK_s_144.2.2.2.1
theorem dX6_add_58 : decode cX6_add 58 = .ok (.iastore, 1) := dK_s_144.2.2.2.2.1
theorem dX6_add_59 : decode cX6_add 59 = .ok (.return_, 1) := dK_s_144.2.2.2.2.2.1
theorem dK_s_145 : dk_P cX6_longest [(0, (.iload_n 1, 1)), (1, (.ifCond .lt 8, 3)), (4, (.iload_n 1, 1)), (5, (.iconst 4, 1)), (6, (.if_icmp .lt 7, 3)), (9, (.iconst 0, 1)), (10, (.goto 9, 3)), (13, (.aload_n 0, 1))] := dk_of 0 (by decide +kernel)
theorem dX6_longest_0 : decode cX6_longest 0 = .ok (.iload_n 1, 1) := dK_s_145.1
theorem dX6_longest_1 : decode cX6_longest 1 = .ok (.ifCond .lt 8, 3) := dK_s_145.2.1
theorem dX6_longest_4 : decode cX6_longest 4 = .ok (.iload_n 1, 1) := dK_s_145.2.2.1
theorem dX6_longest_5 : decode cX6_longest 5 = .ok (.iconst 4, 1) := dK_s_145.2.2.2.1
theorem dX6_longest_6 : decode cX6_longest 6 = .ok (.if_icmp .lt 7, 3) := dK_s_145.2.2.2.2.1
theorem dX6_longest_9 : decode cX6_longest 9 = .ok (.iconst 0, 1) := dK_s_145.2.2.2.2.2.1
theorem dX6_longest_10 : decode cX6_longest 10 = .ok (.goto 9, 3) := dK_s_145.2.2.2.2.2.2.1
theorem dX6_longest_13 : decode cX6_longest 13 = .ok (.aload_n 0, 1) := dK_s_145.2.2.2.2.2.2.2.1
theorem dK_s_146 : dk_P cX6_longest [(14, (.getfield 9, 3)), (17, (.iload_n 1, 1)), (18, (.iaload, 1)), (19, (.ireturn, 1))] := dk_of 14 (by decide +kernel)
theorem dX6_longest_14 : decode cX6_longest 14 = .ok (.getfield 9, 3) := dK_s_146.1
theorem dX6_longest_17 : decode cX6_longest 17 = .ok (.iload_n 1, 1) := dK_s_146.2.1
theorem dX6_longest_18 : decode cX6_longest 18 = .ok (.iaload, 1) := dK_s_146.2.2.1
theorem dX6_longest_19 : decode cX6_longest 19 = .ok (.ireturn, 1) := dK_s_146.2.2.2.1
theorem dK_s_147 : dk_P cX6_secondLongest [(0, (.iload_n 1, 1)), (1, (.ifCond .lt 8, 3)), (4, (.iload_n 1, 1)), (5, (.iconst 4, 1)), (6, (.if_icmp .lt 7, 3)), (9, (.iconst 0, 1)), (10, (.goto 9, 3)), (13, (.aload_n 0, 1))] := dk_of 0 (by decide +kernel)
theorem dX6_secondLongest_0 : decode cX6_secondLongest 0 = .ok (.iload_n 1, 1) := dK_s_147.1
theorem dX6_secondLongest_1 : decode cX6_secondLongest 1 = .ok (.ifCond .lt 8, 3) := dK_s_147.2.1
theorem dX6_secondLongest_4 : decode cX6_secondLongest 4 = .ok (.iload_n 1, 1) := dK_s_147.2.2.1
theorem dX6_secondLongest_5 : decode cX6_secondLongest 5 = .ok (.iconst 4, 1) := dK_s_147.2.2.2.1
theorem dX6_secondLongest_6 : decode cX6_secondLongest 6 = .ok (.if_icmp .lt 7, 3) := dK_s_147.2.2.2.2.1
theorem dX6_secondLongest_9 : decode cX6_secondLongest 9 = .ok (.iconst 0, 1) := dK_s_147.2.2.2.2.2.1
theorem dX6_secondLongest_10 : decode cX6_secondLongest 10 = .ok (.goto 9, 3) := dK_s_147.2.2.2.2.2.2.1
theorem dX6_secondLongest_13 : decode cX6_secondLongest 13 = .ok (.aload_n 0, 1) := dK_s_147.2.2.2.2.2.2.2.1
theorem dK_s_148 : dk_P cX6_secondLongest [(14, (.getfield 15, 3)), (17, (.iload_n 1, 1)), (18, (.iaload, 1)), (19, (.ireturn, 1))] := dk_of 14 (by decide +kernel)
theorem dX6_secondLongest_14 : decode cX6_secondLongest 14 = .ok (.getfield 15, 3) := dK_s_148.1
theorem dX6_secondLongest_17 : decode cX6_secondLongest 17 = .ok (.iload_n 1, 1) := dK_s_148.2.1
theorem dX6_secondLongest_18 : decode cX6_secondLongest 18 = .ok (.iaload, 1) := dK_s_148.2.2.1
theorem dX6_secondLongest_19 : decode cX6_secondLongest 19 = .ok (.ireturn, 1) := dK_s_148.2.2.2.1
theorem dK_s_149 : dk_P cX6_ahead [(0, (.iload_n 1, 1)), (1, (.ifCond .lt 11, 3)), (4, (.iload_n 1, 1)), (5, (.aload_n 0, 1)), (6, (.getfield 27, 3)), (9, (.if_icmp .lt 8, 3)), (12, (.aload_n 0, 1)), (13, (.getfield 27, 3))] := dk_of 0 (by decide +kernel)
theorem dX6_ahead_0 : decode cX6_ahead 0 = .ok (.iload_n 1, 1) := dK_s_149.1
theorem dX6_ahead_1 : decode cX6_ahead 1 = .ok (.ifCond .lt 11, 3) := dK_s_149.2.1
theorem dX6_ahead_4 : decode cX6_ahead 4 = .ok (.iload_n 1, 1) := dK_s_149.2.2.1
theorem dX6_ahead_5 : decode cX6_ahead 5 = .ok (.aload_n 0, 1) := dK_s_149.2.2.2.1
theorem dX6_ahead_6 : decode cX6_ahead 6 = .ok (.getfield 27, 3) := dK_s_149.2.2.2.2.1
theorem dX6_ahead_9 : decode cX6_ahead 9 = .ok (.if_icmp .lt 8, 3) := dK_s_149.2.2.2.2.2.1
theorem dX6_ahead_12 : decode cX6_ahead 12 = .ok (.aload_n 0, 1) := dK_s_149.2.2.2.2.2.2.1
theorem dX6_ahead_13 : decode cX6_ahead 13 = .ok (.getfield 27, 3) := dK_s_149.2.2.2.2.2.2.2.1
theorem dK_s_150 : dk_P cX6_ahead [(16, (.ireturn, 1)), (17, (.aload_n 0, 1)), (18, (.getfield 9, 3)), (21, (.iload_n 1, 1)), (22, (.iaload, 1)), (23, (.iload_n 2, 1)), (24, (.invokestatic 24, 3)), (27, (.istore_n 3, 1))] := dk_of 16 (by decide +kernel)
theorem dX6_ahead_16 : decode cX6_ahead 16 = .ok (.ireturn, 1) := dK_s_150.1
theorem dX6_ahead_17 : decode cX6_ahead 17 = .ok (.aload_n 0, 1) := dK_s_150.2.1
theorem dX6_ahead_18 : decode cX6_ahead 18 = .ok (.getfield 9, 3) := dK_s_150.2.2.1
theorem dX6_ahead_21 : decode cX6_ahead 21 = .ok (.iload_n 1, 1) := dK_s_150.2.2.2.1
theorem dX6_ahead_22 : decode cX6_ahead 22 = .ok (.iaload, 1) := dK_s_150.2.2.2.2.1
theorem dX6_ahead_23 : decode cX6_ahead 23 = .ok (.iload_n 2, 1) := dK_s_150.2.2.2.2.2.1
theorem dX6_ahead_24 : decode cX6_ahead 24 = .ok (.invokestatic 24, 3) := dK_s_150.2.2.2.2.2.2.1
theorem dX6_ahead_27 : decode cX6_ahead 27 = .ok (.istore_n 3, 1) := dK_s_150.2.2.2.2.2.2.2.1
theorem dK_s_151 : dk_P cX6_ahead [(28, (.aload_n 0, 1)), (29, (.getfield 15, 3)), (32, (.iload_n 1, 1)), (33, (.iaload, 1)), (34, (.aload_n 0, 1)), (35, (.getfield 9, 3)), (38, (.iload_n 1, 1)), (39, (.iaload, 1))] := dk_of 28 (by decide +kernel)
theorem dX6_ahead_28 : decode cX6_ahead 28 = .ok (.aload_n 0, 1) := dK_s_151.1
theorem dX6_ahead_29 : decode cX6_ahead 29 = .ok (.getfield 15, 3) := dK_s_151.2.1
theorem dX6_ahead_32 : decode cX6_ahead 32 = .ok (.iload_n 1, 1) := dK_s_151.2.2.1
theorem dX6_ahead_33 : decode cX6_ahead 33 = .ok (.iaload, 1) := dK_s_151.2.2.2.1
theorem dX6_ahead_34 : decode cX6_ahead 34 = .ok (.aload_n 0, 1) := dK_s_151.2.2.2.2.1
theorem dX6_ahead_35 : decode cX6_ahead 35 = .ok (.getfield 9, 3) := dK_s_151.2.2.2.2.2.1
theorem dX6_ahead_38 : decode cX6_ahead 38 = .ok (.iload_n 1, 1) := dK_s_151.2.2.2.2.2.2.1
theorem dX6_ahead_39 : decode cX6_ahead 39 = .ok (.iaload, 1) := dK_s_151.2.2.2.2.2.2.2.1
theorem dK_s_152 : dk_P cX6_ahead [(40, (.iload_n 2, 1)), (41, (.invokestatic 18, 3)), (44, (.invokestatic 24, 3)), (47, (.istore 4, 2)), (49, (.iconst 0, 1)), (50, (.istore 5, 2)), (52, (.iconst 0, 1)), (53, (.istore 6, 2))] := dk_of 40 (by decide +kernel)
theorem dX6_ahead_40 : decode cX6_ahead 40 = .ok (.iload_n 2, 1) := dK_s_152.1
theorem dX6_ahead_41 : decode cX6_ahead 41 = .ok (.invokestatic 18, 3) := dK_s_152.2.1
theorem dX6_ahead_44 : decode cX6_ahead 44 = .ok (.invokestatic 24, 3) := dK_s_152.2.2.1
theorem dX6_ahead_47 : decode cX6_ahead 47 = .ok (.istore 4, 2) := dK_s_152.2.2.2.1
theorem dX6_ahead_49 : decode cX6_ahead 49 = .ok (.iconst 0, 1) := dK_s_152.2.2.2.2.1
theorem dX6_ahead_50 : decode cX6_ahead 50 = .ok (.istore 5, 2) := dK_s_152.2.2.2.2.2.1
theorem dX6_ahead_52 : decode cX6_ahead 52 = .ok (.iconst 0, 1) := dK_s_152.2.2.2.2.2.2.1
theorem dX6_ahead_53 : decode cX6_ahead 53 = .ok (.istore 6, 2) := dK_s_152.2.2.2.2.2.2.2.1
theorem dK_s_153 : dk_P cX6_ahead [(55, (.iload 6, 2)), (57, (.aload_n 0, 1)), (58, (.getfield 27, 3)), (61, (.if_icmp .ge 105, 3)), (64, (.aload_n 0, 1)), (65, (.getfield 9, 3)), (68, (.iload 6, 2)), (70, (.iaload, 1))] := dk_of 55 (by decide +kernel)
theorem dX6_ahead_55 : decode cX6_ahead 55 = .ok (.iload 6, 2) := dK_s_153.1
theorem dX6_ahead_57 : decode cX6_ahead 57 = .ok (.aload_n 0, 1) := dK_s_153.2.1
theorem dX6_ahead_58 : decode cX6_ahead 58 = .ok (.getfield 27, 3) := dK_s_153.2.2.1
theorem dX6_ahead_61 : decode cX6_ahead 61 = .ok (.if_icmp .ge 105, 3) := dK_s_153.2.2.2.1
theorem dX6_ahead_64 : decode cX6_ahead 64 = .ok (.aload_n 0, 1) := dK_s_153.2.2.2.2.1
theorem dX6_ahead_65 : decode cX6_ahead 65 = .ok (.getfield 9, 3) := dK_s_153.2.2.2.2.2.1
theorem dX6_ahead_68 : decode cX6_ahead 68 = .ok (.iload 6, 2) := dK_s_153.2.2.2.2.2.2.1
theorem dX6_ahead_70 : decode cX6_ahead 70 = .ok (.iaload, 1) := dK_s_153.2.2.2.2.2.2.2.1
theorem dK_s_154 : dk_P cX6_ahead [(71, (.iload_n 3, 1)), (72, (.if_icmp .eq 22, 3)), (75, (.aload_n 0, 1)), (76, (.getfield 9, 3)), (79, (.iload 6, 2)), (81, (.iaload, 1)), (82, (.iload_n 3, 1)), (83, (.if_icmp .le 7, 3))] := dk_of 71 (by decide +kernel)
theorem dX6_ahead_71 : decode cX6_ahead 71 = .ok (.iload_n 3, 1) := dK_s_154.1
theorem dX6_ahead_72 : decode cX6_ahead 72 = .ok (.if_icmp .eq 22, 3) := dK_s_154.2.1
theorem dX6_ahead_75 : decode cX6_ahead 75 = .ok (.aload_n 0, 1) := dK_s_154.2.2.1
theorem dX6_ahead_76 : decode cX6_ahead 76 = .ok (.getfield 9, 3) := dK_s_154.2.2.2.1
theorem dX6_ahead_79 : decode cX6_ahead 79 = .ok (.iload 6, 2) := dK_s_154.2.2.2.2.1
theorem dX6_ahead_81 : decode cX6_ahead 81 = .ok (.iaload, 1) := dK_s_154.2.2.2.2.2.1
theorem dX6_ahead_82 : decode cX6_ahead 82 = .ok (.iload_n 3, 1) := dK_s_154.2.2.2.2.2.2.1
theorem dX6_ahead_83 : decode cX6_ahead 83 = .ok (.if_icmp .le 7, 3) := dK_s_154.2.2.2.2.2.2.2.1
theorem dK_s_155 : dk_P cX6_ahead [(86, (.iconst 1, 1)), (87, (.goto 50, 3)), (90, (.iconst 0, 1)), (91, (.goto 46, 3)), (94, (.aload_n 0, 1)), (95, (.getfield 15, 3)), (98, (.iload 6, 2)), (100, (.iaload, 1))] := dk_of 86 (by decide +kernel)
theorem dX6_ahead_86 : decode cX6_ahead 86 = .ok (.iconst 1, 1) := dK_s_155.1
theorem dX6_ahead_87 : decode cX6_ahead 87 = .ok (.goto 50, 3) := dK_s_155.2.1
theorem dX6_ahead_90 : decode cX6_ahead 90 = .ok (.iconst 0, 1) := dK_s_155.2.2.1
theorem dX6_ahead_91 : decode cX6_ahead 91 = .ok (.goto 46, 3) := dK_s_155.2.2.2.1
theorem dX6_ahead_94 : decode cX6_ahead 94 = .ok (.aload_n 0, 1) := dK_s_155.2.2.2.2.1
theorem dX6_ahead_95 : decode cX6_ahead 95 = .ok (.getfield 15, 3) := dK_s_155.2.2.2.2.2.1
theorem dX6_ahead_98 : decode cX6_ahead 98 = .ok (.iload 6, 2) := dK_s_155.2.2.2.2.2.2.1
theorem dX6_ahead_100 : decode cX6_ahead 100 = .ok (.iaload, 1) := dK_s_155.2.2.2.2.2.2.2.1
theorem dK_s_156 : dk_P cX6_ahead [(101, (.iload 4, 2)), (103, (.if_icmp .eq 23, 3)), (106, (.aload_n 0, 1)), (107, (.getfield 15, 3)), (110, (.iload 6, 2)), (112, (.iaload, 1)), (113, (.iload 4, 2)), (115, (.if_icmp .le 7, 3))] := dk_of 101 (by decide +kernel)
theorem dX6_ahead_101 : decode cX6_ahead 101 = .ok (.iload 4, 2) := dK_s_156.1
theorem dX6_ahead_103 : decode cX6_ahead 103 = .ok (.if_icmp .eq 23, 3) := dK_s_156.2.1
theorem dX6_ahead_106 : decode cX6_ahead 106 = .ok (.aload_n 0, 1) := dK_s_156.2.2.1
theorem dX6_ahead_107 : decode cX6_ahead 107 = .ok (.getfield 15, 3) := dK_s_156.2.2.2.1
theorem dX6_ahead_110 : decode cX6_ahead 110 = .ok (.iload 6, 2) := dK_s_156.2.2.2.2.1
theorem dX6_ahead_112 : decode cX6_ahead 112 = .ok (.iaload, 1) := dK_s_156.2.2.2.2.2.1
theorem dX6_ahead_113 : decode cX6_ahead 113 = .ok (.iload 4, 2) := dK_s_156.2.2.2.2.2.2.1
theorem dX6_ahead_115 : decode cX6_ahead 115 = .ok (.if_icmp .le 7, 3) := dK_s_156.2.2.2.2.2.2.2.1
theorem dK_s_157 : dk_P cX6_ahead [(118, (.iconst 1, 1)), (119, (.goto 18, 3)), (122, (.iconst 0, 1)), (123, (.goto 14, 3)), (126, (.iload 6, 2)), (128, (.iload_n 1, 1)), (129, (.if_icmp .ge 7, 3)), (132, (.iconst 1, 1))] := dk_of 118 (by decide +kernel)
theorem dX6_ahead_118 : decode cX6_ahead 118 = .ok (.iconst 1, 1) := dK_s_157.1
theorem dX6_ahead_119 : decode cX6_ahead 119 = .ok (.goto 18, 3) := dK_s_157.2.1
theorem dX6_ahead_122 : decode cX6_ahead 122 = .ok (.iconst 0, 1) := dK_s_157.2.2.1
theorem dX6_ahead_123 : decode cX6_ahead 123 = .ok (.goto 14, 3) := dK_s_157.2.2.2.1
theorem dX6_ahead_126 : decode cX6_ahead 126 = .ok (.iload 6, 2) := dK_s_157.2.2.2.2.1
theorem dX6_ahead_128 : decode cX6_ahead 128 = .ok (.iload_n 1, 1) := dK_s_157.2.2.2.2.2.1
theorem dX6_ahead_129 : decode cX6_ahead 129 = .ok (.if_icmp .ge 7, 3) := dK_s_157.2.2.2.2.2.2.1
theorem dX6_ahead_132 : decode cX6_ahead 132 = .ok (.iconst 1, 1) := dK_s_157.2.2.2.2.2.2.2.1
theorem dK_s_158 : dk_P cX6_ahead [(133, (.goto 4, 3)), (136, (.iconst 0, 1)), (137, (.istore 7, 2)), (139, (.iload 5, 2)), (141, (.iload 6, 2)), (143, (.iload_n 1, 1)), (144, (.if_icmp .eq 12, 3)), (147, (.iload 7, 2))] := dk_of 133 (by decide +kernel)
theorem dX6_ahead_133 : decode cX6_ahead 133 = .ok (.goto 4, 3) := dK_s_158.1
theorem dX6_ahead_136 : decode cX6_ahead 136 = .ok (.iconst 0, 1) := dK_s_158.2.1
theorem dX6_ahead_137 : decode cX6_ahead 137 = .ok (.istore 7, 2) := dK_s_158.2.2.1
theorem dX6_ahead_139 : decode cX6_ahead 139 = .ok (.iload 5, 2) := dK_s_158.2.2.2.1
theorem dX6_ahead_141 : decode cX6_ahead 141 = .ok (.iload 6, 2) := dK_s_158.2.2.2.2.1
theorem dX6_ahead_143 : decode cX6_ahead 143 = .ok (.iload_n 1, 1) := dK_s_158.2.2.2.2.2.1
theorem dX6_ahead_144 : decode cX6_ahead 144 = .ok (.if_icmp .eq 12, 3) := dK_s_158.2.2.2.2.2.2.1
theorem dX6_ahead_147 : decode cX6_ahead 147 = .ok (.iload 7, 2) := dK_s_158.2.2.2.2.2.2.2.1
theorem dK_s_159 : dk_P cX6_ahead [(149, (.ifCond .eq 7, 3)), (152, (.iconst 1, 1)), (153, (.goto 4, 3)), (156, (.iconst 0, 1)), (157, (.iadd, 1)), (158, (.istore 5, 2)), (160, (.iinc 6 1, 3)), (163, (.goto (-108), 3))] := dk_of 149 (by decide +kernel)
theorem dX6_ahead_149 : decode cX6_ahead 149 = .ok (.ifCond .eq 7, 3) := dK_s_159.1
theorem dX6_ahead_152 : decode cX6_ahead 152 = .ok (.iconst 1, 1) := dK_s_159.2.1
theorem dX6_ahead_153 : decode cX6_ahead 153 = .ok (.goto 4, 3) := dK_s_159.2.2.1
theorem dX6_ahead_156 : decode cX6_ahead 156 = .ok (.iconst 0, 1) := dK_s_159.2.2.2.1
theorem dX6_ahead_157 : decode cX6_ahead 157 = .ok (.iadd, 1) := dK_s_159.2.2.2.2.1
theorem dX6_ahead_158 : decode cX6_ahead 158 = .ok (.istore 5, 2) := dK_s_159.2.2.2.2.2.1
theorem dX6_ahead_160 : decode cX6_ahead 160 = .ok (.iinc 6 1, 3) := dK_s_159.2.2.2.2.2.2.1
theorem dX6_ahead_163 : decode cX6_ahead 163 = .ok (.goto (-108), 3) := dK_s_159.2.2.2.2.2.2.2.1
theorem dK_s_160 : dk_P cX6_ahead [(166, (.iload 5, 2)), (168, (.ireturn, 1))] := dk_of 166 (by decide +kernel)
theorem dX6_ahead_166 : decode cX6_ahead 166 = .ok (.iload 5, 2) := dK_s_160.1
theorem dX6_ahead_168 : decode cX6_ahead 168 = .ok (.ireturn, 1) := dK_s_160.2.1
theorem dK_s_161 : dk_P cX6_at [(0, (.iconst 0, 1)), (1, (.istore_n 2, 1)), (2, (.iload_n 2, 1)), (3, (.aload_n 0, 1)), (4, (.getfield 27, 3)), (7, (.if_icmp .ge 21, 3)), (10, (.aload_n 0, 1)), (11, (.iload_n 2, 1))] := dk_of 0 (by decide +kernel)
theorem dX6_at_0 : decode cX6_at 0 = .ok (.iconst 0, 1) := dK_s_161.1
theorem dX6_at_1 : decode cX6_at 1 = .ok (.istore_n 2, 1) := dK_s_161.2.1
theorem dX6_at_2 : decode cX6_at 2 = .ok (.iload_n 2, 1) := dK_s_161.2.2.1
theorem dX6_at_3 : decode cX6_at 3 = .ok (.aload_n 0, 1) := dK_s_161.2.2.2.1
theorem dX6_at_4 : decode cX6_at 4 = .ok (.getfield 27, 3) := dK_s_161.2.2.2.2.1
theorem dX6_at_7 : decode cX6_at 7 = .ok (.if_icmp .ge 21, 3) := dK_s_161.2.2.2.2.2.1
theorem dX6_at_10 : decode cX6_at 10 = .ok (.aload_n 0, 1) := dK_s_161.2.2.2.2.2.2.1
theorem dX6_at_11 : decode cX6_at 11 = .ok (.iload_n 2, 1) := dK_s_161.2.2.2.2.2.2.2.1
theorem dK_s_162 : dk_P cX6_at [(12, (.iconst 0, 1)), (13, (.invokevirtual 37, 3)), (16, (.iload_n 1, 1)), (17, (.if_icmp .ne 5, 3)), (20, (.iload_n 2, 1)), (21, (.ireturn, 1)), (22, (.iinc 2 1, 3)), (25, (.goto (-23), 3))] := dk_of 12 (by decide +kernel)
theorem dX6_at_12 : decode cX6_at 12 = .ok (.iconst 0, 1) := dK_s_162.1
theorem dX6_at_13 : decode cX6_at 13 = .ok (.invokevirtual 37, 3) := dK_s_162.2.1
theorem dX6_at_16 : decode cX6_at 16 = .ok (.iload_n 1, 1) := dK_s_162.2.2.1
theorem dX6_at_17 : decode cX6_at 17 = .ok (.if_icmp .ne 5, 3) := dK_s_162.2.2.2.1
theorem dX6_at_20 : decode cX6_at 20 = .ok (.iload_n 2, 1) := dK_s_162.2.2.2.2.1
theorem dX6_at_21 : decode cX6_at 21 = .ok (.ireturn, 1) := dK_s_162.2.2.2.2.2.1
theorem dX6_at_22 : decode cX6_at 22 = .ok (.iinc 2 1, 3) := dK_s_162.2.2.2.2.2.2.1
theorem dX6_at_25 : decode cX6_at 25 = .ok (.goto (-23), 3) := dK_s_162.2.2.2.2.2.2.2.1
theorem dK_s_163 : dk_P cX6_at [(28, (.iconst 0, 1)), (29, (.ireturn, 1))] := dk_of 28 (by decide +kernel)
theorem dX6_at_28 : decode cX6_at 28 = .ok (.iconst 0, 1) := dK_s_163.1
theorem dX6_at_29 : decode cX6_at 29 = .ok (.ireturn, 1) := dK_s_163.2.1
theorem dK_s_164 : dk_P cX7_init [(0, (.aload_n 0, 1)), (1, (.invokespecial 1, 3)), (4, (.return_, 1))] := dk_of 0 (by decide +kernel)
theorem dX7_init_0 : decode cX7_init 0 = .ok (.aload_n 0, 1) := dK_s_164.1
theorem dX7_init_1 : decode cX7_init 1 = .ok (.invokespecial 1, 3) := dK_s_164.2.1
theorem dX7_init_4 : decode cX7_init 4 = .ok (.return_, 1) := dK_s_164.2.2.1
theorem dK_s_165 : dk_P cX7_aimOf [(0, (.aload_n 1, 1)), (1, (.getfield 7, 3)), (4, (.iconst 2, 1)), (5, (.iadd, 1)), (6, (.ireturn, 1))] := dk_of 0 (by decide +kernel)
theorem dX7_aimOf_0 : decode cX7_aimOf 0 = .ok (.aload_n 1, 1) := dK_s_165.1
theorem dX7_aimOf_1 : decode cX7_aimOf 1 = .ok (.getfield 7, 3) := dK_s_165.2.1
theorem dX7_aimOf_4 : decode cX7_aimOf 4 = .ok (.iconst 2, 1) := dK_s_165.2.2.1
theorem dX7_aimOf_5 : decode cX7_aimOf 5 = .ok (.iadd, 1) := dK_s_165.2.2.2.1
theorem dX7_aimOf_6 : decode cX7_aimOf 6 = .ok (.ireturn, 1) := dK_s_165.2.2.2.2.1
theorem dK_s_166 : dk_P cX7_lengthOf [(0, (.aload_n 0, 1)), (1, (.aload_n 1, 1)), (2, (.iload_n 2, 1)), (3, (.iload_n 3, 1)), (4, (.iload 4, 2)), (6, (.invokespecial 13, 3)), (9, (.iconst 3, 1)), (10, (.isub, 1))] := dk_of 0 (by decide +kernel)
theorem dX7_lengthOf_0 : decode cX7_lengthOf 0 = .ok (.aload_n 0, 1) := dK_s_166.1
theorem dX7_lengthOf_1 : decode cX7_lengthOf 1 = .ok (.aload_n 1, 1) := dK_s_166.2.1
theorem dX7_lengthOf_2 : decode cX7_lengthOf 2 = .ok (.iload_n 2, 1) := dK_s_166.2.2.1
theorem dX7_lengthOf_3 : decode cX7_lengthOf 3 = .ok (.iload_n 3, 1) := dK_s_166.2.2.2.1
theorem dX7_lengthOf_4 : decode cX7_lengthOf 4 = .ok (.iload 4, 2) := dK_s_166.2.2.2.2.1
theorem dX7_lengthOf_6 : decode cX7_lengthOf 6 = .ok (.invokespecial 13, 3) := dK_s_166.2.2.2.2.2.1
theorem dX7_lengthOf_9 : decode cX7_lengthOf 9 = .ok (.iconst 3, 1) := dK_s_166.2.2.2.2.2.2.1
theorem dX7_lengthOf_10 : decode cX7_lengthOf 10 = .ok (.isub, 1) := dK_s_166.2.2.2.2.2.2.2.1
theorem dK_s_167 : dk_P cX7_lengthOf [(11, (.istore 5, 2)), (13, (.iload 5, 2)), (15, (.ifCond .ge 7, 3)), (18, (.iconst 0, 1)), (19, (.goto 5, 3)), (22, (.iload 5, 2)), (24, (.ireturn, 1))] := dk_of 11 (by decide +kernel)
theorem dX7_lengthOf_11 : decode cX7_lengthOf 11 = .ok (.istore 5, 2) := dK_s_167.1
theorem dX7_lengthOf_13 : decode cX7_lengthOf 13 = .ok (.iload 5, 2) := dK_s_167.2.1
theorem dX7_lengthOf_15 : decode cX7_lengthOf 15 = .ok (.ifCond .ge 7, 3) := dK_s_167.2.2.1
theorem dX7_lengthOf_18 : decode cX7_lengthOf 18 = .ok (.iconst 0, 1) := dK_s_167.2.2.2.1
theorem dX7_lengthOf_19 : decode cX7_lengthOf 19 = .ok (.goto 5, 3) := dK_s_167.2.2.2.2.1
theorem dX7_lengthOf_22 : decode cX7_lengthOf 22 = .ok (.iload 5, 2) := dK_s_167.2.2.2.2.2.1
theorem dX7_lengthOf_24 : decode cX7_lengthOf 24 = .ok (.ireturn, 1) := dK_s_167.2.2.2.2.2.2.1
theorem dK_s_168 : dk_P cX8_init [(0, (.aload_n 0, 1)), (1, (.invokespecial 1, 3)), (4, (.return_, 1))] := dk_of 0 (by decide +kernel)
theorem dX8_init_0 : decode cX8_init 0 = .ok (.aload_n 0, 1) := dK_s_168.1
theorem dX8_init_1 : decode cX8_init 1 = .ok (.invokespecial 1, 3) := dK_s_168.2.1
theorem dX8_init_4 : decode cX8_init 4 = .ok (.return_, 1) := dK_s_168.2.2.1
theorem dK_s_169 : dk_P cX8_aimOf [(0, (.aload_n 0, 1)), (1, (.aload_n 1, 1)), (2, (.invokespecial 7, 3)), (5, (.iconst 1, 1)), (6, (.iadd, 1)), (7, (.ireturn, 1))] := dk_of 0 (by decide +kernel)
theorem dX8_aimOf_0 : decode cX8_aimOf 0 = .ok (.aload_n 0, 1) := dK_s_169.1
theorem dX8_aimOf_1 : decode cX8_aimOf 1 = .ok (.aload_n 1, 1) := dK_s_169.2.1
theorem dX8_aimOf_2 : decode cX8_aimOf 2 = .ok (.invokespecial 7, 3) := dK_s_169.2.2.1
theorem dX8_aimOf_5 : decode cX8_aimOf 5 = .ok (.iconst 1, 1) := dK_s_169.2.2.2.1
theorem dX8_aimOf_6 : decode cX8_aimOf 6 = .ok (.iadd, 1) := dK_s_169.2.2.2.2.1
theorem dX8_aimOf_7 : decode cX8_aimOf 7 = .ok (.ireturn, 1) := dK_s_169.2.2.2.2.2.1
theorem dK_s_170 : dk_P cX8_strideOf [(0, (.aload_n 0, 1)), (1, (.aload_n 1, 1)), (2, (.iload_n 2, 1)), (3, (.iload_n 3, 1)), (4, (.invokespecial 11, 3)), (7, (.iload_n 3, 1)), (8, (.iload_n 2, 1)), (9, (.imul, 1))] := dk_of 0 (by decide +kernel)
theorem dX8_strideOf_0 : decode cX8_strideOf 0 = .ok (.aload_n 0, 1) := dK_s_170.1
theorem dX8_strideOf_1 : decode cX8_strideOf 1 = .ok (.aload_n 1, 1) := dK_s_170.2.1
theorem dX8_strideOf_2 : decode cX8_strideOf 2 = .ok (.iload_n 2, 1) := dK_s_170.2.2.1
theorem dX8_strideOf_3 : decode cX8_strideOf 3 = .ok (.iload_n 3, 1) := dK_s_170.2.2.2.1
theorem dX8_strideOf_4 : decode cX8_strideOf 4 = .ok (.invokespecial 11, 3) := dK_s_170.2.2.2.2.1
theorem dX8_strideOf_7 : decode cX8_strideOf 7 = .ok (.iload_n 3, 1) := dK_s_170.2.2.2.2.2.1
theorem dX8_strideOf_8 : decode cX8_strideOf 8 = .ok (.iload_n 2, 1) := dK_s_170.2.2.2.2.2.2.1
theorem dX8_strideOf_9 : decode cX8_strideOf 9 = .ok (.imul, 1) := dK_s_170.2.2.2.2.2.2.2.1
theorem dK_s_171 : dk_P cX8_strideOf [(10, (.bipush 10, 2)), (12, (.idiv, 1)), (13, (.isub, 1)), (14, (.ireturn, 1))] := dk_of 10 (by decide +kernel)
theorem dX8_strideOf_10 : decode cX8_strideOf 10 = .ok (.bipush 10, 2) := dK_s_171.1
theorem dX8_strideOf_12 : decode cX8_strideOf 12 = .ok (.idiv, 1) := dK_s_171.2.1
theorem dX8_strideOf_13 : decode cX8_strideOf 13 = .ok (.isub, 1) := dK_s_171.2.2.1
theorem dX8_strideOf_14 : decode cX8_strideOf 14 = .ok (.ireturn, 1) := dK_s_171.2.2.2.1
theorem dK_s_172 : dk_P cX8_lengthOf [(0, (.aload_n 0, 1)), (1, (.aload_n 1, 1)), (2, (.iload_n 2, 1)), (3, (.iload_n 3, 1)), (4, (.iload 4, 2)), (6, (.invokespecial 15, 3)), (9, (.iconst 1, 1)), (10, (.iadd, 1))] := dk_of 0 (by decide +kernel)
theorem dX8_lengthOf_0 : decode cX8_lengthOf 0 = .ok (.aload_n 0, 1) := dK_s_172.1
theorem dX8_lengthOf_1 : decode cX8_lengthOf 1 = .ok (.aload_n 1, 1) := dK_s_172.2.1
theorem dX8_lengthOf_2 : decode cX8_lengthOf 2 = .ok (.iload_n 2, 1) := dK_s_172.2.2.1
theorem dX8_lengthOf_3 : decode cX8_lengthOf 3 = .ok (.iload_n 3, 1) := dK_s_172.2.2.2.1
theorem dX8_lengthOf_4 : decode cX8_lengthOf 4 = .ok (.iload 4, 2) := dK_s_172.2.2.2.2.1
theorem dX8_lengthOf_6 : decode cX8_lengthOf 6 = .ok (.invokespecial 15, 3) := dK_s_172.2.2.2.2.2.1
theorem dX8_lengthOf_9 : decode cX8_lengthOf 9 = .ok (.iconst 1, 1) := dK_s_172.2.2.2.2.2.2.1
theorem dX8_lengthOf_10 : decode cX8_lengthOf 10 = .ok (.iadd, 1) := dK_s_172.2.2.2.2.2.2.2.1
theorem dK_s_173 : dk_P cX8_lengthOf [(11, (.ireturn, 1))] := dk_of 11 (by decide +kernel)
theorem dX8_lengthOf_11 : decode cX8_lengthOf 11 = .ok (.ireturn, 1) := dK_s_173.1
theorem dK_s_174 : dk_P cX9_init [(0, (.aload_n 0, 1)), (1, (.invokespecial 1, 3)), (4, (.return_, 1))] := dk_of 0 (by decide +kernel)
theorem dX9_init_0 : decode cX9_init 0 = .ok (.aload_n 0, 1) := dK_s_174.1
theorem dX9_init_1 : decode cX9_init 1 = .ok (.invokespecial 1, 3) := dK_s_174.2.1
theorem dX9_init_4 : decode cX9_init 4 = .ok (.return_, 1) := dK_s_174.2.2.1
theorem dK_s_175 : dk_P cX9_strideOf [(0, (.aload_n 0, 1)), (1, (.aload_n 1, 1)), (2, (.iload_n 2, 1)), (3, (.iload_n 3, 1)), (4, (.invokespecial 7, 3)), (7, (.iload_n 3, 1)), (8, (.iload_n 2, 1)), (9, (.imul, 1))] := dk_of 0 (by decide +kernel)
theorem dX9_strideOf_0 : decode cX9_strideOf 0 = .ok (.aload_n 0, 1) := dK_s_175.1
theorem dX9_strideOf_1 : decode cX9_strideOf 1 = .ok (.aload_n 1, 1) := dK_s_175.2.1
theorem dX9_strideOf_2 : decode cX9_strideOf 2 = .ok (.iload_n 2, 1) := dK_s_175.2.2.1
theorem dX9_strideOf_3 : decode cX9_strideOf 3 = .ok (.iload_n 3, 1) := dK_s_175.2.2.2.1
theorem dX9_strideOf_4 : decode cX9_strideOf 4 = .ok (.invokespecial 7, 3) := dK_s_175.2.2.2.2.1
theorem dX9_strideOf_7 : decode cX9_strideOf 7 = .ok (.iload_n 3, 1) := dK_s_175.2.2.2.2.2.1
theorem dX9_strideOf_8 : decode cX9_strideOf 8 = .ok (.iload_n 2, 1) := dK_s_175.2.2.2.2.2.2.1
theorem dX9_strideOf_9 : decode cX9_strideOf 9 = .ok (.imul, 1) := dK_s_175.2.2.2.2.2.2.2.1
theorem dK_s_176 : dk_P cX9_strideOf [(10, (.bipush 10, 2)), (12, (.idiv, 1)), (13, (.iadd, 1)), (14, (.ireturn, 1))] := dk_of 10 (by decide +kernel)
theorem dX9_strideOf_10 : decode cX9_strideOf 10 = .ok (.bipush 10, 2) := dK_s_176.1
theorem dX9_strideOf_12 : decode cX9_strideOf 12 = .ok (.idiv, 1) := dK_s_176.2.1
theorem dX9_strideOf_13 : decode cX9_strideOf 13 = .ok (.iadd, 1) := dK_s_176.2.2.1
theorem dX9_strideOf_14 : decode cX9_strideOf 14 = .ok (.ireturn, 1) := dK_s_176.2.2.2.1
theorem dK_s_177 : dk_P cX9_lengthOf [(0, (.aload_n 0, 1)), (1, (.aload_n 1, 1)), (2, (.iload_n 2, 1)), (3, (.iload_n 3, 1)), (4, (.iload 4, 2)), (6, (.invokespecial 11, 3)), (9, (.iload 4, 2)), (11, (.iadd, 1))] := dk_of 0 (by decide +kernel)
theorem dX9_lengthOf_0 : decode cX9_lengthOf 0 = .ok (.aload_n 0, 1) := dK_s_177.1
theorem dX9_lengthOf_1 : decode cX9_lengthOf 1 = .ok (.aload_n 1, 1) := dK_s_177.2.1
theorem dX9_lengthOf_2 : decode cX9_lengthOf 2 = .ok (.iload_n 2, 1) := dK_s_177.2.2.1
theorem dX9_lengthOf_3 : decode cX9_lengthOf 3 = .ok (.iload_n 3, 1) := dK_s_177.2.2.2.1
theorem dX9_lengthOf_4 : decode cX9_lengthOf 4 = .ok (.iload 4, 2) := dK_s_177.2.2.2.2.1
theorem dX9_lengthOf_6 : decode cX9_lengthOf 6 = .ok (.invokespecial 11, 3) := dK_s_177.2.2.2.2.2.1
theorem dX9_lengthOf_9 : decode cX9_lengthOf 9 = .ok (.iload 4, 2) := dK_s_177.2.2.2.2.2.2.1
theorem dX9_lengthOf_11 : decode cX9_lengthOf 11 = .ok (.iadd, 1) := dK_s_177.2.2.2.2.2.2.2.1
theorem dK_s_178 : dk_P cX9_lengthOf [(12, (.istore 5, 2)), (14, (.iload 5, 2)), (16, (.ifCond .ge 7, 3)), (19, (.iconst 0, 1)), (20, (.goto 5, 3)), (23, (.iload 5, 2)), (25, (.ireturn, 1))] := dk_of 12 (by decide +kernel)
theorem dX9_lengthOf_12 : decode cX9_lengthOf 12 = .ok (.istore 5, 2) := dK_s_178.1
theorem dX9_lengthOf_14 : decode cX9_lengthOf 14 = .ok (.iload 5, 2) := dK_s_178.2.1
theorem dX9_lengthOf_16 : decode cX9_lengthOf 16 = .ok (.ifCond .ge 7, 3) := dK_s_178.2.2.1
theorem dX9_lengthOf_19 : decode cX9_lengthOf 19 = .ok (.iconst 0, 1) := dK_s_178.2.2.2.1
theorem dX9_lengthOf_20 : decode cX9_lengthOf 20 = .ok (.goto 5, 3) := dK_s_178.2.2.2.2.1
theorem dX9_lengthOf_23 : decode cX9_lengthOf 23 = .ok (.iload 5, 2) := dK_s_178.2.2.2.2.2.1
theorem dX9_lengthOf_25 : decode cX9_lengthOf 25 = .ok (.ireturn, 1) := dK_s_178.2.2.2.2.2.2.1
