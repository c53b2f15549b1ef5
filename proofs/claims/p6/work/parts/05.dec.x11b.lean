theorem dK_d_0 : dk_P cX11_turnNow [(34, (.iconst 3, 1)), (35, (.aload_n 0, 1)), (36, (.getfield 105, 3)), (39, (.imul, 1)), (40, (.if_icmp .ge 13, 3)), (43, (.aload_n 0, 1)), (44, (.getfield 147, 3)), (47, (.aload_n 0, 1))] := dk_of 34 (by decide +kernel)
theorem dX11_turnNow_34 : decode cX11_turnNow 34 = .ok (.iconst 3, 1) := dK_d_0.1
theorem dX11_turnNow_35 : decode cX11_turnNow 35 = .ok (.aload_n 0, 1) := dK_d_0.2.1
theorem dX11_turnNow_36 : decode cX11_turnNow 36 = .ok (.getfield 105, 3) := dK_d_0.2.2.1
theorem dX11_turnNow_39 : decode cX11_turnNow 39 = .ok (.imul, 1) := dK_d_0.2.2.2.1
theorem dX11_turnNow_40 : decode cX11_turnNow 40 = .ok (.if_icmp .ge 13, 3) := dK_d_0.2.2.2.2.1
theorem dX11_turnNow_43 : decode cX11_turnNow 43 = .ok (.aload_n 0, 1) := dK_d_0.2.2.2.2.2.1
theorem dX11_turnNow_44 : decode cX11_turnNow 44 = .ok (.getfield 147, 3) := dK_d_0.2.2.2.2.2.2.1
theorem dX11_turnNow_47 : decode cX11_turnNow 47 = .ok (.aload_n 0, 1) := dK_d_0.2.2.2.2.2.2.2.1
theorem dK_d_1 : dk_P cX11_turnNow [(48, (.getfield 105, 3)), (51, (.irem, 1)), (52, (.ireturn, 1)), (53, (.aload_n 0, 1)), (54, (.iconst 0, 1)), (55, (.iconst 3, 1)), (56, (.aload_n 0, 1)), (57, (.getfield 105, 3))] := dk_of 48 (by decide +kernel)
theorem dX11_turnNow_48 : decode cX11_turnNow 48 = .ok (.getfield 105, 3) := dK_d_1.1
theorem dX11_turnNow_51 : decode cX11_turnNow 51 = .ok (.irem, 1) := dK_d_1.2.1
theorem dX11_turnNow_52 : decode cX11_turnNow 52 = .ok (.ireturn, 1) := dK_d_1.2.2.1
theorem dX11_turnNow_53 : decode cX11_turnNow 53 = .ok (.aload_n 0, 1) := dK_d_1.2.2.2.1
theorem dX11_turnNow_54 : decode cX11_turnNow 54 = .ok (.iconst 0, 1) := dK_d_1.2.2.2.2.1
theorem dX11_turnNow_55 : decode cX11_turnNow 55 = .ok (.iconst 3, 1) := dK_d_1.2.2.2.2.2.1
theorem dX11_turnNow_56 : decode cX11_turnNow 56 = .ok (.aload_n 0, 1) := dK_d_1.2.2.2.2.2.2.1
theorem dX11_turnNow_57 : decode cX11_turnNow 57 = .ok (.getfield 105, 3) := dK_d_1.2.2.2.2.2.2.2.1
theorem dK_d_2 : dk_P cX11_turnNow [(60, (.imul, 1)), (61, (.invokevirtual 213, 3)), (64, (.aload_n 0, 1)), (65, (.invokevirtual 268, 3)), (68, (.aload_n 0, 1)), (69, (.getfield 74, 3)), (72, (.aload_n 0, 1)), (73, (.invokevirtual 271, 3))] := dk_of 60 (by decide +kernel)
theorem dX11_turnNow_60 : decode cX11_turnNow 60 = .ok (.imul, 1) := dK_d_2.1
theorem dX11_turnNow_61 : decode cX11_turnNow 61 = .ok (.invokevirtual 213, 3) := dK_d_2.2.1
theorem dX11_turnNow_64 : decode cX11_turnNow 64 = .ok (.aload_n 0, 1) := dK_d_2.2.2.1
theorem dX11_turnNow_65 : decode cX11_turnNow 65 = .ok (.invokevirtual 268, 3) := dK_d_2.2.2.2.1
theorem dX11_turnNow_68 : decode cX11_turnNow 68 = .ok (.aload_n 0, 1) := dK_d_2.2.2.2.2.1
theorem dX11_turnNow_69 : decode cX11_turnNow 69 = .ok (.getfield 74, 3) := dK_d_2.2.2.2.2.2.1
theorem dX11_turnNow_72 : decode cX11_turnNow 72 = .ok (.aload_n 0, 1) := dK_d_2.2.2.2.2.2.2.1
theorem dX11_turnNow_73 : decode cX11_turnNow 73 = .ok (.invokevirtual 271, 3) := dK_d_2.2.2.2.2.2.2.2.1
theorem dK_d_3 : dk_P cX11_turnNow [(76, (.iconst 1, 1)), (77, (.isub, 1)), (78, (.aload_n 0, 1)), (79, (.getfield 147, 3)), (82, (.iconst 3, 1)), (83, (.aload_n 0, 1)), (84, (.getfield 105, 3)), (87, (.imul, 1))] := dk_of 76 (by decide +kernel)
theorem dX11_turnNow_76 : decode cX11_turnNow 76 = .ok (.iconst 1, 1) := dK_d_3.1
theorem dX11_turnNow_77 : decode cX11_turnNow 77 = .ok (.isub, 1) := dK_d_3.2.1
theorem dX11_turnNow_78 : decode cX11_turnNow 78 = .ok (.aload_n 0, 1) := dK_d_3.2.2.1
theorem dX11_turnNow_79 : decode cX11_turnNow 79 = .ok (.getfield 147, 3) := dK_d_3.2.2.2.1
theorem dX11_turnNow_82 : decode cX11_turnNow 82 = .ok (.iconst 3, 1) := dK_d_3.2.2.2.2.1
theorem dX11_turnNow_83 : decode cX11_turnNow 83 = .ok (.aload_n 0, 1) := dK_d_3.2.2.2.2.2.1
theorem dX11_turnNow_84 : decode cX11_turnNow 84 = .ok (.getfield 105, 3) := dK_d_3.2.2.2.2.2.2.1
theorem dX11_turnNow_87 : decode cX11_turnNow 87 = .ok (.imul, 1) := dK_d_3.2.2.2.2.2.2.2.1
theorem dK_d_4 : dk_P cX11_turnNow [(88, (.isub, 1)), (89, (.aload_n 0, 1)), (90, (.invokevirtual 271, 3)), (93, (.irem, 1)), (94, (.isub, 1)), (95, (.iaload, 1)), (96, (.ireturn, 1))] := dk_of 88 (by decide +kernel)
theorem dX11_turnNow_88 : decode cX11_turnNow 88 = .ok (.isub, 1) := dK_d_4.1
theorem dX11_turnNow_89 : decode cX11_turnNow 89 = .ok (.aload_n 0, 1) := dK_d_4.2.1
theorem dX11_turnNow_90 : decode cX11_turnNow 90 = .ok (.invokevirtual 271, 3) := dK_d_4.2.2.1
theorem dX11_turnNow_93 : decode cX11_turnNow 93 = .ok (.irem, 1) := dK_d_4.2.2.2.1
theorem dX11_turnNow_94 : decode cX11_turnNow 94 = .ok (.isub, 1) := dK_d_4.2.2.2.2.1
theorem dX11_turnNow_95 : decode cX11_turnNow 95 = .ok (.iaload, 1) := dK_d_4.2.2.2.2.2.1
theorem dX11_turnNow_96 : decode cX11_turnNow 96 = .ok (.ireturn, 1) := dK_d_4.2.2.2.2.2.2.1
theorem dK_d_5 : dk_P cX11_roundNow [(0, (.aload_n 0, 1)), (1, (.invokevirtual 150, 3)), (4, (.ifCond .ge 6, 3)), (7, (.bipush 6, 2)), (9, (.ireturn, 1)), (10, (.aload_n 0, 1)), (11, (.getfield 147, 3)), (14, (.iconst 3, 1))] := dk_of 0 (by decide +kernel)
theorem dX11_roundNow_0 : decode cX11_roundNow 0 = .ok (.aload_n 0, 1) := dK_d_5.1
theorem dX11_roundNow_1 : decode cX11_roundNow 1 = .ok (.invokevirtual 150, 3) := dK_d_5.2.1
theorem dX11_roundNow_4 : decode cX11_roundNow 4 = .ok (.ifCond .ge 6, 3) := dK_d_5.2.2.1
theorem dX11_roundNow_7 : decode cX11_roundNow 7 = .ok (.bipush 6, 2) := dK_d_5.2.2.2.1
theorem dX11_roundNow_9 : decode cX11_roundNow 9 = .ok (.ireturn, 1) := dK_d_5.2.2.2.2.1
theorem dX11_roundNow_10 : decode cX11_roundNow 10 = .ok (.aload_n 0, 1) := dK_d_5.2.2.2.2.2.1
theorem dX11_roundNow_11 : decode cX11_roundNow 11 = .ok (.getfield 147, 3) := dK_d_5.2.2.2.2.2.2.1
theorem dX11_roundNow_14 : decode cX11_roundNow 14 = .ok (.iconst 3, 1) := dK_d_5.2.2.2.2.2.2.2.1
theorem dK_d_6 : dk_P cX11_roundNow [(15, (.aload_n 0, 1)), (16, (.getfield 105, 3)), (19, (.imul, 1)), (20, (.if_icmp .ge 15, 3)), (23, (.aload_n 0, 1)), (24, (.getfield 147, 3)), (27, (.aload_n 0, 1)), (28, (.getfield 105, 3))] := dk_of 15 (by decide +kernel)
theorem dX11_roundNow_15 : decode cX11_roundNow 15 = .ok (.aload_n 0, 1) := dK_d_6.1
theorem dX11_roundNow_16 : decode cX11_roundNow 16 = .ok (.getfield 105, 3) := dK_d_6.2.1
theorem dX11_roundNow_19 : decode cX11_roundNow 19 = .ok (.imul, 1) := dK_d_6.2.2.1
theorem dX11_roundNow_20 : decode cX11_roundNow 20 = .ok (.if_icmp .ge 15, 3) := dK_d_6.2.2.2.1
theorem dX11_roundNow_23 : decode cX11_roundNow 23 = .ok (.aload_n 0, 1) := dK_d_6.2.2.2.2.1
theorem dX11_roundNow_24 : decode cX11_roundNow 24 = .ok (.getfield 147, 3) := dK_d_6.2.2.2.2.2.1
theorem dX11_roundNow_27 : decode cX11_roundNow 27 = .ok (.aload_n 0, 1) := dK_d_6.2.2.2.2.2.2.1
theorem dX11_roundNow_28 : decode cX11_roundNow 28 = .ok (.getfield 105, 3) := dK_d_6.2.2.2.2.2.2.2.1
theorem dK_d_7 : dk_P cX11_roundNow [(31, (.idiv, 1)), (32, (.goto 21, 3)), (35, (.iconst 3, 1)), (36, (.aload_n 0, 1)), (37, (.getfield 147, 3)), (40, (.iconst 3, 1)), (41, (.aload_n 0, 1)), (42, (.getfield 105, 3))] := dk_of 31 (by decide +kernel)
theorem dX11_roundNow_31 : decode cX11_roundNow 31 = .ok (.idiv, 1) := dK_d_7.1
theorem dX11_roundNow_32 : decode cX11_roundNow 32 = .ok (.goto 21, 3) := dK_d_7.2.1
theorem dX11_roundNow_35 : decode cX11_roundNow 35 = .ok (.iconst 3, 1) := dK_d_7.2.2.1
theorem dX11_roundNow_36 : decode cX11_roundNow 36 = .ok (.aload_n 0, 1) := dK_d_7.2.2.2.1
theorem dX11_roundNow_37 : decode cX11_roundNow 37 = .ok (.getfield 147, 3) := dK_d_7.2.2.2.2.1
theorem dX11_roundNow_40 : decode cX11_roundNow 40 = .ok (.iconst 3, 1) := dK_d_7.2.2.2.2.2.1
theorem dX11_roundNow_41 : decode cX11_roundNow 41 = .ok (.aload_n 0, 1) := dK_d_7.2.2.2.2.2.2.1
theorem dX11_roundNow_42 : decode cX11_roundNow 42 = .ok (.getfield 105, 3) := dK_d_7.2.2.2.2.2.2.2.1
theorem dK_d_8 : dk_P cX11_roundNow [(45, (.imul, 1)), (46, (.isub, 1)), (47, (.aload_n 0, 1)), (48, (.invokevirtual 271, 3)), (51, (.idiv, 1)), (52, (.iadd, 1)), (53, (.ireturn, 1))] := dk_of 45 (by decide +kernel)
theorem dX11_roundNow_45 : decode cX11_roundNow 45 = .ok (.imul, 1) := dK_d_8.1
theorem dX11_roundNow_46 : decode cX11_roundNow 46 = .ok (.isub, 1) := dK_d_8.2.1
theorem dX11_roundNow_47 : decode cX11_roundNow 47 = .ok (.aload_n 0, 1) := dK_d_8.2.2.1
theorem dX11_roundNow_48 : decode cX11_roundNow 48 = .ok (.invokevirtual 271, 3) := dK_d_8.2.2.2.1
theorem dX11_roundNow_51 : decode cX11_roundNow 51 = .ok (.idiv, 1) := dK_d_8.2.2.2.2.1
theorem dX11_roundNow_52 : decode cX11_roundNow 52 = .ok (.iadd, 1) := dK_d_8.2.2.2.2.2.1
theorem dX11_roundNow_53 : decode cX11_roundNow 53 = .ok (.ireturn, 1) := dK_d_8.2.2.2.2.2.2.1
theorem dK_d_9 : dk_P cX11_putsTry [(0, (.aload_n 0, 1)), (1, (.getfield 37, 3)), (4, (.aload_n 0, 1)), (5, (.getfield 147, 3)), (8, (.iload_n 1, 1)), (9, (.iastore, 1)), (10, (.aload_n 0, 1)), (11, (.getfield 40, 3))] := dk_of 0 (by decide +kernel)
theorem dX11_putsTry_0 : decode cX11_putsTry 0 = .ok (.aload_n 0, 1) := dK_d_9.1
theorem dX11_putsTry_1 : decode cX11_putsTry 1 = .ok (.getfield 37, 3) := dK_d_9.2.1
theorem dX11_putsTry_4 : decode cX11_putsTry 4 = .ok (.aload_n 0, 1) := dK_d_9.2.2.1
theorem dX11_putsTry_5 : decode cX11_putsTry 5 = .ok (.getfield 147, 3) := dK_d_9.2.2.2.1
theorem dX11_putsTry_8 : decode cX11_putsTry 8 = .ok (.iload_n 1, 1) := dK_d_9.2.2.2.2.1
theorem dX11_putsTry_9 : decode cX11_putsTry 9 = .ok (.iastore, 1) := dK_d_9.2.2.2.2.2.1
theorem dX11_putsTry_10 : decode cX11_putsTry 10 = .ok (.aload_n 0, 1) := dK_d_9.2.2.2.2.2.2.1
theorem dX11_putsTry_11 : decode cX11_putsTry 11 = .ok (.getfield 40, 3) := dK_d_9.2.2.2.2.2.2.2.1
theorem dK_d_10 : dk_P cX11_putsTry [(14, (.aload_n 0, 1)), (15, (.getfield 147, 3)), (18, (.iload_n 2, 1)), (19, (.iastore, 1)), (20, (.aload_n 0, 1)), (21, (.getfield 43, 3)), (24, (.aload_n 0, 1)), (25, (.getfield 147, 3))] := dk_of 14 (by decide +kernel)
theorem dX11_putsTry_14 : decode cX11_putsTry 14 = .ok (.aload_n 0, 1) := dK_d_10.1
theorem dX11_putsTry_15 : decode cX11_putsTry 15 = .ok (.getfield 147, 3) := dK_d_10.2.1
theorem dX11_putsTry_18 : decode cX11_putsTry 18 = .ok (.iload_n 2, 1) := dK_d_10.2.2.1
theorem dX11_putsTry_19 : decode cX11_putsTry 19 = .ok (.iastore, 1) := dK_d_10.2.2.2.1
theorem dX11_putsTry_20 : decode cX11_putsTry 20 = .ok (.aload_n 0, 1) := dK_d_10.2.2.2.2.1
theorem dX11_putsTry_21 : decode cX11_putsTry 21 = .ok (.getfield 43, 3) := dK_d_10.2.2.2.2.2.1
theorem dX11_putsTry_24 : decode cX11_putsTry 24 = .ok (.aload_n 0, 1) := dK_d_10.2.2.2.2.2.2.1
theorem dX11_putsTry_25 : decode cX11_putsTry 25 = .ok (.getfield 147, 3) := dK_d_10.2.2.2.2.2.2.2.1
theorem dK_d_11 : dk_P cX11_putsTry [(28, (.iload_n 3, 1)), (29, (.iastore, 1)), (30, (.aload_n 0, 1)), (31, (.dup, 1)), (32, (.getfield 147, 3)), (35, (.iconst 1, 1)), (36, (.iadd, 1)), (37, (.putfield 147, 3))] := dk_of 28 (by decide +kernel)
theorem dX11_putsTry_28 : decode cX11_putsTry 28 = .ok (.iload_n 3, 1) := dK_d_11.1
theorem dX11_putsTry_29 : decode cX11_putsTry 29 = .ok (.iastore, 1) := dK_d_11.2.1
theorem dX11_putsTry_30 : decode cX11_putsTry 30 = .ok (.aload_n 0, 1) := dK_d_11.2.2.1
theorem dX11_putsTry_31 : decode cX11_putsTry 31 = .ok (.dup, 1) := dK_d_11.2.2.2.1
theorem dX11_putsTry_32 : decode cX11_putsTry 32 = .ok (.getfield 147, 3) := dK_d_11.2.2.2.2.1
theorem dX11_putsTry_35 : decode cX11_putsTry 35 = .ok (.iconst 1, 1) := dK_d_11.2.2.2.2.2.1
theorem dX11_putsTry_36 : decode cX11_putsTry 36 = .ok (.iadd, 1) := dK_d_11.2.2.2.2.2.2.1
theorem dX11_putsTry_37 : decode cX11_putsTry 37 = .ok (.putfield 147, 3) := dK_d_11.2.2.2.2.2.2.2.1
theorem dK_d_12 : dk_P cX11_putsTry [(40, (.return_, 1))] := dk_of 40 (by decide +kernel)
theorem dX11_putsTry_40 : decode cX11_putsTry 40 = .ok (.return_, 1) := dK_d_12.1
theorem dK_d_13 : dk_P cX11_triesOf [(0, (.iconst 0, 1)), (1, (.istore_n 2, 1)), (2, (.iconst 0, 1)), (3, (.istore_n 3, 1)), (4, (.iload_n 3, 1)), (5, (.aload_n 0, 1)), (6, (.getfield 147, 3)), (9, (.if_icmp .ge 27, 3))] := dk_of 0 (by decide +kernel)
theorem dX11_triesOf_0 : decode cX11_triesOf 0 = .ok (.iconst 0, 1) := dK_d_13.1
theorem dX11_triesOf_1 : decode cX11_triesOf 1 = .ok (.istore_n 2, 1) := dK_d_13.2.1
theorem dX11_triesOf_2 : decode cX11_triesOf 2 = .ok (.iconst 0, 1) := dK_d_13.2.2.1
theorem dX11_triesOf_3 : decode cX11_triesOf 3 = .ok (.istore_n 3, 1) := dK_d_13.2.2.2.1
theorem dX11_triesOf_4 : decode cX11_triesOf 4 = .ok (.iload_n 3, 1) := dK_d_13.2.2.2.2.1
theorem dX11_triesOf_5 : decode cX11_triesOf 5 = .ok (.aload_n 0, 1) := dK_d_13.2.2.2.2.2.1
theorem dX11_triesOf_6 : decode cX11_triesOf 6 = .ok (.getfield 147, 3) := dK_d_13.2.2.2.2.2.2.1
theorem dX11_triesOf_9 : decode cX11_triesOf 9 = .ok (.if_icmp .ge 27, 3) := dK_d_13.2.2.2.2.2.2.2.1
theorem dK_d_14 : dk_P cX11_triesOf [(12, (.iload_n 2, 1)), (13, (.aload_n 0, 1)), (14, (.getfield 37, 3)), (17, (.iload_n 3, 1)), (18, (.iaload, 1)), (19, (.iload_n 1, 1)), (20, (.if_icmp .ne 7, 3)), (23, (.iconst 1, 1))] := dk_of 12 (by decide +kernel)
theorem dX11_triesOf_12 : decode cX11_triesOf 12 = .ok (.iload_n 2, 1) := dK_d_14.1
theorem dX11_triesOf_13 : decode cX11_triesOf 13 = .ok (.aload_n 0, 1) := dK_d_14.2.1
theorem dX11_triesOf_14 : decode cX11_triesOf 14 = .ok (.getfield 37, 3) := dK_d_14.2.2.1
theorem dX11_triesOf_17 : decode cX11_triesOf 17 = .ok (.iload_n 3, 1) := dK_d_14.2.2.2.1
theorem dX11_triesOf_18 : decode cX11_triesOf 18 = .ok (.iaload, 1) := dK_d_14.2.2.2.2.1
theorem dX11_triesOf_19 : decode cX11_triesOf 19 = .ok (.iload_n 1, 1) := dK_d_14.2.2.2.2.2.1
theorem dX11_triesOf_20 : decode cX11_triesOf 20 = .ok (.if_icmp .ne 7, 3) := dK_d_14.2.2.2.2.2.2.1
theorem dX11_triesOf_23 : decode cX11_triesOf 23 = .ok (.iconst 1, 1) := dK_d_14.2.2.2.2.2.2.2.1
theorem dK_d_15 : dk_P cX11_triesOf [(24, (.goto 4, 3)), (27, (.iconst 0, 1)), (28, (.iadd, 1)), (29, (.istore_n 2, 1)), (30, (.iinc 3 1, 3)), (33, (.goto (-29), 3)), (36, (.iload_n 2, 1)), (37, (.ireturn, 1))] := dk_of 24 (by decide +kernel)
theorem dX11_triesOf_24 : decode cX11_triesOf 24 = .ok (.goto 4, 3) := dK_d_15.1
theorem dX11_triesOf_27 : decode cX11_triesOf 27 = .ok (.iconst 0, 1) := dK_d_15.2.1
theorem dX11_triesOf_28 : decode cX11_triesOf 28 = .ok (.iadd, 1) := dK_d_15.2.2.1
theorem dX11_triesOf_29 : decode cX11_triesOf 29 = .ok (.istore_n 2, 1) := dK_d_15.2.2.2.1
theorem dX11_triesOf_30 : decode cX11_triesOf 30 = .ok (.iinc 3 1, 3) := dK_d_15.2.2.2.2.1
theorem dX11_triesOf_33 : decode cX11_triesOf 33 = .ok (.goto (-29), 3) := dK_d_15.2.2.2.2.2.1
theorem dX11_triesOf_36 : decode cX11_triesOf 36 = .ok (.iload_n 2, 1) := dK_d_15.2.2.2.2.2.2.1
theorem dX11_triesOf_37 : decode cX11_triesOf 37 = .ok (.ireturn, 1) := dK_d_15.2.2.2.2.2.2.2.1
theorem dK_d_16 : dk_P cX11_turn [(0, (.aload_n 0, 1)), (1, (.invokevirtual 150, 3)), (4, (.ireturn, 1))] := dk_of 0 (by decide +kernel)
theorem dX11_turn_0 : decode cX11_turn 0 = .ok (.aload_n 0, 1) := dK_d_16.1
theorem dX11_turn_1 : decode cX11_turn 1 = .ok (.invokevirtual 150, 3) := dK_d_16.2.1
theorem dX11_turn_4 : decode cX11_turn 4 = .ok (.ireturn, 1) := dK_d_16.2.2.1
theorem dK_d_17 : dk_P cX11_jump [(0, (.aload_n 0, 1)), (1, (.iload_n 1, 1)), (2, (.invokevirtual 207, 3)), (5, (.ifCond .ne 7, 3)), (8, (.iconst (-1), 1)), (9, (.goto 24, 3)), (12, (.aload_n 0, 1)), (13, (.invokevirtual 150, 3))] := dk_of 0 (by decide +kernel)
theorem dX11_jump_0 : decode cX11_jump 0 = .ok (.aload_n 0, 1) := dK_d_17.1
theorem dX11_jump_1 : decode cX11_jump 1 = .ok (.iload_n 1, 1) := dK_d_17.2.1
theorem dX11_jump_2 : decode cX11_jump 2 = .ok (.invokevirtual 207, 3) := dK_d_17.2.2.1
theorem dX11_jump_5 : decode cX11_jump 5 = .ok (.ifCond .ne 7, 3) := dK_d_17.2.2.2.1
theorem dX11_jump_8 : decode cX11_jump 8 = .ok (.iconst (-1), 1) := dK_d_17.2.2.2.2.1
theorem dX11_jump_9 : decode cX11_jump 9 = .ok (.goto 24, 3) := dK_d_17.2.2.2.2.2.1
theorem dX11_jump_12 : decode cX11_jump 12 = .ok (.aload_n 0, 1) := dK_d_17.2.2.2.2.2.2.1
theorem dX11_jump_13 : decode cX11_jump 13 = .ok (.invokevirtual 150, 3) := dK_d_17.2.2.2.2.2.2.2.1
theorem dK_d_18 : dk_P cX11_jump [(16, (.iload_n 1, 1)), (17, (.if_icmp .eq 8, 3)), (20, (.bipush (-3), 2)), (22, (.goto 11, 3)), (25, (.iload_n 2, 1)), (26, (.iconst 0, 1)), (27, (.sipush 300, 3)), (30, (.invokestatic 108, 3))] := dk_of 16 (by decide +kernel)
theorem dX11_jump_16 : decode cX11_jump 16 = .ok (.iload_n 1, 1) := dK_d_18.1
theorem dX11_jump_17 : decode cX11_jump 17 = .ok (.if_icmp .eq 8, 3) := dK_d_18.2.1
theorem dX11_jump_20 : decode cX11_jump 20 = .ok (.bipush (-3), 2) := dK_d_18.2.2.1
theorem dX11_jump_22 : decode cX11_jump 22 = .ok (.goto 11, 3) := dK_d_18.2.2.2.1
theorem dX11_jump_25 : decode cX11_jump 25 = .ok (.iload_n 2, 1) := dK_d_18.2.2.2.2.1
theorem dX11_jump_26 : decode cX11_jump 26 = .ok (.iconst 0, 1) := dK_d_18.2.2.2.2.2.1
theorem dX11_jump_27 : decode cX11_jump 27 = .ok (.sipush 300, 3) := dK_d_18.2.2.2.2.2.2.1
theorem dX11_jump_30 : decode cX11_jump 30 = .ok (.invokestatic 108, 3) := dK_d_18.2.2.2.2.2.2.2.1
theorem dK_d_19 : dk_P cX11_jump [(33, (.istore_n 3, 1)), (34, (.iload_n 3, 1)), (35, (.ifCond .eq 9, 3)), (38, (.aload_n 0, 1)), (39, (.iload_n 3, 1)), (40, (.invokevirtual 115, 3)), (43, (.ireturn, 1)), (44, (.aload_n 0, 1))] := dk_of 33 (by decide +kernel)
theorem dX11_jump_33 : decode cX11_jump 33 = .ok (.istore_n 3, 1) := dK_d_19.1
theorem dX11_jump_34 : decode cX11_jump 34 = .ok (.iload_n 3, 1) := dK_d_19.2.1
theorem dX11_jump_35 : decode cX11_jump 35 = .ok (.ifCond .eq 9, 3) := dK_d_19.2.2.1
theorem dX11_jump_38 : decode cX11_jump 38 = .ok (.aload_n 0, 1) := dK_d_19.2.2.2.1
theorem dX11_jump_39 : decode cX11_jump 39 = .ok (.iload_n 3, 1) := dK_d_19.2.2.2.2.1
theorem dX11_jump_40 : decode cX11_jump 40 = .ok (.invokevirtual 115, 3) := dK_d_19.2.2.2.2.2.1
theorem dX11_jump_43 : decode cX11_jump 43 = .ok (.ireturn, 1) := dK_d_19.2.2.2.2.2.2.1
theorem dX11_jump_44 : decode cX11_jump 44 = .ok (.aload_n 0, 1) := dK_d_19.2.2.2.2.2.2.2.1
theorem dK_d_20 : dk_P cX11_jump [(45, (.iload_n 1, 1)), (46, (.aload_n 0, 1)), (47, (.iload_n 1, 1)), (48, (.iload_n 2, 1)), (49, (.iconst 0, 1)), (50, (.invokevirtual 163, 3)), (53, (.iload_n 2, 1)), (54, (.invokevirtual 153, 3))] := dk_of 45 (by decide +kernel)
theorem dX11_jump_45 : decode cX11_jump 45 = .ok (.iload_n 1, 1) := dK_d_20.1
theorem dX11_jump_46 : decode cX11_jump 46 = .ok (.aload_n 0, 1) := dK_d_20.2.1
theorem dX11_jump_47 : decode cX11_jump 47 = .ok (.iload_n 1, 1) := dK_d_20.2.2.1
theorem dX11_jump_48 : decode cX11_jump 48 = .ok (.iload_n 2, 1) := dK_d_20.2.2.2.1
theorem dX11_jump_49 : decode cX11_jump 49 = .ok (.iconst 0, 1) := dK_d_20.2.2.2.2.1
theorem dX11_jump_50 : decode cX11_jump 50 = .ok (.invokevirtual 163, 3) := dK_d_20.2.2.2.2.2.1
theorem dX11_jump_53 : decode cX11_jump 53 = .ok (.iload_n 2, 1) := dK_d_20.2.2.2.2.2.2.1
theorem dX11_jump_54 : decode cX11_jump 54 = .ok (.invokevirtual 153, 3) := dK_d_20.2.2.2.2.2.2.2.1
theorem dK_d_21 : dk_P cX11_jump [(57, (.aload_n 0, 1)), (58, (.getfield 40, 3)), (61, (.aload_n 0, 1)), (62, (.getfield 147, 3)), (65, (.iconst 1, 1)), (66, (.isub, 1)), (67, (.iaload, 1)), (68, (.ireturn, 1))] := dk_of 57 (by decide +kernel)
theorem dX11_jump_57 : decode cX11_jump 57 = .ok (.aload_n 0, 1) := dK_d_21.1
theorem dX11_jump_58 : decode cX11_jump 58 = .ok (.getfield 40, 3) := dK_d_21.2.1
theorem dX11_jump_61 : decode cX11_jump 61 = .ok (.aload_n 0, 1) := dK_d_21.2.2.1
theorem dX11_jump_62 : decode cX11_jump 62 = .ok (.getfield 147, 3) := dK_d_21.2.2.2.1
theorem dX11_jump_65 : decode cX11_jump 65 = .ok (.iconst 1, 1) := dK_d_21.2.2.2.2.1
theorem dX11_jump_66 : decode cX11_jump 66 = .ok (.isub, 1) := dK_d_21.2.2.2.2.2.1
theorem dX11_jump_67 : decode cX11_jump 67 = .ok (.iaload, 1) := dK_d_21.2.2.2.2.2.2.1
theorem dX11_jump_68 : decode cX11_jump 68 = .ok (.ireturn, 1) := dK_d_21.2.2.2.2.2.2.2.1
theorem dK_d_22 : dk_P cX11_none [(0, (.aload_n 0, 1)), (1, (.iload_n 1, 1)), (2, (.invokevirtual 207, 3)), (5, (.ifCond .ne 7, 3)), (8, (.iconst (-1), 1)), (9, (.goto 31, 3)), (12, (.iload_n 2, 1)), (13, (.iconst 0, 1))] := dk_of 0 (by decide +kernel)
theorem dX11_none_0 : decode cX11_none 0 = .ok (.aload_n 0, 1) := dK_d_22.1
theorem dX11_none_1 : decode cX11_none 1 = .ok (.iload_n 1, 1) := dK_d_22.2.1
theorem dX11_none_2 : decode cX11_none 2 = .ok (.invokevirtual 207, 3) := dK_d_22.2.2.1
theorem dX11_none_5 : decode cX11_none 5 = .ok (.ifCond .ne 7, 3) := dK_d_22.2.2.2.1
theorem dX11_none_8 : decode cX11_none 8 = .ok (.iconst (-1), 1) := dK_d_22.2.2.2.2.1
theorem dX11_none_9 : decode cX11_none 9 = .ok (.goto 31, 3) := dK_d_22.2.2.2.2.2.1
theorem dX11_none_12 : decode cX11_none 12 = .ok (.iload_n 2, 1) := dK_d_22.2.2.2.2.2.2.1
theorem dX11_none_13 : decode cX11_none 13 = .ok (.iconst 0, 1) := dK_d_22.2.2.2.2.2.2.2.1
theorem dK_d_23 : dk_P cX11_none [(14, (.iconst 1, 1)), (15, (.invokestatic 126, 3)), (18, (.ifCond .ne 8, 3)), (21, (.bipush (-2), 2)), (23, (.goto 17, 3)), (26, (.aload_n 0, 1)), (27, (.invokevirtual 150, 3)), (30, (.iload_n 1, 1))] := dk_of 14 (by decide +kernel)
theorem dX11_none_14 : decode cX11_none 14 = .ok (.iconst 1, 1) := dK_d_23.1
theorem dX11_none_15 : decode cX11_none 15 = .ok (.invokestatic 126, 3) := dK_d_23.2.1
theorem dX11_none_18 : decode cX11_none 18 = .ok (.ifCond .ne 8, 3) := dK_d_23.2.2.1
theorem dX11_none_21 : decode cX11_none 21 = .ok (.bipush (-2), 2) := dK_d_23.2.2.2.1
theorem dX11_none_23 : decode cX11_none 23 = .ok (.goto 17, 3) := dK_d_23.2.2.2.2.1
theorem dX11_none_26 : decode cX11_none 26 = .ok (.aload_n 0, 1) := dK_d_23.2.2.2.2.2.1
theorem dX11_none_27 : decode cX11_none 27 = .ok (.invokevirtual 150, 3) := dK_d_23.2.2.2.2.2.2.1
theorem dX11_none_30 : decode cX11_none 30 = .ok (.iload_n 1, 1) := dK_d_23.2.2.2.2.2.2.2.1
theorem dK_d_24 : dk_P cX11_none [(31, (.if_icmp .eq 8, 3)), (34, (.bipush (-3), 2)), (36, (.goto 4, 3)), (39, (.iconst 0, 1)), (40, (.istore_n 3, 1)), (41, (.iload_n 3, 1)), (42, (.ifCond .eq 9, 3)), (45, (.aload_n 0, 1))] := dk_of 31 (by decide +kernel)
theorem dX11_none_31 : decode cX11_none 31 = .ok (.if_icmp .eq 8, 3) := dK_d_24.1
theorem dX11_none_34 : decode cX11_none 34 = .ok (.bipush (-3), 2) := dK_d_24.2.1
theorem dX11_none_36 : decode cX11_none 36 = .ok (.goto 4, 3) := dK_d_24.2.2.1
theorem dX11_none_39 : decode cX11_none 39 = .ok (.iconst 0, 1) := dK_d_24.2.2.2.1
theorem dX11_none_40 : decode cX11_none 40 = .ok (.istore_n 3, 1) := dK_d_24.2.2.2.2.1
theorem dX11_none_41 : decode cX11_none 41 = .ok (.iload_n 3, 1) := dK_d_24.2.2.2.2.2.1
theorem dX11_none_42 : decode cX11_none 42 = .ok (.ifCond .eq 9, 3) := dK_d_24.2.2.2.2.2.2.1
theorem dX11_none_45 : decode cX11_none 45 = .ok (.aload_n 0, 1) := dK_d_24.2.2.2.2.2.2.2.1
theorem dK_d_25 : dk_P cX11_none [(46, (.iload_n 3, 1)), (47, (.invokevirtual 115, 3)), (50, (.ireturn, 1)), (51, (.aload_n 0, 1)), (52, (.iload_n 1, 1)), (53, (.iload_n 2, 1)), (54, (.ifCond .ne 8, 3)), (57, (.bipush (-9), 2))] := dk_of 46 (by decide +kernel)
theorem dX11_none_46 : decode cX11_none 46 = .ok (.iload_n 3, 1) := dK_d_25.1
theorem dX11_none_47 : decode cX11_none 47 = .ok (.invokevirtual 115, 3) := dK_d_25.2.1
theorem dX11_none_50 : decode cX11_none 50 = .ok (.ireturn, 1) := dK_d_25.2.2.1
theorem dX11_none_51 : decode cX11_none 51 = .ok (.aload_n 0, 1) := dK_d_25.2.2.2.1
theorem dX11_none_52 : decode cX11_none 52 = .ok (.iload_n 1, 1) := dK_d_25.2.2.2.2.1
theorem dX11_none_53 : decode cX11_none 53 = .ok (.iload_n 2, 1) := dK_d_25.2.2.2.2.2.1
theorem dX11_none_54 : decode cX11_none 54 = .ok (.ifCond .ne 8, 3) := dK_d_25.2.2.2.2.2.2.1
theorem dX11_none_57 : decode cX11_none 57 = .ok (.bipush (-9), 2) := dK_d_25.2.2.2.2.2.2.2.1
theorem dK_d_26 : dk_P cX11_none [(59, (.goto 5, 3)), (62, (.bipush (-8), 2)), (64, (.iconst 0, 1)), (65, (.invokevirtual 153, 3)), (68, (.aload_n 0, 1)), (69, (.iload_n 1, 1)), (70, (.invokevirtual 217, 3)), (73, (.ireturn, 1))] := dk_of 59 (by decide +kernel)
theorem dX11_none_59 : decode cX11_none 59 = .ok (.goto 5, 3) := dK_d_26.1
theorem dX11_none_62 : decode cX11_none 62 = .ok (.bipush (-8), 2) := dK_d_26.2.1
theorem dX11_none_64 : decode cX11_none 64 = .ok (.iconst 0, 1) := dK_d_26.2.2.1
theorem dX11_none_65 : decode cX11_none 65 = .ok (.invokevirtual 153, 3) := dK_d_26.2.2.2.1
theorem dX11_none_68 : decode cX11_none 68 = .ok (.aload_n 0, 1) := dK_d_26.2.2.2.2.1
theorem dX11_none_69 : decode cX11_none 69 = .ok (.iload_n 1, 1) := dK_d_26.2.2.2.2.2.1
theorem dX11_none_70 : decode cX11_none 70 = .ok (.invokevirtual 217, 3) := dK_d_26.2.2.2.2.2.2.1
theorem dX11_none_73 : decode cX11_none 73 = .ok (.ireturn, 1) := dK_d_26.2.2.2.2.2.2.2.1
theorem dK_d_27 : dk_P cX11_undo [(0, (.aload_n 0, 1)), (1, (.getfield 147, 3)), (4, (.ifCond .ne 10, 3)), (7, (.aload_n 0, 1)), (8, (.bipush (-3), 2)), (10, (.invokevirtual 115, 3)), (13, (.ireturn, 1)), (14, (.aload_n 0, 1))] := dk_of 0 (by decide +kernel)
theorem dX11_undo_0 : decode cX11_undo 0 = .ok (.aload_n 0, 1) := dK_d_27.1
theorem dX11_undo_1 : decode cX11_undo 1 = .ok (.getfield 147, 3) := dK_d_27.2.1
theorem dX11_undo_4 : decode cX11_undo 4 = .ok (.ifCond .ne 10, 3) := dK_d_27.2.2.1
theorem dX11_undo_7 : decode cX11_undo 7 = .ok (.aload_n 0, 1) := dK_d_27.2.2.2.1
theorem dX11_undo_8 : decode cX11_undo 8 = .ok (.bipush (-3), 2) := dK_d_27.2.2.2.2.1
theorem dX11_undo_10 : decode cX11_undo 10 = .ok (.invokevirtual 115, 3) := dK_d_27.2.2.2.2.2.1
theorem dX11_undo_13 : decode cX11_undo 13 = .ok (.ireturn, 1) := dK_d_27.2.2.2.2.2.2.1
theorem dX11_undo_14 : decode cX11_undo 14 = .ok (.aload_n 0, 1) := dK_d_27.2.2.2.2.2.2.2.1
theorem dK_d_28 : dk_P cX11_undo [(15, (.dup, 1)), (16, (.getfield 147, 3)), (19, (.iconst 1, 1)), (20, (.isub, 1)), (21, (.putfield 147, 3)), (24, (.aload_n 0, 1)), (25, (.getfield 37, 3)), (28, (.aload_n 0, 1))] := dk_of 15 (by decide +kernel)
theorem dX11_undo_15 : decode cX11_undo 15 = .ok (.dup, 1) := dK_d_28.1
theorem dX11_undo_16 : decode cX11_undo 16 = .ok (.getfield 147, 3) := dK_d_28.2.1
theorem dX11_undo_19 : decode cX11_undo 19 = .ok (.iconst 1, 1) := dK_d_28.2.2.1
theorem dX11_undo_20 : decode cX11_undo 20 = .ok (.isub, 1) := dK_d_28.2.2.2.1
theorem dX11_undo_21 : decode cX11_undo 21 = .ok (.putfield 147, 3) := dK_d_28.2.2.2.2.1
theorem dX11_undo_24 : decode cX11_undo 24 = .ok (.aload_n 0, 1) := dK_d_28.2.2.2.2.2.1
theorem dX11_undo_25 : decode cX11_undo 25 = .ok (.getfield 37, 3) := dK_d_28.2.2.2.2.2.2.1
theorem dX11_undo_28 : decode cX11_undo 28 = .ok (.aload_n 0, 1) := dK_d_28.2.2.2.2.2.2.2.1
theorem dK_d_29 : dk_P cX11_undo [(29, (.getfield 147, 3)), (32, (.iaload, 1)), (33, (.ireturn, 1))] := dk_of 29 (by decide +kernel)
theorem dX11_undo_29 : decode cX11_undo 29 = .ok (.getfield 147, 3) := dK_d_29.1
theorem dX11_undo_32 : decode cX11_undo 32 = .ok (.iaload, 1) := dK_d_29.2.1
theorem dX11_undo_33 : decode cX11_undo 33 = .ok (.ireturn, 1) := dK_d_29.2.2.1
theorem dK_d_30 : dk_P cX11_tried [(0, (.aload_n 0, 1)), (1, (.iload_n 1, 1)), (2, (.invokevirtual 207, 3)), (5, (.ifCond .eq 16, 3)), (8, (.iload_n 2, 1)), (9, (.ifCond .lt 12, 3)), (12, (.iload_n 2, 1)), (13, (.aload_n 0, 1))] := dk_of 0 (by decide +kernel)
theorem dX11_tried_0 : decode cX11_tried 0 = .ok (.aload_n 0, 1) := dK_d_30.1
theorem dX11_tried_1 : decode cX11_tried 1 = .ok (.iload_n 1, 1) := dK_d_30.2.1
theorem dX11_tried_2 : decode cX11_tried 2 = .ok (.invokevirtual 207, 3) := dK_d_30.2.2.1
theorem dX11_tried_5 : decode cX11_tried 5 = .ok (.ifCond .eq 16, 3) := dK_d_30.2.2.2.1
theorem dX11_tried_8 : decode cX11_tried 8 = .ok (.iload_n 2, 1) := dK_d_30.2.2.2.2.1
theorem dX11_tried_9 : decode cX11_tried 9 = .ok (.ifCond .lt 12, 3) := dK_d_30.2.2.2.2.2.1
theorem dX11_tried_12 : decode cX11_tried 12 = .ok (.iload_n 2, 1) := dK_d_30.2.2.2.2.2.2.1
theorem dX11_tried_13 : decode cX11_tried 13 = .ok (.aload_n 0, 1) := dK_d_30.2.2.2.2.2.2.2.1
theorem dK_d_31 : dk_P cX11_tried [(14, (.iload_n 1, 1)), (15, (.invokevirtual 217, 3)), (18, (.if_icmp .lt 9, 3)), (21, (.aload_n 0, 1)), (22, (.iconst (-1), 1)), (23, (.invokevirtual 115, 3)), (26, (.ireturn, 1)), (27, (.iload_n 2, 1))] := dk_of 14 (by decide +kernel)
theorem dX11_tried_14 : decode cX11_tried 14 = .ok (.iload_n 1, 1) := dK_d_31.1
theorem dX11_tried_15 : decode cX11_tried 15 = .ok (.invokevirtual 217, 3) := dK_d_31.2.1
theorem dX11_tried_18 : decode cX11_tried 18 = .ok (.if_icmp .lt 9, 3) := dK_d_31.2.2.1
theorem dX11_tried_21 : decode cX11_tried 21 = .ok (.aload_n 0, 1) := dK_d_31.2.2.2.1
theorem dX11_tried_22 : decode cX11_tried 22 = .ok (.iconst (-1), 1) := dK_d_31.2.2.2.2.1
theorem dX11_tried_23 : decode cX11_tried 23 = .ok (.invokevirtual 115, 3) := dK_d_31.2.2.2.2.2.1
theorem dX11_tried_26 : decode cX11_tried 26 = .ok (.ireturn, 1) := dK_d_31.2.2.2.2.2.2.1
theorem dX11_tried_27 : decode cX11_tried 27 = .ok (.iload_n 2, 1) := dK_d_31.2.2.2.2.2.2.2.1
theorem dK_d_32 : dk_P cX11_tried [(28, (.istore_n 3, 1)), (29, (.iconst 0, 1)), (30, (.istore 4, 2)), (32, (.iload 4, 2)), (34, (.aload_n 0, 1)), (35, (.getfield 147, 3)), (38, (.if_icmp .ge 38, 3)), (41, (.aload_n 0, 1))] := dk_of 28 (by decide +kernel)
theorem dX11_tried_28 : decode cX11_tried 28 = .ok (.istore_n 3, 1) := dK_d_32.1
theorem dX11_tried_29 : decode cX11_tried 29 = .ok (.iconst 0, 1) := dK_d_32.2.1
theorem dX11_tried_30 : decode cX11_tried 30 = .ok (.istore 4, 2) := dK_d_32.2.2.1
theorem dX11_tried_32 : decode cX11_tried 32 = .ok (.iload 4, 2) := dK_d_32.2.2.2.1
theorem dX11_tried_34 : decode cX11_tried 34 = .ok (.aload_n 0, 1) := dK_d_32.2.2.2.2.1
theorem dX11_tried_35 : decode cX11_tried 35 = .ok (.getfield 147, 3) := dK_d_32.2.2.2.2.2.1
theorem dX11_tried_38 : decode cX11_tried 38 = .ok (.if_icmp .ge 38, 3) := dK_d_32.2.2.2.2.2.2.1
theorem dX11_tried_41 : decode cX11_tried 41 = .ok (.aload_n 0, 1) := dK_d_32.2.2.2.2.2.2.2.1
theorem dK_d_33 : dk_P cX11_tried [(42, (.getfield 37, 3)), (45, (.iload 4, 2)), (47, (.iaload, 1)), (48, (.iload_n 1, 1)), (49, (.if_icmp .eq 6, 3)), (52, (.goto 18, 3)), (55, (.iload_n 3, 1)), (56, (.ifCond .ne 11, 3))] := dk_of 42 (by decide +kernel)
theorem dX11_tried_42 : decode cX11_tried 42 = .ok (.getfield 37, 3) := dK_d_33.1
theorem dX11_tried_45 : decode cX11_tried 45 = .ok (.iload 4, 2) := dK_d_33.2.1
theorem dX11_tried_47 : decode cX11_tried 47 = .ok (.iaload, 1) := dK_d_33.2.2.1
theorem dX11_tried_48 : decode cX11_tried 48 = .ok (.iload_n 1, 1) := dK_d_33.2.2.2.1
theorem dX11_tried_49 : decode cX11_tried 49 = .ok (.if_icmp .eq 6, 3) := dK_d_33.2.2.2.2.1
theorem dX11_tried_52 : decode cX11_tried 52 = .ok (.goto 18, 3) := dK_d_33.2.2.2.2.2.1
theorem dX11_tried_55 : decode cX11_tried 55 = .ok (.iload_n 3, 1) := dK_d_33.2.2.2.2.2.2.1
theorem dX11_tried_56 : decode cX11_tried 56 = .ok (.ifCond .ne 11, 3) := dK_d_33.2.2.2.2.2.2.2.1
theorem dK_d_34 : dk_P cX11_tried [(59, (.aload_n 0, 1)), (60, (.getfield 40, 3)), (63, (.iload 4, 2)), (65, (.iaload, 1)), (66, (.ireturn, 1)), (67, (.iinc 3 (-1), 3)), (70, (.iinc 4 1, 3)), (73, (.goto (-41), 3))] := dk_of 59 (by decide +kernel)
theorem dX11_tried_59 : decode cX11_tried 59 = .ok (.aload_n 0, 1) := dK_d_34.1
theorem dX11_tried_60 : decode cX11_tried 60 = .ok (.getfield 40, 3) := dK_d_34.2.1
theorem dX11_tried_63 : decode cX11_tried 63 = .ok (.iload 4, 2) := dK_d_34.2.2.1
theorem dX11_tried_65 : decode cX11_tried 65 = .ok (.iaload, 1) := dK_d_34.2.2.2.1
theorem dX11_tried_66 : decode cX11_tried 66 = .ok (.ireturn, 1) := dK_d_34.2.2.2.2.1
theorem dX11_tried_67 : decode cX11_tried 67 = .ok (.iinc 3 (-1), 3) := dK_d_34.2.2.2.2.2.1
theorem dX11_tried_70 : decode cX11_tried 70 = .ok (.iinc 4 1, 3) := dK_d_34.2.2.2.2.2.2.1
theorem dX11_tried_73 : decode cX11_tried 73 = .ok (.goto (-41), 3) := dK_d_34.2.2.2.2.2.2.2.1
theorem dK_d_35 : dk_P cX11_tried [(76, (.bipush (-9), 2)), (78, (.ireturn, 1))] := dk_of 76 (by decide +kernel)
theorem dX11_tried_76 : decode cX11_tried 76 = .ok (.bipush (-9), 2) := dK_d_35.1
theorem dX11_tried_78 : decode cX11_tried 78 = .ok (.ireturn, 1) := dK_d_35.2.1
theorem dK_d_36 : dk_P cX11_rankOf [(0, (.iconst 0, 1)), (1, (.istore_n 2, 1)), (2, (.iload_n 2, 1)), (3, (.aload_n 0, 1)), (4, (.getfield 105, 3)), (7, (.if_icmp .ge 21, 3)), (10, (.aload_n 0, 1)), (11, (.getfield 74, 3))] := dk_of 0 (by decide +kernel)
theorem dX11_rankOf_0 : decode cX11_rankOf 0 = .ok (.iconst 0, 1) := dK_d_36.1
theorem dX11_rankOf_1 : decode cX11_rankOf 1 = .ok (.istore_n 2, 1) := dK_d_36.2.1
theorem dX11_rankOf_2 : decode cX11_rankOf 2 = .ok (.iload_n 2, 1) := dK_d_36.2.2.1
theorem dX11_rankOf_3 : decode cX11_rankOf 3 = .ok (.aload_n 0, 1) := dK_d_36.2.2.2.1
theorem dX11_rankOf_4 : decode cX11_rankOf 4 = .ok (.getfield 105, 3) := dK_d_36.2.2.2.2.1
theorem dX11_rankOf_7 : decode cX11_rankOf 7 = .ok (.if_icmp .ge 21, 3) := dK_d_36.2.2.2.2.2.1
theorem dX11_rankOf_10 : decode cX11_rankOf 10 = .ok (.aload_n 0, 1) := dK_d_36.2.2.2.2.2.2.1
theorem dX11_rankOf_11 : decode cX11_rankOf 11 = .ok (.getfield 74, 3) := dK_d_36.2.2.2.2.2.2.2.1
theorem dK_d_37 : dk_P cX11_rankOf [(14, (.iload_n 2, 1)), (15, (.iaload, 1)), (16, (.iload_n 1, 1)), (17, (.if_icmp .ne 5, 3)), (20, (.iload_n 2, 1)), (21, (.ireturn, 1)), (22, (.iinc 2 1, 3)), (25, (.goto (-23), 3))] := dk_of 14 (by decide +kernel)
theorem dX11_rankOf_14 : decode cX11_rankOf 14 = .ok (.iload_n 2, 1) := dK_d_37.1
theorem dX11_rankOf_15 : decode cX11_rankOf 15 = .ok (.iaload, 1) := dK_d_37.2.1
theorem dX11_rankOf_16 : decode cX11_rankOf 16 = .ok (.iload_n 1, 1) := dK_d_37.2.2.1
theorem dX11_rankOf_17 : decode cX11_rankOf 17 = .ok (.if_icmp .ne 5, 3) := dK_d_37.2.2.2.1
theorem dX11_rankOf_20 : decode cX11_rankOf 20 = .ok (.iload_n 2, 1) := dK_d_37.2.2.2.2.1
theorem dX11_rankOf_21 : decode cX11_rankOf 21 = .ok (.ireturn, 1) := dK_d_37.2.2.2.2.2.1
theorem dX11_rankOf_22 : decode cX11_rankOf 22 = .ok (.iinc 2 1, 3) := dK_d_37.2.2.2.2.2.2.1
theorem dX11_rankOf_25 : decode cX11_rankOf 25 = .ok (.goto (-23), 3) := dK_d_37.2.2.2.2.2.2.2.1
theorem dK_d_38 : dk_P cX11_rankOf [(28, (.bipush (-9), 2)), (30, (.ireturn, 1))] := dk_of 28 (by decide +kernel)
theorem dX11_rankOf_28 : decode cX11_rankOf 28 = .ok (.bipush (-9), 2) := dK_d_38.1
theorem dX11_rankOf_30 : decode cX11_rankOf 30 = .ok (.ireturn, 1) := dK_d_38.2.1
theorem dK_d_39 : dk_P cX11_isEnough [(0, (.aload_n 0, 1)), (1, (.iconst 0, 1)), (2, (.aload_n 0, 1)), (3, (.getfield 147, 3)), (6, (.invokevirtual 213, 3)), (9, (.aload_n 0, 1)), (10, (.iload_n 1, 1)), (11, (.iload_n 2, 1))] := dk_of 0 (by decide +kernel)
theorem dX11_isEnough_0 : decode cX11_isEnough 0 = .ok (.aload_n 0, 1) := dK_d_39.1
theorem dX11_isEnough_1 : decode cX11_isEnough 1 = .ok (.iconst 0, 1) := dK_d_39.2.1
theorem dX11_isEnough_2 : decode cX11_isEnough 2 = .ok (.aload_n 0, 1) := dK_d_39.2.2.1
theorem dX11_isEnough_3 : decode cX11_isEnough 3 = .ok (.getfield 147, 3) := dK_d_39.2.2.2.1
theorem dX11_isEnough_6 : decode cX11_isEnough 6 = .ok (.invokevirtual 213, 3) := dK_d_39.2.2.2.2.1
theorem dX11_isEnough_9 : decode cX11_isEnough 9 = .ok (.aload_n 0, 1) := dK_d_39.2.2.2.2.2.1
theorem dX11_isEnough_10 : decode cX11_isEnough 10 = .ok (.iload_n 1, 1) := dK_d_39.2.2.2.2.2.2.1
theorem dX11_isEnough_11 : decode cX11_isEnough 11 = .ok (.iload_n 2, 1) := dK_d_39.2.2.2.2.2.2.2.1
theorem dK_d_40 : dk_P cX11_isEnough [(12, (.invokevirtual 262, 3)), (15, (.aload_n 0, 1)), (16, (.invokevirtual 268, 3)), (19, (.aload_n 0, 1)), (20, (.iload_n 1, 1)), (21, (.invokevirtual 274, 3)), (24, (.iload_n 3, 1)), (25, (.if_icmp .ge 7, 3))] := dk_of 12 (by decide +kernel)
theorem dX11_isEnough_12 : decode cX11_isEnough 12 = .ok (.invokevirtual 262, 3) := dK_d_40.1
theorem dX11_isEnough_15 : decode cX11_isEnough 15 = .ok (.aload_n 0, 1) := dK_d_40.2.1
theorem dX11_isEnough_16 : decode cX11_isEnough 16 = .ok (.invokevirtual 268, 3) := dK_d_40.2.2.1
theorem dX11_isEnough_19 : decode cX11_isEnough 19 = .ok (.aload_n 0, 1) := dK_d_40.2.2.2.1
theorem dX11_isEnough_20 : decode cX11_isEnough 20 = .ok (.iload_n 1, 1) := dK_d_40.2.2.2.2.1
theorem dX11_isEnough_21 : decode cX11_isEnough 21 = .ok (.invokevirtual 274, 3) := dK_d_40.2.2.2.2.2.1
theorem dX11_isEnough_24 : decode cX11_isEnough 24 = .ok (.iload_n 3, 1) := dK_d_40.2.2.2.2.2.2.1
theorem dX11_isEnough_25 : decode cX11_isEnough 25 = .ok (.if_icmp .ge 7, 3) := dK_d_40.2.2.2.2.2.2.2.1
theorem dK_d_41 : dk_P cX11_isEnough [(28, (.iconst 1, 1)), (29, (.goto 4, 3)), (32, (.iconst 0, 1)), (33, (.ireturn, 1))] := dk_of 28 (by decide +kernel)
theorem dX11_isEnough_28 : decode cX11_isEnough 28 = .ok (.iconst 1, 1) := dK_d_41.1
theorem dX11_isEnough_29 : decode cX11_isEnough 29 = .ok (.goto 4, 3) := dK_d_41.2.1
theorem dX11_isEnough_32 : decode cX11_isEnough 32 = .ok (.iconst 0, 1) := dK_d_41.2.2.1
theorem dX11_isEnough_33 : decode cX11_isEnough 33 = .ok (.ireturn, 1) := dK_d_41.2.2.2.1
theorem dK_d_42 : dk_P cX11_needs [(0, (.aload_n 0, 1)), (1, (.iload_n 1, 1)), (2, (.invokevirtual 207, 3)), (5, (.ifCond .ne 7, 3)), (8, (.iconst (-1), 1)), (9, (.goto 18, 3)), (12, (.iload_n 2, 1)), (13, (.iconst 0, 1))] := dk_of 0 (by decide +kernel)
theorem dX11_needs_0 : decode cX11_needs 0 = .ok (.aload_n 0, 1) := dK_d_42.1
theorem dX11_needs_1 : decode cX11_needs 1 = .ok (.iload_n 1, 1) := dK_d_42.2.1
theorem dX11_needs_2 : decode cX11_needs 2 = .ok (.invokevirtual 207, 3) := dK_d_42.2.2.1
theorem dX11_needs_5 : decode cX11_needs 5 = .ok (.ifCond .ne 7, 3) := dK_d_42.2.2.2.1
theorem dX11_needs_8 : decode cX11_needs 8 = .ok (.iconst (-1), 1) := dK_d_42.2.2.2.2.1
theorem dX11_needs_9 : decode cX11_needs 9 = .ok (.goto 18, 3) := dK_d_42.2.2.2.2.2.1
theorem dX11_needs_12 : decode cX11_needs 12 = .ok (.iload_n 2, 1) := dK_d_42.2.2.2.2.2.2.1
theorem dX11_needs_13 : decode cX11_needs 13 = .ok (.iconst 0, 1) := dK_d_42.2.2.2.2.2.2.2.1
theorem dK_d_43 : dk_P cX11_needs [(14, (.iconst 1, 1)), (15, (.invokestatic 126, 3)), (18, (.ifCond .ne 8, 3)), (21, (.bipush (-2), 2)), (23, (.goto 4, 3)), (26, (.iconst 0, 1)), (27, (.istore_n 3, 1)), (28, (.iload_n 3, 1))] := dk_of 14 (by decide +kernel)
theorem dX11_needs_14 : decode cX11_needs 14 = .ok (.iconst 1, 1) := dK_d_43.1
theorem dX11_needs_15 : decode cX11_needs 15 = .ok (.invokestatic 126, 3) := dK_d_43.2.1
theorem dX11_needs_18 : decode cX11_needs 18 = .ok (.ifCond .ne 8, 3) := dK_d_43.2.2.1
theorem dX11_needs_21 : decode cX11_needs 21 = .ok (.bipush (-2), 2) := dK_d_43.2.2.2.1
theorem dX11_needs_23 : decode cX11_needs 23 = .ok (.goto 4, 3) := dK_d_43.2.2.2.2.1
theorem dX11_needs_26 : decode cX11_needs 26 = .ok (.iconst 0, 1) := dK_d_43.2.2.2.2.2.1
theorem dX11_needs_27 : decode cX11_needs 27 = .ok (.istore_n 3, 1) := dK_d_43.2.2.2.2.2.2.1
theorem dX11_needs_28 : decode cX11_needs 28 = .ok (.iload_n 3, 1) := dK_d_43.2.2.2.2.2.2.2.1
theorem dK_d_44 : dk_P cX11_needs [(29, (.ifCond .eq 9, 3)), (32, (.aload_n 0, 1)), (33, (.iload_n 3, 1)), (34, (.invokevirtual 115, 3)), (37, (.ireturn, 1)), (38, (.iconst 0, 1)), (39, (.istore 4, 2)), (41, (.iload 4, 2))] := dk_of 29 (by decide +kernel)
theorem dX11_needs_29 : decode cX11_needs 29 = .ok (.ifCond .eq 9, 3) := dK_d_44.1
theorem dX11_needs_32 : decode cX11_needs 32 = .ok (.aload_n 0, 1) := dK_d_44.2.1
theorem dX11_needs_33 : decode cX11_needs 33 = .ok (.iload_n 3, 1) := dK_d_44.2.2.1
theorem dX11_needs_34 : decode cX11_needs 34 = .ok (.invokevirtual 115, 3) := dK_d_44.2.2.2.1
theorem dX11_needs_37 : decode cX11_needs 37 = .ok (.ireturn, 1) := dK_d_44.2.2.2.2.1
theorem dX11_needs_38 : decode cX11_needs 38 = .ok (.iconst 0, 1) := dK_d_44.2.2.2.2.2.1
theorem dX11_needs_39 : decode cX11_needs 39 = .ok (.istore 4, 2) := dK_d_44.2.2.2.2.2.2.1
theorem dX11_needs_41 : decode cX11_needs 41 = .ok (.iload 4, 2) := dK_d_44.2.2.2.2.2.2.2.1
theorem dK_d_45 : dk_P cX11_needs [(43, (.sipush 1000, 3)), (46, (.if_icmp .ge 34, 3)), (49, (.aload_n 0, 1)), (50, (.iload_n 1, 1)), (51, (.iload 4, 2)), (53, (.iload_n 2, 1)), (54, (.ifCond .ne 7, 3)), (57, (.iconst 1, 1))] := dk_of 43 (by decide +kernel)
theorem dX11_needs_43 : decode cX11_needs 43 = .ok (.sipush 1000, 3) := dK_d_45.1
theorem dX11_needs_46 : decode cX11_needs 46 = .ok (.if_icmp .ge 34, 3) := dK_d_45.2.1
theorem dX11_needs_49 : decode cX11_needs 49 = .ok (.aload_n 0, 1) := dK_d_45.2.2.1
theorem dX11_needs_50 : decode cX11_needs 50 = .ok (.iload_n 1, 1) := dK_d_45.2.2.2.1
theorem dX11_needs_51 : decode cX11_needs 51 = .ok (.iload 4, 2) := dK_d_45.2.2.2.2.1
theorem dX11_needs_53 : decode cX11_needs 53 = .ok (.iload_n 2, 1) := dK_d_45.2.2.2.2.2.1
theorem dX11_needs_54 : decode cX11_needs 54 = .ok (.ifCond .ne 7, 3) := dK_d_45.2.2.2.2.2.2.1
theorem dX11_needs_57 : decode cX11_needs 57 = .ok (.iconst 1, 1) := dK_d_45.2.2.2.2.2.2.2.1
theorem dK_d_46 : dk_P cX11_needs [(58, (.goto 7, 3)), (61, (.aload_n 0, 1)), (62, (.invokevirtual 271, 3)), (65, (.invokevirtual 277, 3)), (68, (.ifCond .eq 6, 3)), (71, (.iload 4, 2)), (73, (.ireturn, 1)), (74, (.iinc 4 1, 3))] := dk_of 58 (by decide +kernel)
theorem dX11_needs_58 : decode cX11_needs 58 = .ok (.goto 7, 3) := dK_d_46.1
theorem dX11_needs_61 : decode cX11_needs 61 = .ok (.aload_n 0, 1) := dK_d_46.2.1
theorem dX11_needs_62 : decode cX11_needs 62 = .ok (.invokevirtual 271, 3) := dK_d_46.2.2.1
theorem dX11_needs_65 : decode cX11_needs 65 = .ok (.invokevirtual 277, 3) := dK_d_46.2.2.2.1
theorem dX11_needs_68 : decode cX11_needs 68 = .ok (.ifCond .eq 6, 3) := dK_d_46.2.2.2.2.1
theorem dX11_needs_71 : decode cX11_needs 71 = .ok (.iload 4, 2) := dK_d_46.2.2.2.2.2.1
theorem dX11_needs_73 : decode cX11_needs 73 = .ok (.ireturn, 1) := dK_d_46.2.2.2.2.2.2.1
theorem dX11_needs_74 : decode cX11_needs 74 = .ok (.iinc 4 1, 3) := dK_d_46.2.2.2.2.2.2.2.1
theorem dK_d_47 : dk_P cX11_needs [(77, (.goto (-36), 3)), (80, (.bipush (-9), 2)), (82, (.ireturn, 1))] := dk_of 77 (by decide +kernel)
theorem dX11_needs_77 : decode cX11_needs 77 = .ok (.goto (-36), 3) := dK_d_47.1
theorem dX11_needs_80 : decode cX11_needs 80 = .ok (.bipush (-9), 2) := dK_d_47.2.1
theorem dX11_needs_82 : decode cX11_needs 82 = .ok (.ireturn, 1) := dK_d_47.2.2.1
theorem dK_d_48 : dk_P cX11_ranks [(0, (.iload_n 1, 1)), (1, (.iconst 0, 1)), (2, (.iconst 2, 1)), (3, (.invokestatic 126, 3)), (6, (.ifCond .ne 10, 3)), (9, (.aload_n 0, 1)), (10, (.bipush (-2), 2)), (12, (.invokevirtual 115, 3))] := dk_of 0 (by decide +kernel)
theorem dX11_ranks_0 : decode cX11_ranks 0 = .ok (.iload_n 1, 1) := dK_d_48.1
theorem dX11_ranks_1 : decode cX11_ranks 1 = .ok (.iconst 0, 1) := dK_d_48.2.1
theorem dX11_ranks_2 : decode cX11_ranks 2 = .ok (.iconst 2, 1) := dK_d_48.2.2.1
theorem dX11_ranks_3 : decode cX11_ranks 3 = .ok (.invokestatic 126, 3) := dK_d_48.2.2.2.1
theorem dX11_ranks_6 : decode cX11_ranks 6 = .ok (.ifCond .ne 10, 3) := dK_d_48.2.2.2.2.1
theorem dX11_ranks_9 : decode cX11_ranks 9 = .ok (.aload_n 0, 1) := dK_d_48.2.2.2.2.2.1
theorem dX11_ranks_10 : decode cX11_ranks 10 = .ok (.bipush (-2), 2) := dK_d_48.2.2.2.2.2.2.1
theorem dX11_ranks_12 : decode cX11_ranks 12 = .ok (.invokevirtual 115, 3) := dK_d_48.2.2.2.2.2.2.2.1
theorem dK_d_49 : dk_P cX11_ranks [(15, (.ireturn, 1)), (16, (.aload_n 0, 1)), (17, (.iload_n 1, 1)), (18, (.aload_n 0, 1)), (19, (.getfield 147, 3)), (22, (.invokevirtual 213, 3)), (25, (.aload_n 0, 1)), (26, (.invokevirtual 268, 3))] := dk_of 15 (by decide +kernel)
theorem dX11_ranks_15 : decode cX11_ranks 15 = .ok (.ireturn, 1) := dK_d_49.1
theorem dX11_ranks_16 : decode cX11_ranks 16 = .ok (.aload_n 0, 1) := dK_d_49.2.1
theorem dX11_ranks_17 : decode cX11_ranks 17 = .ok (.iload_n 1, 1) := dK_d_49.2.2.1
theorem dX11_ranks_18 : decode cX11_ranks 18 = .ok (.aload_n 0, 1) := dK_d_49.2.2.2.1
theorem dX11_ranks_19 : decode cX11_ranks 19 = .ok (.getfield 147, 3) := dK_d_49.2.2.2.2.1
theorem dX11_ranks_22 : decode cX11_ranks 22 = .ok (.invokevirtual 213, 3) := dK_d_49.2.2.2.2.2.1
theorem dX11_ranks_25 : decode cX11_ranks 25 = .ok (.aload_n 0, 1) := dK_d_49.2.2.2.2.2.2.1
theorem dX11_ranks_26 : decode cX11_ranks 26 = .ok (.invokevirtual 268, 3) := dK_d_49.2.2.2.2.2.2.2.1
theorem dK_d_50 : dk_P cX11_ranks [(29, (.iconst 0, 1)), (30, (.istore_n 2, 1)), (31, (.aload_n 0, 1)), (32, (.getfield 105, 3)), (35, (.iconst 1, 1)), (36, (.isub, 1)), (37, (.istore_n 3, 1)), (38, (.iload_n 3, 1))] := dk_of 29 (by decide +kernel)
theorem dX11_ranks_29 : decode cX11_ranks 29 = .ok (.iconst 0, 1) := dK_d_50.1
theorem dX11_ranks_30 : decode cX11_ranks 30 = .ok (.istore_n 2, 1) := dK_d_50.2.1
theorem dX11_ranks_31 : decode cX11_ranks 31 = .ok (.aload_n 0, 1) := dK_d_50.2.2.1
theorem dX11_ranks_32 : decode cX11_ranks 32 = .ok (.getfield 105, 3) := dK_d_50.2.2.2.1
theorem dX11_ranks_35 : decode cX11_ranks 35 = .ok (.iconst 1, 1) := dK_d_50.2.2.2.2.1
theorem dX11_ranks_36 : decode cX11_ranks 36 = .ok (.isub, 1) := dK_d_50.2.2.2.2.2.1
theorem dX11_ranks_37 : decode cX11_ranks 37 = .ok (.istore_n 3, 1) := dK_d_50.2.2.2.2.2.2.1
theorem dX11_ranks_38 : decode cX11_ranks 38 = .ok (.iload_n 3, 1) := dK_d_50.2.2.2.2.2.2.2.1
theorem dK_d_51 : dk_P cX11_ranks [(39, (.ifCond .lt 21, 3)), (42, (.bipush 10, 2)), (44, (.iload_n 2, 1)), (45, (.imul, 1)), (46, (.aload_n 0, 1)), (47, (.getfield 74, 3)), (50, (.iload_n 3, 1)), (51, (.iaload, 1))] := dk_of 39 (by decide +kernel)
theorem dX11_ranks_39 : decode cX11_ranks 39 = .ok (.ifCond .lt 21, 3) := dK_d_51.1
theorem dX11_ranks_42 : decode cX11_ranks 42 = .ok (.bipush 10, 2) := dK_d_51.2.1
theorem dX11_ranks_44 : decode cX11_ranks 44 = .ok (.iload_n 2, 1) := dK_d_51.2.2.1
theorem dX11_ranks_45 : decode cX11_ranks 45 = .ok (.imul, 1) := dK_d_51.2.2.2.1
theorem dX11_ranks_46 : decode cX11_ranks 46 = .ok (.aload_n 0, 1) := dK_d_51.2.2.2.2.1
theorem dX11_ranks_47 : decode cX11_ranks 47 = .ok (.getfield 74, 3) := dK_d_51.2.2.2.2.2.1
theorem dX11_ranks_50 : decode cX11_ranks 50 = .ok (.iload_n 3, 1) := dK_d_51.2.2.2.2.2.2.1
theorem dX11_ranks_51 : decode cX11_ranks 51 = .ok (.iaload, 1) := dK_d_51.2.2.2.2.2.2.2.1
theorem dK_d_52 : dk_P cX11_ranks [(52, (.iadd, 1)), (53, (.istore_n 2, 1)), (54, (.iinc 3 (-1), 3)), (57, (.goto (-19), 3)), (60, (.iload_n 2, 1)), (61, (.ireturn, 1))] := dk_of 52 (by decide +kernel)
theorem dX11_ranks_52 : decode cX11_ranks 52 = .ok (.iadd, 1) := dK_d_52.1
theorem dX11_ranks_53 : decode cX11_ranks 53 = .ok (.istore_n 2, 1) := dK_d_52.2.1
theorem dX11_ranks_54 : decode cX11_ranks 54 = .ok (.iinc 3 (-1), 3) := dK_d_52.2.2.1
theorem dX11_ranks_57 : decode cX11_ranks 57 = .ok (.goto (-19), 3) := dK_d_52.2.2.2.1
theorem dX11_ranks_60 : decode cX11_ranks 60 = .ok (.iload_n 2, 1) := dK_d_52.2.2.2.2.1
theorem dX11_ranks_61 : decode cX11_ranks 61 = .ok (.ireturn, 1) := dK_d_52.2.2.2.2.2.1
theorem dK_d_53 : dk_P cX11_leader [(0, (.aload_n 0, 1)), (1, (.getfield 105, 3)), (4, (.ifCond .ne 6, 3)), (7, (.bipush (-9), 2)), (9, (.ireturn, 1)), (10, (.aload_n 0, 1)), (11, (.invokevirtual 280, 3)), (14, (.aload_n 0, 1))] := dk_of 0 (by decide +kernel)
theorem dX11_leader_0 : decode cX11_leader 0 = .ok (.aload_n 0, 1) := dK_d_53.1
theorem dX11_leader_1 : decode cX11_leader 1 = .ok (.getfield 105, 3) := dK_d_53.2.1
theorem dX11_leader_4 : decode cX11_leader 4 = .ok (.ifCond .ne 6, 3) := dK_d_53.2.2.1
theorem dX11_leader_7 : decode cX11_leader 7 = .ok (.bipush (-9), 2) := dK_d_53.2.2.2.1
theorem dX11_leader_9 : decode cX11_leader 9 = .ok (.ireturn, 1) := dK_d_53.2.2.2.2.1
theorem dX11_leader_10 : decode cX11_leader 10 = .ok (.aload_n 0, 1) := dK_d_53.2.2.2.2.2.1
theorem dX11_leader_11 : decode cX11_leader 11 = .ok (.invokevirtual 280, 3) := dK_d_53.2.2.2.2.2.2.1
theorem dX11_leader_14 : decode cX11_leader 14 = .ok (.aload_n 0, 1) := dK_d_53.2.2.2.2.2.2.2.1
theorem dK_d_54 : dk_P cX11_leader [(15, (.getfield 74, 3)), (18, (.iconst 0, 1)), (19, (.iaload, 1)), (20, (.ireturn, 1))] := dk_of 15 (by decide +kernel)
theorem dX11_leader_15 : decode cX11_leader 15 = .ok (.getfield 74, 3) := dK_d_54.1
theorem dX11_leader_18 : decode cX11_leader 18 = .ok (.iconst 0, 1) := dK_d_54.2.1
theorem dX11_leader_19 : decode cX11_leader 19 = .ok (.iaload, 1) := dK_d_54.2.2.1
theorem dX11_leader_20 : decode cX11_leader 20 = .ok (.ireturn, 1) := dK_d_54.2.2.2.1
theorem dK_d_55 : dk_P cX11_leads [(0, (.aload_n 0, 1)), (1, (.invokevirtual 283, 3)), (4, (.ireturn, 1))] := dk_of 0 (by decide +kernel)
theorem dX11_leads_0 : decode cX11_leads 0 = .ok (.aload_n 0, 1) := dK_d_55.1
theorem dX11_leads_1 : decode cX11_leads 1 = .ok (.invokevirtual 283, 3) := dK_d_55.2.1
theorem dX11_leads_4 : decode cX11_leads 4 = .ok (.ireturn, 1) := dK_d_55.2.2.1
theorem dK_d_56 : dk_P cX11_goOnBits [(0, (.aload_n 0, 1)), (1, (.invokevirtual 280, 3)), (4, (.iconst 0, 1)), (5, (.istore_n 1, 1)), (6, (.iconst 0, 1)), (7, (.istore_n 2, 1)), (8, (.iload_n 2, 1)), (9, (.aload_n 0, 1))] := dk_of 0 (by decide +kernel)
theorem dX11_goOnBits_0 : decode cX11_goOnBits 0 = .ok (.aload_n 0, 1) := dK_d_56.1
theorem dX11_goOnBits_1 : decode cX11_goOnBits 1 = .ok (.invokevirtual 280, 3) := dK_d_56.2.1
theorem dX11_goOnBits_4 : decode cX11_goOnBits 4 = .ok (.iconst 0, 1) := dK_d_56.2.2.1
theorem dX11_goOnBits_5 : decode cX11_goOnBits 5 = .ok (.istore_n 1, 1) := dK_d_56.2.2.2.1
theorem dX11_goOnBits_6 : decode cX11_goOnBits 6 = .ok (.iconst 0, 1) := dK_d_56.2.2.2.2.1
theorem dX11_goOnBits_7 : decode cX11_goOnBits 7 = .ok (.istore_n 2, 1) := dK_d_56.2.2.2.2.2.1
theorem dX11_goOnBits_8 : decode cX11_goOnBits 8 = .ok (.iload_n 2, 1) := dK_d_56.2.2.2.2.2.2.1
theorem dX11_goOnBits_9 : decode cX11_goOnBits 9 = .ok (.aload_n 0, 1) := dK_d_56.2.2.2.2.2.2.2.1
theorem dK_d_57 : dk_P cX11_goOnBits [(10, (.invokevirtual 271, 3)), (13, (.if_icmp .ge 20, 3)), (16, (.iload_n 1, 1)), (17, (.iconst 1, 1)), (18, (.aload_n 0, 1)), (19, (.getfield 74, 3)), (22, (.iload_n 2, 1)), (23, (.iaload, 1))] := dk_of 10 (by decide +kernel)
theorem dX11_goOnBits_10 : decode cX11_goOnBits 10 = .ok (.invokevirtual 271, 3) := dK_d_57.1
theorem dX11_goOnBits_13 : decode cX11_goOnBits 13 = .ok (.if_icmp .ge 20, 3) := dK_d_57.2.1
theorem dX11_goOnBits_16 : decode cX11_goOnBits 16 = .ok (.iload_n 1, 1) := dK_d_57.2.2.1
theorem dX11_goOnBits_17 : decode cX11_goOnBits 17 = .ok (.iconst 1, 1) := dK_d_57.2.2.2.1
theorem dX11_goOnBits_18 : decode cX11_goOnBits 18 = .ok (.aload_n 0, 1) := dK_d_57.2.2.2.2.1
theorem dX11_goOnBits_19 : decode cX11_goOnBits 19 = .ok (.getfield 74, 3) := dK_d_57.2.2.2.2.2.1
theorem dX11_goOnBits_22 : decode cX11_goOnBits 22 = .ok (.iload_n 2, 1) := dK_d_57.2.2.2.2.2.2.1
theorem dX11_goOnBits_23 : decode cX11_goOnBits 23 = .ok (.iaload, 1) := dK_d_57.2.2.2.2.2.2.2.1
theorem dK_d_58 : dk_P cX11_goOnBits [(24, (.ishl, 1)), (25, (.ior, 1)), (26, (.istore_n 1, 1)), (27, (.iinc 2 1, 3)), (30, (.goto (-22), 3)), (33, (.iload_n 1, 1)), (34, (.ireturn, 1))] := dk_of 24 (by decide +kernel)
theorem dX11_goOnBits_24 : decode cX11_goOnBits 24 = .ok (.ishl, 1) := dK_d_58.1
theorem dX11_goOnBits_25 : decode cX11_goOnBits 25 = .ok (.ior, 1) := dK_d_58.2.1
theorem dX11_goOnBits_26 : decode cX11_goOnBits 26 = .ok (.istore_n 1, 1) := dK_d_58.2.2.1
theorem dX11_goOnBits_27 : decode cX11_goOnBits 27 = .ok (.iinc 2 1, 3) := dK_d_58.2.2.2.1
theorem dX11_goOnBits_30 : decode cX11_goOnBits 30 = .ok (.goto (-22), 3) := dK_d_58.2.2.2.2.1
theorem dX11_goOnBits_33 : decode cX11_goOnBits 33 = .ok (.iload_n 1, 1) := dK_d_58.2.2.2.2.2.1
theorem dX11_goOnBits_34 : decode cX11_goOnBits 34 = .ok (.ireturn, 1) := dK_d_58.2.2.2.2.2.2.1
theorem dK_d_59 : dk_P cX11_goOn [(0, (.aload_n 0, 1)), (1, (.invokevirtual 286, 3)), (4, (.ireturn, 1))] := dk_of 0 (by decide +kernel)
theorem dX11_goOn_0 : decode cX11_goOn 0 = .ok (.aload_n 0, 1) := dK_d_59.1
theorem dX11_goOn_1 : decode cX11_goOn 1 = .ok (.invokevirtual 286, 3) := dK_d_59.2.1
theorem dX11_goOn_4 : decode cX11_goOn 4 = .ok (.ireturn, 1) := dK_d_59.2.2.1
theorem dK_d_60 : dk_P cX11_tenThousandths [(0, (.ldc2_w 289, 3)), (3, (.aload_n 0, 1)), (4, (.iload_n 1, 1)), (5, (.iload_n 2, 1)), (6, (.iconst 3, 1)), (7, (.iload 4, 2)), (9, (.invokevirtual 242, 3)), (12, (.lmul, 1))] := dk_of 0 (by decide +kernel)
theorem dX11_tenThousandths_0 : decode cX11_tenThousandths 0 = .ok (.ldc2_w 289, 3) := dK_d_60.1
theorem dX11_tenThousandths_3 : decode cX11_tenThousandths 3 = .ok (.aload_n 0, 1) := dK_d_60.2.1
theorem dX11_tenThousandths_4 : decode cX11_tenThousandths 4 = .ok (.iload_n 1, 1) := dK_d_60.2.2.1
theorem dX11_tenThousandths_5 : decode cX11_tenThousandths 5 = .ok (.iload_n 2, 1) := dK_d_60.2.2.2.1
theorem dX11_tenThousandths_6 : decode cX11_tenThousandths 6 = .ok (.iconst 3, 1) := dK_d_60.2.2.2.2.1
theorem dX11_tenThousandths_7 : decode cX11_tenThousandths 7 = .ok (.iload 4, 2) := dK_d_60.2.2.2.2.2.1
theorem dX11_tenThousandths_9 : decode cX11_tenThousandths 9 = .ok (.invokevirtual 242, 3) := dK_d_60.2.2.2.2.2.2.1
theorem dX11_tenThousandths_12 : decode cX11_tenThousandths 12 = .ok (.lmul, 1) := dK_d_60.2.2.2.2.2.2.2.1
theorem dK_d_61 : dk_P cX11_tenThousandths [(13, (.aload_n 0, 1)), (14, (.invokevirtual 246, 3)), (17, (.ldiv, 1)), (18, (.lstore 5, 2)), (20, (.ldc2_w 289, 3)), (23, (.lstore 7, 2)), (25, (.iconst 0, 1)), (26, (.istore 9, 2))] := dk_of 13 (by decide +kernel)
theorem dX11_tenThousandths_13 : decode cX11_tenThousandths 13 = .ok (.aload_n 0, 1) := dK_d_61.1
theorem dX11_tenThousandths_14 : decode cX11_tenThousandths 14 = .ok (.invokevirtual 246, 3) := dK_d_61.2.1
theorem dX11_tenThousandths_17 : decode cX11_tenThousandths 17 = .ok (.ldiv, 1) := dK_d_61.2.2.1
theorem dX11_tenThousandths_18 : decode cX11_tenThousandths 18 = .ok (.lstore 5, 2) := dK_d_61.2.2.2.1
theorem dX11_tenThousandths_20 : decode cX11_tenThousandths 20 = .ok (.ldc2_w 289, 3) := dK_d_61.2.2.2.2.1
theorem dX11_tenThousandths_23 : decode cX11_tenThousandths 23 = .ok (.lstore 7, 2) := dK_d_61.2.2.2.2.2.1
theorem dX11_tenThousandths_25 : decode cX11_tenThousandths 25 = .ok (.iconst 0, 1) := dK_d_61.2.2.2.2.2.2.1
theorem dX11_tenThousandths_26 : decode cX11_tenThousandths 26 = .ok (.istore 9, 2) := dK_d_61.2.2.2.2.2.2.2.1
theorem dK_d_62 : dk_P cX11_tenThousandths [(28, (.iload 9, 2)), (30, (.iload_n 3, 1)), (31, (.if_icmp .ge 24, 3)), (34, (.lload 7, 2)), (36, (.ldc2_w 289, 3)), (39, (.lload 5, 2)), (41, (.lsub, 1)), (42, (.lmul, 1))] := dk_of 28 (by decide +kernel)
theorem dX11_tenThousandths_28 : decode cX11_tenThousandths 28 = .ok (.iload 9, 2) := dK_d_62.1
theorem dX11_tenThousandths_30 : decode cX11_tenThousandths 30 = .ok (.iload_n 3, 1) := dK_d_62.2.1
theorem dX11_tenThousandths_31 : decode cX11_tenThousandths 31 = .ok (.if_icmp .ge 24, 3) := dK_d_62.2.2.1
theorem dX11_tenThousandths_34 : decode cX11_tenThousandths 34 = .ok (.lload 7, 2) := dK_d_62.2.2.2.1
theorem dX11_tenThousandths_36 : decode cX11_tenThousandths 36 = .ok (.ldc2_w 289, 3) := dK_d_62.2.2.2.2.1
theorem dX11_tenThousandths_39 : decode cX11_tenThousandths 39 = .ok (.lload 5, 2) := dK_d_62.2.2.2.2.2.1
theorem dX11_tenThousandths_41 : decode cX11_tenThousandths 41 = .ok (.lsub, 1) := dK_d_62.2.2.2.2.2.2.1
theorem dX11_tenThousandths_42 : decode cX11_tenThousandths 42 = .ok (.lmul, 1) := dK_d_62.2.2.2.2.2.2.2.1
theorem dK_d_63 : dk_P cX11_tenThousandths [(43, (.ldc2_w 289, 3)), (46, (.ldiv, 1)), (47, (.lstore 7, 2)), (49, (.iinc 9 1, 3)), (52, (.goto (-24), 3)), (55, (.sipush 10000, 3)), (58, (.lload 7, 2)), (60, (.l2i, 1))] := dk_of 43 (by decide +kernel)
theorem dX11_tenThousandths_43 : decode cX11_tenThousandths 43 = .ok (.ldc2_w 289, 3) := dK_d_63.1
theorem dX11_tenThousandths_46 : decode cX11_tenThousandths 46 = .ok (.ldiv, 1) := dK_d_63.2.1
theorem dX11_tenThousandths_47 : decode cX11_tenThousandths 47 = .ok (.lstore 7, 2) := dK_d_63.2.2.1
theorem dX11_tenThousandths_49 : decode cX11_tenThousandths 49 = .ok (.iinc 9 1, 3) := dK_d_63.2.2.2.1
theorem dX11_tenThousandths_52 : decode cX11_tenThousandths 52 = .ok (.goto (-24), 3) := dK_d_63.2.2.2.2.1
theorem dX11_tenThousandths_55 : decode cX11_tenThousandths 55 = .ok (.sipush 10000, 3) := dK_d_63.2.2.2.2.2.1
theorem dX11_tenThousandths_58 : decode cX11_tenThousandths 58 = .ok (.lload 7, 2) := dK_d_63.2.2.2.2.2.2.1
theorem dX11_tenThousandths_60 : decode cX11_tenThousandths 60 = .ok (.l2i, 1) := dK_d_63.2.2.2.2.2.2.2.1
theorem dK_d_64 : dk_P cX11_tenThousandths [(61, (.isub, 1)), (62, (.ireturn, 1))] := dk_of 61 (by decide +kernel)
theorem dX11_tenThousandths_61 : decode cX11_tenThousandths 61 = .ok (.isub, 1) := dK_d_64.1
theorem dX11_tenThousandths_62 : decode cX11_tenThousandths 62 = .ok (.ireturn, 1) := dK_d_64.2.1
theorem dK_d_65 : dk_P cX11_aim [(0, (.aload_n 0, 1)), (1, (.iload_n 1, 1)), (2, (.invokevirtual 207, 3)), (5, (.ifCond .ne 7, 3)), (8, (.iconst (-1), 1)), (9, (.goto 50, 3)), (12, (.iload_n 2, 1)), (13, (.iconst 1, 1))] := dk_of 0 (by decide +kernel)
theorem dX11_aim_0 : decode cX11_aim 0 = .ok (.aload_n 0, 1) := dK_d_65.1
theorem dX11_aim_1 : decode cX11_aim 1 = .ok (.iload_n 1, 1) := dK_d_65.2.1
theorem dX11_aim_2 : decode cX11_aim 2 = .ok (.invokevirtual 207, 3) := dK_d_65.2.2.1
theorem dX11_aim_5 : decode cX11_aim 5 = .ok (.ifCond .ne 7, 3) := dK_d_65.2.2.2.1
theorem dX11_aim_8 : decode cX11_aim 8 = .ok (.iconst (-1), 1) := dK_d_65.2.2.2.2.1
theorem dX11_aim_9 : decode cX11_aim 9 = .ok (.goto 50, 3) := dK_d_65.2.2.2.2.2.1
theorem dX11_aim_12 : decode cX11_aim 12 = .ok (.iload_n 2, 1) := dK_d_65.2.2.2.2.2.2.1
theorem dX11_aim_13 : decode cX11_aim 13 = .ok (.iconst 1, 1) := dK_d_65.2.2.2.2.2.2.2.1
theorem dK_d_66 : dk_P cX11_aim [(14, (.if_icmp .lt 7, 3)), (17, (.iload_n 3, 1)), (18, (.ifCond .ge 8, 3)), (21, (.bipush (-4), 2)), (23, (.goto 36, 3)), (26, (.iload_n 2, 1)), (27, (.iconst 3, 1)), (28, (.if_icmp .gt 10, 3))] := dk_of 14 (by decide +kernel)
theorem dX11_aim_14 : decode cX11_aim 14 = .ok (.if_icmp .lt 7, 3) := dK_d_66.1
theorem dX11_aim_17 : decode cX11_aim 17 = .ok (.iload_n 3, 1) := dK_d_66.2.1
theorem dX11_aim_18 : decode cX11_aim 18 = .ok (.ifCond .ge 8, 3) := dK_d_66.2.2.1
theorem dX11_aim_21 : decode cX11_aim 21 = .ok (.bipush (-4), 2) := dK_d_66.2.2.2.1
theorem dX11_aim_23 : decode cX11_aim 23 = .ok (.goto 36, 3) := dK_d_66.2.2.2.2.1
theorem dX11_aim_26 : decode cX11_aim 26 = .ok (.iload_n 2, 1) := dK_d_66.2.2.2.2.2.1
theorem dX11_aim_27 : decode cX11_aim 27 = .ok (.iconst 3, 1) := dK_d_66.2.2.2.2.2.2.1
theorem dX11_aim_28 : decode cX11_aim 28 = .ok (.if_icmp .gt 10, 3) := dK_d_66.2.2.2.2.2.2.2.1
theorem dK_d_67 : dk_P cX11_aim [(31, (.iload_n 3, 1)), (32, (.sipush 999, 3)), (35, (.if_icmp .le 8, 3)), (38, (.bipush (-6), 2)), (40, (.goto 19, 3)), (43, (.iload 4, 2)), (45, (.iconst 0, 1)), (46, (.iconst 1, 1))] := dk_of 31 (by decide +kernel)
theorem dX11_aim_31 : decode cX11_aim 31 = .ok (.iload_n 3, 1) := dK_d_67.1
theorem dX11_aim_32 : decode cX11_aim 32 = .ok (.sipush 999, 3) := dK_d_67.2.1
theorem dX11_aim_35 : decode cX11_aim 35 = .ok (.if_icmp .le 8, 3) := dK_d_67.2.2.1
theorem dX11_aim_38 : decode cX11_aim 38 = .ok (.bipush (-6), 2) := dK_d_67.2.2.2.1
theorem dX11_aim_40 : decode cX11_aim 40 = .ok (.goto 19, 3) := dK_d_67.2.2.2.2.1
theorem dX11_aim_43 : decode cX11_aim 43 = .ok (.iload 4, 2) := dK_d_67.2.2.2.2.2.1
theorem dX11_aim_45 : decode cX11_aim 45 = .ok (.iconst 0, 1) := dK_d_67.2.2.2.2.2.2.1
theorem dX11_aim_46 : decode cX11_aim 46 = .ok (.iconst 1, 1) := dK_d_67.2.2.2.2.2.2.2.1
theorem dK_d_68 : dk_P cX11_aim [(47, (.invokestatic 126, 3)), (50, (.ifCond .ne 8, 3)), (53, (.bipush (-2), 2)), (55, (.goto 4, 3)), (58, (.iconst 0, 1)), (59, (.istore 5, 2)), (61, (.iload 5, 2)), (63, (.ifCond .eq 10, 3))] := dk_of 47 (by decide +kernel)
theorem dX11_aim_47 : decode cX11_aim 47 = .ok (.invokestatic 126, 3) := dK_d_68.1
theorem dX11_aim_50 : decode cX11_aim 50 = .ok (.ifCond .ne 8, 3) := dK_d_68.2.1
theorem dX11_aim_53 : decode cX11_aim 53 = .ok (.bipush (-2), 2) := dK_d_68.2.2.1
theorem dX11_aim_55 : decode cX11_aim 55 = .ok (.goto 4, 3) := dK_d_68.2.2.2.1
theorem dX11_aim_58 : decode cX11_aim 58 = .ok (.iconst 0, 1) := dK_d_68.2.2.2.2.1
theorem dX11_aim_59 : decode cX11_aim 59 = .ok (.istore 5, 2) := dK_d_68.2.2.2.2.2.1
theorem dX11_aim_61 : decode cX11_aim 61 = .ok (.iload 5, 2) := dK_d_68.2.2.2.2.2.2.1
theorem dX11_aim_63 : decode cX11_aim 63 = .ok (.ifCond .eq 10, 3) := dK_d_68.2.2.2.2.2.2.2.1
theorem dK_d_69 : dk_P cX11_aim [(66, (.aload_n 0, 1)), (67, (.iload 5, 2)), (69, (.invokevirtual 115, 3)), (72, (.ireturn, 1)), (73, (.iconst 0, 1)), (74, (.istore 6, 2)), (76, (.iconst (-1), 1)), (77, (.istore 7, 2))] := dk_of 66 (by decide +kernel)
theorem dX11_aim_66 : decode cX11_aim 66 = .ok (.aload_n 0, 1) := dK_d_69.1
theorem dX11_aim_67 : decode cX11_aim 67 = .ok (.iload 5, 2) := dK_d_69.2.1
theorem dX11_aim_69 : decode cX11_aim 69 = .ok (.invokevirtual 115, 3) := dK_d_69.2.2.1
theorem dX11_aim_72 : decode cX11_aim 72 = .ok (.ireturn, 1) := dK_d_69.2.2.2.1
theorem dX11_aim_73 : decode cX11_aim 73 = .ok (.iconst 0, 1) := dK_d_69.2.2.2.2.1
theorem dX11_aim_74 : decode cX11_aim 74 = .ok (.istore 6, 2) := dK_d_69.2.2.2.2.2.1
theorem dX11_aim_76 : decode cX11_aim 76 = .ok (.iconst (-1), 1) := dK_d_69.2.2.2.2.2.2.1
theorem dX11_aim_77 : decode cX11_aim 77 = .ok (.istore 7, 2) := dK_d_69.2.2.2.2.2.2.2.1
theorem dK_d_70 : dk_P cX11_aim [(79, (.iconst 0, 1)), (80, (.istore 8, 2)), (82, (.iload 8, 2)), (84, (.bipush 21, 2)), (86, (.if_icmp .ge 38, 3)), (89, (.aload_n 0, 1)), (90, (.iload_n 1, 1)), (91, (.iload 8, 2))] := dk_of 79 (by decide +kernel)
theorem dX11_aim_79 : decode cX11_aim 79 = .ok (.iconst 0, 1) := dK_d_70.1
theorem dX11_aim_80 : decode cX11_aim 80 = .ok (.istore 8, 2) := dK_d_70.2.1
theorem dX11_aim_82 : decode cX11_aim 82 = .ok (.iload 8, 2) := dK_d_70.2.2.1
theorem dX11_aim_84 : decode cX11_aim 84 = .ok (.bipush 21, 2) := dK_d_70.2.2.2.1
theorem dX11_aim_86 : decode cX11_aim 86 = .ok (.if_icmp .ge 38, 3) := dK_d_70.2.2.2.2.1
theorem dX11_aim_89 : decode cX11_aim 89 = .ok (.aload_n 0, 1) := dK_d_70.2.2.2.2.2.1
theorem dX11_aim_90 : decode cX11_aim 90 = .ok (.iload_n 1, 1) := dK_d_70.2.2.2.2.2.2.1
theorem dX11_aim_91 : decode cX11_aim 91 = .ok (.iload 8, 2) := dK_d_70.2.2.2.2.2.2.2.1
theorem dK_d_71 : dk_P cX11_aim [(93, (.iload_n 2, 1)), (94, (.iload_n 3, 1)), (95, (.invokevirtual 291, 3)), (98, (.istore 9, 2)), (100, (.iload 9, 2)), (102, (.iload 7, 2)), (104, (.if_icmp .gt 6, 3)), (107, (.goto 11, 3))] := dk_of 93 (by decide +kernel)
theorem dX11_aim_93 : decode cX11_aim 93 = .ok (.iload_n 2, 1) := dK_d_71.1
theorem dX11_aim_94 : decode cX11_aim 94 = .ok (.iload_n 3, 1) := dK_d_71.2.1
theorem dX11_aim_95 : decode cX11_aim 95 = .ok (.invokevirtual 291, 3) := dK_d_71.2.2.1
theorem dX11_aim_98 : decode cX11_aim 98 = .ok (.istore 9, 2) := dK_d_71.2.2.2.1
theorem dX11_aim_100 : decode cX11_aim 100 = .ok (.iload 9, 2) := dK_d_71.2.2.2.2.1
theorem dX11_aim_102 : decode cX11_aim 102 = .ok (.iload 7, 2) := dK_d_71.2.2.2.2.2.1
theorem dX11_aim_104 : decode cX11_aim 104 = .ok (.if_icmp .gt 6, 3) := dK_d_71.2.2.2.2.2.2.1
theorem dX11_aim_107 : decode cX11_aim 107 = .ok (.goto 11, 3) := dK_d_71.2.2.2.2.2.2.2.1
theorem dK_d_72 : dk_P cX11_aim [(110, (.iload 8, 2)), (112, (.istore 6, 2)), (114, (.iload 9, 2)), (116, (.istore 7, 2)), (118, (.iinc 8 1, 3)), (121, (.goto (-39), 3)), (124, (.iload 4, 2)), (126, (.ifCond .ne 8, 3))] := dk_of 110 (by decide +kernel)
theorem dX11_aim_110 : decode cX11_aim 110 = .ok (.iload 8, 2) := dK_d_72.1
theorem dX11_aim_112 : decode cX11_aim 112 = .ok (.istore 6, 2) := dK_d_72.2.1
theorem dX11_aim_114 : decode cX11_aim 114 = .ok (.iload 9, 2) := dK_d_72.2.2.1
theorem dX11_aim_116 : decode cX11_aim 116 = .ok (.istore 7, 2) := dK_d_72.2.2.2.1
theorem dX11_aim_118 : decode cX11_aim 118 = .ok (.iinc 8 1, 3) := dK_d_72.2.2.2.2.1
theorem dX11_aim_121 : decode cX11_aim 121 = .ok (.goto (-39), 3) := dK_d_72.2.2.2.2.2.1
theorem dX11_aim_124 : decode cX11_aim 124 = .ok (.iload 4, 2) := dK_d_72.2.2.2.2.2.2.1
theorem dX11_aim_126 : decode cX11_aim 126 = .ok (.ifCond .ne 8, 3) := dK_d_72.2.2.2.2.2.2.2.1
theorem dK_d_73 : dk_P cX11_aim [(129, (.iload 6, 2)), (131, (.goto 5, 3)), (134, (.iload 7, 2)), (136, (.ireturn, 1))] := dk_of 129 (by decide +kernel)
theorem dX11_aim_129 : decode cX11_aim 129 = .ok (.iload 6, 2) := dK_d_73.1
theorem dX11_aim_131 : decode cX11_aim 131 = .ok (.goto 5, 3) := dK_d_73.2.1
theorem dX11_aim_134 : decode cX11_aim 134 = .ok (.iload 7, 2) := dK_d_73.2.2.1
theorem dX11_aim_136 : decode cX11_aim 136 = .ok (.ireturn, 1) := dK_d_73.2.2.2.1
theorem dK_d_74 : dk_P cX11_tooLong [(0, (.aload_n 0, 1)), (1, (.getfield 295, 3)), (4, (.ifCond .ne 10, 3)), (7, (.aload_n 0, 1)), (8, (.bipush (-3), 2)), (10, (.invokevirtual 115, 3)), (13, (.ireturn, 1)), (14, (.iconst 0, 1))] := dk_of 0 (by decide +kernel)
theorem dX11_tooLong_0 : decode cX11_tooLong 0 = .ok (.aload_n 0, 1) := dK_d_74.1
theorem dX11_tooLong_1 : decode cX11_tooLong 1 = .ok (.getfield 295, 3) := dK_d_74.2.1
theorem dX11_tooLong_4 : decode cX11_tooLong 4 = .ok (.ifCond .ne 10, 3) := dK_d_74.2.2.1
theorem dX11_tooLong_7 : decode cX11_tooLong 7 = .ok (.aload_n 0, 1) := dK_d_74.2.2.2.1
theorem dX11_tooLong_8 : decode cX11_tooLong 8 = .ok (.bipush (-3), 2) := dK_d_74.2.2.2.2.1
theorem dX11_tooLong_10 : decode cX11_tooLong 10 = .ok (.invokevirtual 115, 3) := dK_d_74.2.2.2.2.2.1
theorem dX11_tooLong_13 : decode cX11_tooLong 13 = .ok (.ireturn, 1) := dK_d_74.2.2.2.2.2.2.1
theorem dX11_tooLong_14 : decode cX11_tooLong 14 = .ok (.iconst 0, 1) := dK_d_74.2.2.2.2.2.2.2.1
theorem dK_d_75 : dk_P cX11_tooLong [(15, (.istore_n 1, 1)), (16, (.iconst 0, 1)), (17, (.istore_n 2, 1)), (18, (.iload_n 2, 1)), (19, (.aload_n 0, 1)), (20, (.getfield 295, 3)), (23, (.if_icmp .ge 21, 3)), (26, (.iload_n 1, 1))] := dk_of 15 (by decide +kernel)
theorem dX11_tooLong_15 : decode cX11_tooLong 15 = .ok (.istore_n 1, 1) := dK_d_75.1
theorem dX11_tooLong_16 : decode cX11_tooLong 16 = .ok (.iconst 0, 1) := dK_d_75.2.1
theorem dX11_tooLong_17 : decode cX11_tooLong 17 = .ok (.istore_n 2, 1) := dK_d_75.2.2.1
theorem dX11_tooLong_18 : decode cX11_tooLong 18 = .ok (.iload_n 2, 1) := dK_d_75.2.2.2.1
theorem dX11_tooLong_19 : decode cX11_tooLong 19 = .ok (.aload_n 0, 1) := dK_d_75.2.2.2.2.1
theorem dX11_tooLong_20 : decode cX11_tooLong 20 = .ok (.getfield 295, 3) := dK_d_75.2.2.2.2.2.1
theorem dX11_tooLong_23 : decode cX11_tooLong 23 = .ok (.if_icmp .ge 21, 3) := dK_d_75.2.2.2.2.2.2.1
theorem dX11_tooLong_26 : decode cX11_tooLong 26 = .ok (.iload_n 1, 1) := dK_d_75.2.2.2.2.2.2.2.1
theorem dK_d_76 : dk_P cX11_tooLong [(27, (.aload_n 0, 1)), (28, (.getfield 77, 3)), (31, (.iload_n 2, 1)), (32, (.iaload, 1)), (33, (.bipush 50, 2)), (35, (.isub, 1)), (36, (.iadd, 1)), (37, (.istore_n 1, 1))] := dk_of 27 (by decide +kernel)
theorem dX11_tooLong_27 : decode cX11_tooLong 27 = .ok (.aload_n 0, 1) := dK_d_76.1
theorem dX11_tooLong_28 : decode cX11_tooLong 28 = .ok (.getfield 77, 3) := dK_d_76.2.1
theorem dX11_tooLong_31 : decode cX11_tooLong 31 = .ok (.iload_n 2, 1) := dK_d_76.2.2.1
theorem dX11_tooLong_32 : decode cX11_tooLong 32 = .ok (.iaload, 1) := dK_d_76.2.2.2.1
theorem dX11_tooLong_33 : decode cX11_tooLong 33 = .ok (.bipush 50, 2) := dK_d_76.2.2.2.2.1
theorem dX11_tooLong_35 : decode cX11_tooLong 35 = .ok (.isub, 1) := dK_d_76.2.2.2.2.2.1
theorem dX11_tooLong_36 : decode cX11_tooLong 36 = .ok (.iadd, 1) := dK_d_76.2.2.2.2.2.2.1
theorem dX11_tooLong_37 : decode cX11_tooLong 37 = .ok (.istore_n 1, 1) := dK_d_76.2.2.2.2.2.2.2.1
theorem dK_d_77 : dk_P cX11_tooLong [(38, (.iinc 2 1, 3)), (41, (.goto (-23), 3)), (44, (.iload_n 1, 1)), (45, (.ifCond .le 7, 3)), (48, (.iconst 1, 1)), (49, (.goto 12, 3)), (52, (.iload_n 1, 1)), (53, (.ifCond .ge 7, 3))] := dk_of 38 (by decide +kernel)
theorem dX11_tooLong_38 : decode cX11_tooLong 38 = .ok (.iinc 2 1, 3) := dK_d_77.1
theorem dX11_tooLong_41 : decode cX11_tooLong 41 = .ok (.goto (-23), 3) := dK_d_77.2.1
theorem dX11_tooLong_44 : decode cX11_tooLong 44 = .ok (.iload_n 1, 1) := dK_d_77.2.2.1
theorem dX11_tooLong_45 : decode cX11_tooLong 45 = .ok (.ifCond .le 7, 3) := dK_d_77.2.2.2.1
theorem dX11_tooLong_48 : decode cX11_tooLong 48 = .ok (.iconst 1, 1) := dK_d_77.2.2.2.2.1
theorem dX11_tooLong_49 : decode cX11_tooLong 49 = .ok (.goto 12, 3) := dK_d_77.2.2.2.2.2.1
theorem dX11_tooLong_52 : decode cX11_tooLong 52 = .ok (.iload_n 1, 1) := dK_d_77.2.2.2.2.2.2.1
theorem dX11_tooLong_53 : decode cX11_tooLong 53 = .ok (.ifCond .ge 7, 3) := dK_d_77.2.2.2.2.2.2.2.1
theorem dK_d_78 : dk_P cX11_tooLong [(56, (.iconst 2, 1)), (57, (.goto 4, 3)), (60, (.iconst 0, 1)), (61, (.ireturn, 1))] := dk_of 56 (by decide +kernel)
theorem dX11_tooLong_56 : decode cX11_tooLong 56 = .ok (.iconst 2, 1) := dK_d_78.1
theorem dX11_tooLong_57 : decode cX11_tooLong 57 = .ok (.goto 4, 3) := dK_d_78.2.1
theorem dX11_tooLong_60 : decode cX11_tooLong 60 = .ok (.iconst 0, 1) := dK_d_78.2.2.1
theorem dX11_tooLong_61 : decode cX11_tooLong 61 = .ok (.ireturn, 1) := dK_d_78.2.2.2.1
theorem dK_d_79 : dk_P cX11_unlike [(0, (.aload_n 0, 1)), (1, (.getfield 295, 3)), (4, (.ifCond .ne 10, 3)), (7, (.aload_n 0, 1)), (8, (.bipush (-3), 2)), (10, (.invokevirtual 115, 3)), (13, (.ireturn, 1)), (14, (.bipush 99, 2))] := dk_of 0 (by decide +kernel)
theorem dX11_unlike_0 : decode cX11_unlike 0 = .ok (.aload_n 0, 1) := dK_d_79.1
theorem dX11_unlike_1 : decode cX11_unlike 1 = .ok (.getfield 295, 3) := dK_d_79.2.1
theorem dX11_unlike_4 : decode cX11_unlike 4 = .ok (.ifCond .ne 10, 3) := dK_d_79.2.2.1
theorem dX11_unlike_7 : decode cX11_unlike 7 = .ok (.aload_n 0, 1) := dK_d_79.2.2.2.1
theorem dX11_unlike_8 : decode cX11_unlike 8 = .ok (.bipush (-3), 2) := dK_d_79.2.2.2.2.1
theorem dX11_unlike_10 : decode cX11_unlike 10 = .ok (.invokevirtual 115, 3) := dK_d_79.2.2.2.2.2.1
theorem dX11_unlike_13 : decode cX11_unlike 13 = .ok (.ireturn, 1) := dK_d_79.2.2.2.2.2.2.1
theorem dX11_unlike_14 : decode cX11_unlike 14 = .ok (.bipush 99, 2) := dK_d_79.2.2.2.2.2.2.2.1
theorem dK_d_80 : dk_P cX11_unlike [(16, (.istore_n 1, 1)), (17, (.iconst 0, 1)), (18, (.istore_n 2, 1)), (19, (.iconst 0, 1)), (20, (.istore_n 3, 1)), (21, (.iload_n 3, 1)), (22, (.aload_n 0, 1)), (23, (.getfield 295, 3))] := dk_of 16 (by decide +kernel)
theorem dX11_unlike_16 : decode cX11_unlike 16 = .ok (.istore_n 1, 1) := dK_d_80.1
theorem dX11_unlike_17 : decode cX11_unlike 17 = .ok (.iconst 0, 1) := dK_d_80.2.1
theorem dX11_unlike_18 : decode cX11_unlike 18 = .ok (.istore_n 2, 1) := dK_d_80.2.2.1
theorem dX11_unlike_19 : decode cX11_unlike 19 = .ok (.iconst 0, 1) := dK_d_80.2.2.2.1
theorem dX11_unlike_20 : decode cX11_unlike 20 = .ok (.istore_n 3, 1) := dK_d_80.2.2.2.2.1
theorem dX11_unlike_21 : decode cX11_unlike 21 = .ok (.iload_n 3, 1) := dK_d_80.2.2.2.2.2.1
theorem dX11_unlike_22 : decode cX11_unlike 22 = .ok (.aload_n 0, 1) := dK_d_80.2.2.2.2.2.2.1
theorem dX11_unlike_23 : decode cX11_unlike 23 = .ok (.getfield 295, 3) := dK_d_80.2.2.2.2.2.2.2.1
theorem dK_d_81 : dk_P cX11_unlike [(26, (.if_icmp .ge 51, 3)), (29, (.aload_n 0, 1)), (30, (.getfield 77, 3)), (33, (.iload_n 3, 1)), (34, (.iaload, 1)), (35, (.iload_n 1, 1)), (36, (.if_icmp .ge 12, 3)), (39, (.aload_n 0, 1))] := dk_of 26 (by decide +kernel)
theorem dX11_unlike_26 : decode cX11_unlike 26 = .ok (.if_icmp .ge 51, 3) := dK_d_81.1
theorem dX11_unlike_29 : decode cX11_unlike 29 = .ok (.aload_n 0, 1) := dK_d_81.2.1
theorem dX11_unlike_30 : decode cX11_unlike 30 = .ok (.getfield 77, 3) := dK_d_81.2.2.1
theorem dX11_unlike_33 : decode cX11_unlike 33 = .ok (.iload_n 3, 1) := dK_d_81.2.2.2.1
theorem dX11_unlike_34 : decode cX11_unlike 34 = .ok (.iaload, 1) := dK_d_81.2.2.2.2.1
theorem dX11_unlike_35 : decode cX11_unlike 35 = .ok (.iload_n 1, 1) := dK_d_81.2.2.2.2.2.1
theorem dX11_unlike_36 : decode cX11_unlike 36 = .ok (.if_icmp .ge 12, 3) := dK_d_81.2.2.2.2.2.2.1
theorem dX11_unlike_39 : decode cX11_unlike 39 = .ok (.aload_n 0, 1) := dK_d_81.2.2.2.2.2.2.2.1
theorem dK_d_82 : dk_P cX11_unlike [(40, (.getfield 77, 3)), (43, (.iload_n 3, 1)), (44, (.iaload, 1)), (45, (.goto 4, 3)), (48, (.iload_n 1, 1)), (49, (.istore_n 1, 1)), (50, (.aload_n 0, 1)), (51, (.getfield 77, 3))] := dk_of 40 (by decide +kernel)
theorem dX11_unlike_40 : decode cX11_unlike 40 = .ok (.getfield 77, 3) := dK_d_82.1
theorem dX11_unlike_43 : decode cX11_unlike 43 = .ok (.iload_n 3, 1) := dK_d_82.2.1
theorem dX11_unlike_44 : decode cX11_unlike 44 = .ok (.iaload, 1) := dK_d_82.2.2.1
theorem dX11_unlike_45 : decode cX11_unlike 45 = .ok (.goto 4, 3) := dK_d_82.2.2.2.1
theorem dX11_unlike_48 : decode cX11_unlike 48 = .ok (.iload_n 1, 1) := dK_d_82.2.2.2.2.1
theorem dX11_unlike_49 : decode cX11_unlike 49 = .ok (.istore_n 1, 1) := dK_d_82.2.2.2.2.2.1
theorem dX11_unlike_50 : decode cX11_unlike 50 = .ok (.aload_n 0, 1) := dK_d_82.2.2.2.2.2.2.1
theorem dX11_unlike_51 : decode cX11_unlike 51 = .ok (.getfield 77, 3) := dK_d_82.2.2.2.2.2.2.2.1
theorem dK_d_83 : dk_P cX11_unlike [(54, (.iload_n 3, 1)), (55, (.iaload, 1)), (56, (.iload_n 2, 1)), (57, (.if_icmp .le 12, 3)), (60, (.aload_n 0, 1)), (61, (.getfield 77, 3)), (64, (.iload_n 3, 1)), (65, (.iaload, 1))] := dk_of 54 (by decide +kernel)
theorem dX11_unlike_54 : decode cX11_unlike 54 = .ok (.iload_n 3, 1) := dK_d_83.1
theorem dX11_unlike_55 : decode cX11_unlike 55 = .ok (.iaload, 1) := dK_d_83.2.1
theorem dX11_unlike_56 : decode cX11_unlike 56 = .ok (.iload_n 2, 1) := dK_d_83.2.2.1
theorem dX11_unlike_57 : decode cX11_unlike 57 = .ok (.if_icmp .le 12, 3) := dK_d_83.2.2.2.1
theorem dX11_unlike_60 : decode cX11_unlike 60 = .ok (.aload_n 0, 1) := dK_d_83.2.2.2.2.1
theorem dX11_unlike_61 : decode cX11_unlike 61 = .ok (.getfield 77, 3) := dK_d_83.2.2.2.2.2.1
theorem dX11_unlike_64 : decode cX11_unlike 64 = .ok (.iload_n 3, 1) := dK_d_83.2.2.2.2.2.2.1
theorem dX11_unlike_65 : decode cX11_unlike 65 = .ok (.iaload, 1) := dK_d_83.2.2.2.2.2.2.2.1
theorem dK_d_84 : dk_P cX11_unlike [(66, (.goto 4, 3)), (69, (.iload_n 2, 1)), (70, (.istore_n 2, 1)), (71, (.iinc 3 1, 3)), (74, (.goto (-53), 3)), (77, (.iload_n 2, 1)), (78, (.iload_n 1, 1)), (79, (.isub, 1))] := dk_of 66 (by decide +kernel)
theorem dX11_unlike_66 : decode cX11_unlike 66 = .ok (.goto 4, 3) := dK_d_84.1
theorem dX11_unlike_69 : decode cX11_unlike 69 = .ok (.iload_n 2, 1) := dK_d_84.2.1
theorem dX11_unlike_70 : decode cX11_unlike 70 = .ok (.istore_n 2, 1) := dK_d_84.2.2.1
theorem dX11_unlike_71 : decode cX11_unlike 71 = .ok (.iinc 3 1, 3) := dK_d_84.2.2.2.1
theorem dX11_unlike_74 : decode cX11_unlike 74 = .ok (.goto (-53), 3) := dK_d_84.2.2.2.2.1
theorem dX11_unlike_77 : decode cX11_unlike 77 = .ok (.iload_n 2, 1) := dK_d_84.2.2.2.2.2.1
theorem dX11_unlike_78 : decode cX11_unlike 78 = .ok (.iload_n 1, 1) := dK_d_84.2.2.2.2.2.2.1
theorem dX11_unlike_79 : decode cX11_unlike 79 = .ok (.isub, 1) := dK_d_84.2.2.2.2.2.2.2.1
theorem dK_d_85 : dk_P cX11_unlike [(80, (.ireturn, 1))] := dk_of 80 (by decide +kernel)
theorem dX11_unlike_80 : decode cX11_unlike 80 = .ok (.ireturn, 1) := dK_d_85.1
theorem dK_d_86 : dk_P cX11_isMovedFrom [(0, (.iload_n 1, 1)), (1, (.istore_n 3, 1)), (2, (.iload_n 3, 1)), (3, (.aload_n 0, 1)), (4, (.getfield 295, 3)), (7, (.if_icmp .ge 44, 3)), (10, (.iconst 0, 1)), (11, (.istore 4, 2))] := dk_of 0 (by decide +kernel)
theorem dX11_isMovedFrom_0 : decode cX11_isMovedFrom 0 = .ok (.iload_n 1, 1) := dK_d_86.1
theorem dX11_isMovedFrom_1 : decode cX11_isMovedFrom 1 = .ok (.istore_n 3, 1) := dK_d_86.2.1
theorem dX11_isMovedFrom_2 : decode cX11_isMovedFrom 2 = .ok (.iload_n 3, 1) := dK_d_86.2.2.1
theorem dX11_isMovedFrom_3 : decode cX11_isMovedFrom 3 = .ok (.aload_n 0, 1) := dK_d_86.2.2.2.1
theorem dX11_isMovedFrom_4 : decode cX11_isMovedFrom 4 = .ok (.getfield 295, 3) := dK_d_86.2.2.2.2.1
theorem dX11_isMovedFrom_7 : decode cX11_isMovedFrom 7 = .ok (.if_icmp .ge 44, 3) := dK_d_86.2.2.2.2.2.1
theorem dX11_isMovedFrom_10 : decode cX11_isMovedFrom 10 = .ok (.iconst 0, 1) := dK_d_86.2.2.2.2.2.2.1
theorem dX11_isMovedFrom_11 : decode cX11_isMovedFrom 11 = .ok (.istore 4, 2) := dK_d_86.2.2.2.2.2.2.2.1
theorem dK_d_87 : dk_P cX11_isMovedFrom [(13, (.iload 4, 2)), (15, (.iload_n 1, 1)), (16, (.if_icmp .ge 29, 3)), (19, (.aload_n 0, 1)), (20, (.getfield 77, 3)), (23, (.iload_n 3, 1)), (24, (.iaload, 1)), (25, (.aload_n 0, 1))] := dk_of 13 (by decide +kernel)
theorem dX11_isMovedFrom_13 : decode cX11_isMovedFrom 13 = .ok (.iload 4, 2) := dK_d_87.1
theorem dX11_isMovedFrom_15 : decode cX11_isMovedFrom 15 = .ok (.iload_n 1, 1) := dK_d_87.2.1
theorem dX11_isMovedFrom_16 : decode cX11_isMovedFrom 16 = .ok (.if_icmp .ge 29, 3) := dK_d_87.2.2.1
theorem dX11_isMovedFrom_19 : decode cX11_isMovedFrom 19 = .ok (.aload_n 0, 1) := dK_d_87.2.2.2.1
theorem dX11_isMovedFrom_20 : decode cX11_isMovedFrom 20 = .ok (.getfield 77, 3) := dK_d_87.2.2.2.2.1
theorem dX11_isMovedFrom_23 : decode cX11_isMovedFrom 23 = .ok (.iload_n 3, 1) := dK_d_87.2.2.2.2.2.1
theorem dX11_isMovedFrom_24 : decode cX11_isMovedFrom 24 = .ok (.iaload, 1) := dK_d_87.2.2.2.2.2.2.1
theorem dX11_isMovedFrom_25 : decode cX11_isMovedFrom 25 = .ok (.aload_n 0, 1) := dK_d_87.2.2.2.2.2.2.2.1
theorem dK_d_88 : dk_P cX11_isMovedFrom [(26, (.getfield 77, 3)), (29, (.iload 4, 2)), (31, (.iaload, 1)), (32, (.iload_n 2, 1)), (33, (.isub, 1)), (34, (.if_icmp .le 5, 3)), (37, (.iconst 0, 1)), (38, (.ireturn, 1))] := dk_of 26 (by decide +kernel)
theorem dX11_isMovedFrom_26 : decode cX11_isMovedFrom 26 = .ok (.getfield 77, 3) := dK_d_88.1
theorem dX11_isMovedFrom_29 : decode cX11_isMovedFrom 29 = .ok (.iload 4, 2) := dK_d_88.2.1
theorem dX11_isMovedFrom_31 : decode cX11_isMovedFrom 31 = .ok (.iaload, 1) := dK_d_88.2.2.1
theorem dX11_isMovedFrom_32 : decode cX11_isMovedFrom 32 = .ok (.iload_n 2, 1) := dK_d_88.2.2.2.1
theorem dX11_isMovedFrom_33 : decode cX11_isMovedFrom 33 = .ok (.isub, 1) := dK_d_88.2.2.2.2.1
theorem dX11_isMovedFrom_34 : decode cX11_isMovedFrom 34 = .ok (.if_icmp .le 5, 3) := dK_d_88.2.2.2.2.2.1
theorem dX11_isMovedFrom_37 : decode cX11_isMovedFrom 37 = .ok (.iconst 0, 1) := dK_d_88.2.2.2.2.2.2.1
theorem dX11_isMovedFrom_38 : decode cX11_isMovedFrom 38 = .ok (.ireturn, 1) := dK_d_88.2.2.2.2.2.2.2.1
theorem dK_d_89 : dk_P cX11_isMovedFrom [(39, (.iinc 4 1, 3)), (42, (.goto (-29), 3)), (45, (.iinc 3 1, 3)), (48, (.goto (-46), 3)), (51, (.iconst 1, 1)), (52, (.ireturn, 1))] := dk_of 39 (by decide +kernel)
theorem dX11_isMovedFrom_39 : decode cX11_isMovedFrom 39 = .ok (.iinc 4 1, 3) := dK_d_89.1
theorem dX11_isMovedFrom_42 : decode cX11_isMovedFrom 42 = .ok (.goto (-29), 3) := dK_d_89.2.1
theorem dX11_isMovedFrom_45 : decode cX11_isMovedFrom 45 = .ok (.iinc 3 1, 3) := dK_d_89.2.2.1
theorem dX11_isMovedFrom_48 : decode cX11_isMovedFrom 48 = .ok (.goto (-46), 3) := dK_d_89.2.2.2.1
theorem dX11_isMovedFrom_51 : decode cX11_isMovedFrom 51 = .ok (.iconst 1, 1) := dK_d_89.2.2.2.2.1
theorem dX11_isMovedFrom_52 : decode cX11_isMovedFrom 52 = .ok (.ireturn, 1) := dK_d_89.2.2.2.2.2.1
theorem dK_d_90 : dk_P cX11_moved [(0, (.iload_n 1, 1)), (1, (.iconst 1, 1)), (2, (.bipush 99, 2)), (4, (.invokestatic 108, 3)), (7, (.istore_n 2, 1)), (8, (.iload_n 2, 1)), (9, (.ifCond .eq 9, 3)), (12, (.aload_n 0, 1))] := dk_of 0 (by decide +kernel)
theorem dX11_moved_0 : decode cX11_moved 0 = .ok (.iload_n 1, 1) := dK_d_90.1
theorem dX11_moved_1 : decode cX11_moved 1 = .ok (.iconst 1, 1) := dK_d_90.2.1
theorem dX11_moved_2 : decode cX11_moved 2 = .ok (.bipush 99, 2) := dK_d_90.2.2.1
theorem dX11_moved_4 : decode cX11_moved 4 = .ok (.invokestatic 108, 3) := dK_d_90.2.2.2.1
theorem dX11_moved_7 : decode cX11_moved 7 = .ok (.istore_n 2, 1) := dK_d_90.2.2.2.2.1
theorem dX11_moved_8 : decode cX11_moved 8 = .ok (.iload_n 2, 1) := dK_d_90.2.2.2.2.2.1
theorem dX11_moved_9 : decode cX11_moved 9 = .ok (.ifCond .eq 9, 3) := dK_d_90.2.2.2.2.2.2.1
theorem dX11_moved_12 : decode cX11_moved 12 = .ok (.aload_n 0, 1) := dK_d_90.2.2.2.2.2.2.2.1
theorem dK_d_91 : dk_P cX11_moved [(13, (.iload_n 2, 1)), (14, (.invokevirtual 115, 3)), (17, (.ireturn, 1)), (18, (.iconst 1, 1)), (19, (.istore_n 3, 1)), (20, (.iload_n 3, 1)), (21, (.aload_n 0, 1)), (22, (.getfield 295, 3))] := dk_of 13 (by decide +kernel)
theorem dX11_moved_13 : decode cX11_moved 13 = .ok (.iload_n 2, 1) := dK_d_91.1
theorem dX11_moved_14 : decode cX11_moved 14 = .ok (.invokevirtual 115, 3) := dK_d_91.2.1
theorem dX11_moved_17 : decode cX11_moved 17 = .ok (.ireturn, 1) := dK_d_91.2.2.1
theorem dX11_moved_18 : decode cX11_moved 18 = .ok (.iconst 1, 1) := dK_d_91.2.2.2.1
theorem dX11_moved_19 : decode cX11_moved 19 = .ok (.istore_n 3, 1) := dK_d_91.2.2.2.2.1
theorem dX11_moved_20 : decode cX11_moved 20 = .ok (.iload_n 3, 1) := dK_d_91.2.2.2.2.2.1
theorem dX11_moved_21 : decode cX11_moved 21 = .ok (.aload_n 0, 1) := dK_d_91.2.2.2.2.2.2.1
theorem dX11_moved_22 : decode cX11_moved 22 = .ok (.getfield 295, 3) := dK_d_91.2.2.2.2.2.2.2.1
theorem dK_d_92 : dk_P cX11_moved [(25, (.if_icmp .ge 20, 3)), (28, (.aload_n 0, 1)), (29, (.iload_n 3, 1)), (30, (.iload_n 1, 1)), (31, (.invokevirtual 298, 3)), (34, (.ifCond .eq 5, 3)), (37, (.iload_n 3, 1)), (38, (.ireturn, 1))] := dk_of 25 (by decide +kernel)
theorem dX11_moved_25 : decode cX11_moved 25 = .ok (.if_icmp .ge 20, 3) := dK_d_92.1
theorem dX11_moved_28 : decode cX11_moved 28 = .ok (.aload_n 0, 1) := dK_d_92.2.1
theorem dX11_moved_29 : decode cX11_moved 29 = .ok (.iload_n 3, 1) := dK_d_92.2.2.1
theorem dX11_moved_30 : decode cX11_moved 30 = .ok (.iload_n 1, 1) := dK_d_92.2.2.2.1
theorem dX11_moved_31 : decode cX11_moved 31 = .ok (.invokevirtual 298, 3) := dK_d_92.2.2.2.2.1
theorem dX11_moved_34 : decode cX11_moved 34 = .ok (.ifCond .eq 5, 3) := dK_d_92.2.2.2.2.2.1
theorem dX11_moved_37 : decode cX11_moved 37 = .ok (.iload_n 3, 1) := dK_d_92.2.2.2.2.2.2.1
theorem dX11_moved_38 : decode cX11_moved 38 = .ok (.ireturn, 1) := dK_d_92.2.2.2.2.2.2.2.1
theorem dK_d_93 : dk_P cX11_moved [(39, (.iinc 3 1, 3)), (42, (.goto (-22), 3)), (45, (.bipush (-9), 2)), (47, (.ireturn, 1))] := dk_of 39 (by decide +kernel)
theorem dX11_moved_39 : decode cX11_moved 39 = .ok (.iinc 3 1, 3) := dK_d_93.1
theorem dX11_moved_42 : decode cX11_moved 42 = .ok (.goto (-22), 3) := dK_d_93.2.1
theorem dX11_moved_45 : decode cX11_moved 45 = .ok (.bipush (-9), 2) := dK_d_93.2.2.1
theorem dX11_moved_47 : decode cX11_moved 47 = .ok (.ireturn, 1) := dK_d_93.2.2.2.1
theorem dK_d_94 : dk_P cX11_gusts [(0, (.aload_n 0, 1)), (1, (.iload_n 1, 1)), (2, (.invokevirtual 207, 3)), (5, (.ifCond .ne 7, 3)), (8, (.iconst (-1), 1)), (9, (.goto 4, 3)), (12, (.iconst 0, 1)), (13, (.istore_n 2, 1))] := dk_of 0 (by decide +kernel)
theorem dX11_gusts_0 : decode cX11_gusts 0 = .ok (.aload_n 0, 1) := dK_d_94.1
theorem dX11_gusts_1 : decode cX11_gusts 1 = .ok (.iload_n 1, 1) := dK_d_94.2.1
theorem dX11_gusts_2 : decode cX11_gusts 2 = .ok (.invokevirtual 207, 3) := dK_d_94.2.2.1
theorem dX11_gusts_5 : decode cX11_gusts 5 = .ok (.ifCond .ne 7, 3) := dK_d_94.2.2.2.1
theorem dX11_gusts_8 : decode cX11_gusts 8 = .ok (.iconst (-1), 1) := dK_d_94.2.2.2.2.1
theorem dX11_gusts_9 : decode cX11_gusts 9 = .ok (.goto 4, 3) := dK_d_94.2.2.2.2.2.1
theorem dX11_gusts_12 : decode cX11_gusts 12 = .ok (.iconst 0, 1) := dK_d_94.2.2.2.2.2.2.1
theorem dX11_gusts_13 : decode cX11_gusts 13 = .ok (.istore_n 2, 1) := dK_d_94.2.2.2.2.2.2.2.1
theorem dK_d_95 : dk_P cX11_gusts [(14, (.iconst 0, 1)), (15, (.istore_n 3, 1)), (16, (.iload_n 3, 1)), (17, (.aload_n 0, 1)), (18, (.getfield 295, 3)), (21, (.if_icmp .ge 31, 3)), (24, (.iload_n 2, 1)), (25, (.ifCond .ne 27, 3))] := dk_of 14 (by decide +kernel)
theorem dX11_gusts_14 : decode cX11_gusts 14 = .ok (.iconst 0, 1) := dK_d_95.1
theorem dX11_gusts_15 : decode cX11_gusts 15 = .ok (.istore_n 3, 1) := dK_d_95.2.1
theorem dX11_gusts_16 : decode cX11_gusts 16 = .ok (.iload_n 3, 1) := dK_d_95.2.2.1
theorem dX11_gusts_17 : decode cX11_gusts 17 = .ok (.aload_n 0, 1) := dK_d_95.2.2.2.1
theorem dX11_gusts_18 : decode cX11_gusts 18 = .ok (.getfield 295, 3) := dK_d_95.2.2.2.2.1
theorem dX11_gusts_21 : decode cX11_gusts 21 = .ok (.if_icmp .ge 31, 3) := dK_d_95.2.2.2.2.2.1
theorem dX11_gusts_24 : decode cX11_gusts 24 = .ok (.iload_n 2, 1) := dK_d_95.2.2.2.2.2.2.1
theorem dX11_gusts_25 : decode cX11_gusts 25 = .ok (.ifCond .ne 27, 3) := dK_d_95.2.2.2.2.2.2.2.1
theorem dK_d_96 : dk_P cX11_gusts [(28, (.aload_n 0, 1)), (29, (.getfield 77, 3)), (32, (.iload_n 3, 1)), (33, (.iaload, 1)), (34, (.bipush 18, 2)), (36, (.if_icmp .le 8, 3)), (39, (.bipush (-3), 2)), (41, (.goto 4, 3))] := dk_of 28 (by decide +kernel)
theorem dX11_gusts_28 : decode cX11_gusts 28 = .ok (.aload_n 0, 1) := dK_d_96.1
theorem dX11_gusts_29 : decode cX11_gusts 29 = .ok (.getfield 77, 3) := dK_d_96.2.1
theorem dX11_gusts_32 : decode cX11_gusts 32 = .ok (.iload_n 3, 1) := dK_d_96.2.2.1
theorem dX11_gusts_33 : decode cX11_gusts 33 = .ok (.iaload, 1) := dK_d_96.2.2.2.1
theorem dX11_gusts_34 : decode cX11_gusts 34 = .ok (.bipush 18, 2) := dK_d_96.2.2.2.2.1
theorem dX11_gusts_36 : decode cX11_gusts 36 = .ok (.if_icmp .le 8, 3) := dK_d_96.2.2.2.2.2.1
theorem dX11_gusts_39 : decode cX11_gusts 39 = .ok (.bipush (-3), 2) := dK_d_96.2.2.2.2.2.2.1
theorem dX11_gusts_41 : decode cX11_gusts 41 = .ok (.goto 4, 3) := dK_d_96.2.2.2.2.2.2.2.1
theorem dK_d_97 : dk_P cX11_gusts [(44, (.iconst 0, 1)), (45, (.istore_n 2, 1)), (46, (.iinc 3 1, 3)), (49, (.goto (-33), 3)), (52, (.iload_n 2, 1)), (53, (.ifCond .eq 9, 3)), (56, (.aload_n 0, 1)), (57, (.iload_n 2, 1))] := dk_of 44 (by decide +kernel)
theorem dX11_gusts_44 : decode cX11_gusts 44 = .ok (.iconst 0, 1) := dK_d_97.1
theorem dX11_gusts_45 : decode cX11_gusts 45 = .ok (.istore_n 2, 1) := dK_d_97.2.1
theorem dX11_gusts_46 : decode cX11_gusts 46 = .ok (.iinc 3 1, 3) := dK_d_97.2.2.1
theorem dX11_gusts_49 : decode cX11_gusts 49 = .ok (.goto (-33), 3) := dK_d_97.2.2.2.1
theorem dX11_gusts_52 : decode cX11_gusts 52 = .ok (.iload_n 2, 1) := dK_d_97.2.2.2.2.1
theorem dX11_gusts_53 : decode cX11_gusts 53 = .ok (.ifCond .eq 9, 3) := dK_d_97.2.2.2.2.2.1
theorem dX11_gusts_56 : decode cX11_gusts 56 = .ok (.aload_n 0, 1) := dK_d_97.2.2.2.2.2.2.1
theorem dX11_gusts_57 : decode cX11_gusts 57 = .ok (.iload_n 2, 1) := dK_d_97.2.2.2.2.2.2.2.1
theorem dK_d_98 : dk_P cX11_gusts [(58, (.invokevirtual 115, 3)), (61, (.ireturn, 1)), (62, (.aload_n 0, 1)), (63, (.getfield 157, 3)), (66, (.istore_n 3, 1)), (67, (.bipush (-9), 2)), (69, (.istore 4, 2)), (71, (.ldc2_w 257, 3))] := dk_of 58 (by decide +kernel)
theorem dX11_gusts_58 : decode cX11_gusts 58 = .ok (.invokevirtual 115, 3) := dK_d_98.1
theorem dX11_gusts_61 : decode cX11_gusts 61 = .ok (.ireturn, 1) := dK_d_98.2.1
theorem dX11_gusts_62 : decode cX11_gusts 62 = .ok (.aload_n 0, 1) := dK_d_98.2.2.1
theorem dX11_gusts_63 : decode cX11_gusts 63 = .ok (.getfield 157, 3) := dK_d_98.2.2.2.1
theorem dX11_gusts_66 : decode cX11_gusts 66 = .ok (.istore_n 3, 1) := dK_d_98.2.2.2.2.1
theorem dX11_gusts_67 : decode cX11_gusts 67 = .ok (.bipush (-9), 2) := dK_d_98.2.2.2.2.2.1
theorem dX11_gusts_69 : decode cX11_gusts 69 = .ok (.istore 4, 2) := dK_d_98.2.2.2.2.2.2.1
theorem dX11_gusts_71 : decode cX11_gusts 71 = .ok (.ldc2_w 257, 3) := dK_d_98.2.2.2.2.2.2.2.1
theorem dK_d_99 : dk_P cX11_gusts [(74, (.lstore 5, 2)), (76, (.iconst 0, 1)), (77, (.istore 7, 2)), (79, (.iload 7, 2)), (81, (.aload_n 0, 1)), (82, (.getfield 295, 3)), (85, (.if_icmp .ge 49, 3)), (88, (.aload_n 0, 1))] := dk_of 74 (by decide +kernel)
theorem dX11_gusts_74 : decode cX11_gusts 74 = .ok (.lstore 5, 2) := dK_d_99.1
theorem dX11_gusts_76 : decode cX11_gusts 76 = .ok (.iconst 0, 1) := dK_d_99.2.1
theorem dX11_gusts_77 : decode cX11_gusts 77 = .ok (.istore 7, 2) := dK_d_99.2.2.1
theorem dX11_gusts_79 : decode cX11_gusts 79 = .ok (.iload 7, 2) := dK_d_99.2.2.2.1
theorem dX11_gusts_81 : decode cX11_gusts 81 = .ok (.aload_n 0, 1) := dK_d_99.2.2.2.2.1
theorem dX11_gusts_82 : decode cX11_gusts 82 = .ok (.getfield 295, 3) := dK_d_99.2.2.2.2.2.1
theorem dX11_gusts_85 : decode cX11_gusts 85 = .ok (.if_icmp .ge 49, 3) := dK_d_99.2.2.2.2.2.2.1
theorem dX11_gusts_88 : decode cX11_gusts 88 = .ok (.aload_n 0, 1) := dK_d_99.2.2.2.2.2.2.2.1
theorem dK_d_100 : dk_P cX11_gusts [(89, (.aload_n 0, 1)), (90, (.getfield 77, 3)), (93, (.iload 7, 2)), (95, (.iaload, 1)), (96, (.bipush 9, 2)), (98, (.isub, 1)), (99, (.putfield 157, 3)), (102, (.aload_n 0, 1))] := dk_of 89 (by decide +kernel)
theorem dX11_gusts_89 : decode cX11_gusts 89 = .ok (.aload_n 0, 1) := dK_d_100.1
theorem dX11_gusts_90 : decode cX11_gusts 90 = .ok (.getfield 77, 3) := dK_d_100.2.1
theorem dX11_gusts_93 : decode cX11_gusts 93 = .ok (.iload 7, 2) := dK_d_100.2.2.1
theorem dX11_gusts_95 : decode cX11_gusts 95 = .ok (.iaload, 1) := dK_d_100.2.2.2.1
theorem dX11_gusts_96 : decode cX11_gusts 96 = .ok (.bipush 9, 2) := dK_d_100.2.2.2.2.1
theorem dX11_gusts_98 : decode cX11_gusts 98 = .ok (.isub, 1) := dK_d_100.2.2.2.2.2.1
theorem dX11_gusts_99 : decode cX11_gusts 99 = .ok (.putfield 157, 3) := dK_d_100.2.2.2.2.2.2.1
theorem dX11_gusts_102 : decode cX11_gusts 102 = .ok (.aload_n 0, 1) := dK_d_100.2.2.2.2.2.2.2.1
theorem dK_d_101 : dk_P cX11_gusts [(103, (.iload_n 1, 1)), (104, (.invokevirtual 254, 3)), (107, (.lstore 8, 2)), (109, (.lload 8, 2)), (111, (.lload 5, 2)), (113, (.lcmp, 1)), (114, (.ifCond .gt 6, 3)), (117, (.goto 11, 3))] := dk_of 103 (by decide +kernel)
theorem dX11_gusts_103 : decode cX11_gusts 103 = .ok (.iload_n 1, 1) := dK_d_101.1
theorem dX11_gusts_104 : decode cX11_gusts 104 = .ok (.invokevirtual 254, 3) := dK_d_101.2.1
theorem dX11_gusts_107 : decode cX11_gusts 107 = .ok (.lstore 8, 2) := dK_d_101.2.2.1
theorem dX11_gusts_109 : decode cX11_gusts 109 = .ok (.lload 8, 2) := dK_d_101.2.2.2.1
theorem dX11_gusts_111 : decode cX11_gusts 111 = .ok (.lload 5, 2) := dK_d_101.2.2.2.2.1
theorem dX11_gusts_113 : decode cX11_gusts 113 = .ok (.lcmp, 1) := dK_d_101.2.2.2.2.2.1
theorem dX11_gusts_114 : decode cX11_gusts 114 = .ok (.ifCond .gt 6, 3) := dK_d_101.2.2.2.2.2.2.1
theorem dX11_gusts_117 : decode cX11_gusts 117 = .ok (.goto 11, 3) := dK_d_101.2.2.2.2.2.2.2.1
theorem dK_d_102 : dk_P cX11_gusts [(120, (.iload 7, 2)), (122, (.istore 4, 2)), (124, (.lload 8, 2)), (126, (.lstore 5, 2)), (128, (.iinc 7 1, 3)), (131, (.goto (-52), 3)), (134, (.aload_n 0, 1)), (135, (.iload_n 3, 1))] := dk_of 120 (by decide +kernel)
theorem dX11_gusts_120 : decode cX11_gusts 120 = .ok (.iload 7, 2) := dK_d_102.1
theorem dX11_gusts_122 : decode cX11_gusts 122 = .ok (.istore 4, 2) := dK_d_102.2.1
theorem dX11_gusts_124 : decode cX11_gusts 124 = .ok (.lload 8, 2) := dK_d_102.2.2.1
theorem dX11_gusts_126 : decode cX11_gusts 126 = .ok (.lstore 5, 2) := dK_d_102.2.2.2.1
theorem dX11_gusts_128 : decode cX11_gusts 128 = .ok (.iinc 7 1, 3) := dK_d_102.2.2.2.2.1
theorem dX11_gusts_131 : decode cX11_gusts 131 = .ok (.goto (-52), 3) := dK_d_102.2.2.2.2.2.1
theorem dX11_gusts_134 : decode cX11_gusts 134 = .ok (.aload_n 0, 1) := dK_d_102.2.2.2.2.2.2.1
theorem dX11_gusts_135 : decode cX11_gusts 135 = .ok (.iload_n 3, 1) := dK_d_102.2.2.2.2.2.2.2.1
theorem dK_d_103 : dk_P cX11_gusts [(136, (.putfield 157, 3)), (139, (.iload 4, 2)), (141, (.ireturn, 1))] := dk_of 136 (by decide +kernel)
theorem dX11_gusts_136 : decode cX11_gusts 136 = .ok (.putfield 157, 3) := dK_d_103.1
theorem dX11_gusts_139 : decode cX11_gusts 139 = .ok (.iload 4, 2) := dK_d_103.2.1
theorem dX11_gusts_141 : decode cX11_gusts 141 = .ok (.ireturn, 1) := dK_d_103.2.2.1
theorem dK_d_104 : dk_P cX11_on [(0, (.aload_n 0, 1)), (1, (.iload_n 1, 1)), (2, (.invokevirtual 207, 3)), (5, (.ifCond .ne 7, 3)), (8, (.iconst (-1), 1)), (9, (.goto 31, 3)), (12, (.iload_n 2, 1)), (13, (.iconst 0, 1))] := dk_of 0 (by decide +kernel)
theorem dX11_on_0 : decode cX11_on 0 = .ok (.aload_n 0, 1) := dK_d_104.1
theorem dX11_on_1 : decode cX11_on 1 = .ok (.iload_n 1, 1) := dK_d_104.2.1
theorem dX11_on_2 : decode cX11_on 2 = .ok (.invokevirtual 207, 3) := dK_d_104.2.2.1
theorem dX11_on_5 : decode cX11_on 5 = .ok (.ifCond .ne 7, 3) := dK_d_104.2.2.2.1
theorem dX11_on_8 : decode cX11_on 8 = .ok (.iconst (-1), 1) := dK_d_104.2.2.2.2.1
theorem dX11_on_9 : decode cX11_on 9 = .ok (.goto 31, 3) := dK_d_104.2.2.2.2.2.1
theorem dX11_on_12 : decode cX11_on 12 = .ok (.iload_n 2, 1) := dK_d_104.2.2.2.2.2.2.1
theorem dX11_on_13 : decode cX11_on 13 = .ok (.iconst 0, 1) := dK_d_104.2.2.2.2.2.2.2.1
theorem dK_d_105 : dk_P cX11_on [(14, (.iconst 1, 1)), (15, (.invokestatic 126, 3)), (18, (.ifCond .ne 8, 3)), (21, (.bipush (-2), 2)), (23, (.goto 17, 3)), (26, (.aload_n 0, 1)), (27, (.invokevirtual 301, 3)), (30, (.iconst 2, 1))] := dk_of 14 (by decide +kernel)
theorem dX11_on_14 : decode cX11_on 14 = .ok (.iconst 1, 1) := dK_d_105.1
theorem dX11_on_15 : decode cX11_on 15 = .ok (.invokestatic 126, 3) := dK_d_105.2.1
theorem dX11_on_18 : decode cX11_on 18 = .ok (.ifCond .ne 8, 3) := dK_d_105.2.2.1
theorem dX11_on_21 : decode cX11_on 21 = .ok (.bipush (-2), 2) := dK_d_105.2.2.2.1
theorem dX11_on_23 : decode cX11_on 23 = .ok (.goto 17, 3) := dK_d_105.2.2.2.2.1
theorem dX11_on_26 : decode cX11_on 26 = .ok (.aload_n 0, 1) := dK_d_105.2.2.2.2.2.1
theorem dX11_on_27 : decode cX11_on 27 = .ok (.invokevirtual 301, 3) := dK_d_105.2.2.2.2.2.2.1
theorem dX11_on_30 : decode cX11_on 30 = .ok (.iconst 2, 1) := dK_d_105.2.2.2.2.2.2.2.1
theorem dK_d_106 : dk_P cX11_on [(31, (.if_icmp .le 8, 3)), (34, (.bipush (-3), 2)), (36, (.goto 4, 3)), (39, (.iconst 0, 1)), (40, (.istore_n 3, 1)), (41, (.iload_n 3, 1)), (42, (.ifCond .eq 9, 3)), (45, (.aload_n 0, 1))] := dk_of 31 (by decide +kernel)
theorem dX11_on_31 : decode cX11_on 31 = .ok (.if_icmp .le 8, 3) := dK_d_106.1
theorem dX11_on_34 : decode cX11_on 34 = .ok (.bipush (-3), 2) := dK_d_106.2.1
theorem dX11_on_36 : decode cX11_on 36 = .ok (.goto 4, 3) := dK_d_106.2.2.1
theorem dX11_on_39 : decode cX11_on 39 = .ok (.iconst 0, 1) := dK_d_106.2.2.2.1
theorem dX11_on_40 : decode cX11_on 40 = .ok (.istore_n 3, 1) := dK_d_106.2.2.2.2.1
theorem dX11_on_41 : decode cX11_on 41 = .ok (.iload_n 3, 1) := dK_d_106.2.2.2.2.2.1
theorem dX11_on_42 : decode cX11_on 42 = .ok (.ifCond .eq 9, 3) := dK_d_106.2.2.2.2.2.2.1
theorem dX11_on_45 : decode cX11_on 45 = .ok (.aload_n 0, 1) := dK_d_106.2.2.2.2.2.2.2.1
theorem dK_d_107 : dk_P cX11_on [(46, (.iload_n 3, 1)), (47, (.invokevirtual 238, 3)), (50, (.lreturn, 1)), (51, (.aload_n 0, 1)), (52, (.getfield 147, 3)), (55, (.aload_n 0, 1)), (56, (.getfield 105, 3)), (59, (.irem, 1))] := dk_of 46 (by decide +kernel)
theorem dX11_on_46 : decode cX11_on 46 = .ok (.iload_n 3, 1) := dK_d_107.1
theorem dX11_on_47 : decode cX11_on 47 = .ok (.invokevirtual 238, 3) := dK_d_107.2.1
theorem dX11_on_50 : decode cX11_on 50 = .ok (.lreturn, 1) := dK_d_107.2.2.1
theorem dX11_on_51 : decode cX11_on 51 = .ok (.aload_n 0, 1) := dK_d_107.2.2.2.1
theorem dX11_on_52 : decode cX11_on 52 = .ok (.getfield 147, 3) := dK_d_107.2.2.2.2.1
theorem dX11_on_55 : decode cX11_on 55 = .ok (.aload_n 0, 1) := dK_d_107.2.2.2.2.2.1
theorem dX11_on_56 : decode cX11_on 56 = .ok (.getfield 105, 3) := dK_d_107.2.2.2.2.2.2.1
theorem dX11_on_59 : decode cX11_on 59 = .ok (.irem, 1) := dK_d_107.2.2.2.2.2.2.2.1
theorem dK_d_108 : dk_P cX11_on [(60, (.istore 4, 2)), (62, (.aload_n 0, 1)), (63, (.getfield 105, 3)), (66, (.iload 4, 2)), (68, (.isub, 1)), (69, (.istore 5, 2)), (71, (.iconst 0, 1)), (72, (.istore 6, 2))] := dk_of 60 (by decide +kernel)
theorem dX11_on_60 : decode cX11_on 60 = .ok (.istore 4, 2) := dK_d_108.1
theorem dX11_on_62 : decode cX11_on 62 = .ok (.aload_n 0, 1) := dK_d_108.2.1
theorem dX11_on_63 : decode cX11_on 63 = .ok (.getfield 105, 3) := dK_d_108.2.2.1
theorem dX11_on_66 : decode cX11_on 66 = .ok (.iload 4, 2) := dK_d_108.2.2.2.1
theorem dX11_on_68 : decode cX11_on 68 = .ok (.isub, 1) := dK_d_108.2.2.2.2.1
theorem dX11_on_69 : decode cX11_on 69 = .ok (.istore 5, 2) := dK_d_108.2.2.2.2.2.1
theorem dX11_on_71 : decode cX11_on 71 = .ok (.iconst 0, 1) := dK_d_108.2.2.2.2.2.2.1
theorem dX11_on_72 : decode cX11_on 72 = .ok (.istore 6, 2) := dK_d_108.2.2.2.2.2.2.2.1
theorem dK_d_109 : dk_P cX11_on [(74, (.iload 6, 2)), (76, (.aload_n 0, 1)), (77, (.getfield 105, 3)), (80, (.if_icmp .ge 28, 3)), (83, (.aload_n 0, 1)), (84, (.getfield 80, 3)), (87, (.iload 6, 2)), (89, (.aload_n 0, 1))] := dk_of 74 (by decide +kernel)
theorem dX11_on_74 : decode cX11_on 74 = .ok (.iload 6, 2) := dK_d_109.1
theorem dX11_on_76 : decode cX11_on 76 = .ok (.aload_n 0, 1) := dK_d_109.2.1
theorem dX11_on_77 : decode cX11_on 77 = .ok (.getfield 105, 3) := dK_d_109.2.2.1
theorem dX11_on_80 : decode cX11_on 80 = .ok (.if_icmp .ge 28, 3) := dK_d_109.2.2.2.1
theorem dX11_on_83 : decode cX11_on 83 = .ok (.aload_n 0, 1) := dK_d_109.2.2.2.2.1
theorem dX11_on_84 : decode cX11_on 84 = .ok (.getfield 80, 3) := dK_d_109.2.2.2.2.2.1
theorem dX11_on_87 : decode cX11_on 87 = .ok (.iload 6, 2) := dK_d_109.2.2.2.2.2.2.1
theorem dX11_on_89 : decode cX11_on 89 = .ok (.aload_n 0, 1) := dK_d_109.2.2.2.2.2.2.2.1
theorem dK_d_110 : dk_P cX11_on [(90, (.iload 6, 2)), (92, (.invokevirtual 254, 3)), (95, (.aload_n 0, 1)), (96, (.invokevirtual 246, 3)), (99, (.ldiv, 1)), (100, (.l2i, 1)), (101, (.iastore, 1)), (102, (.iinc 6 1, 3))] := dk_of 90 (by decide +kernel)
theorem dX11_on_90 : decode cX11_on 90 = .ok (.iload 6, 2) := dK_d_110.1
theorem dX11_on_92 : decode cX11_on 92 = .ok (.invokevirtual 254, 3) := dK_d_110.2.1
theorem dX11_on_95 : decode cX11_on 95 = .ok (.aload_n 0, 1) := dK_d_110.2.2.1
theorem dX11_on_96 : decode cX11_on 96 = .ok (.invokevirtual 246, 3) := dK_d_110.2.2.2.1
theorem dX11_on_99 : decode cX11_on 99 = .ok (.ldiv, 1) := dK_d_110.2.2.2.2.1
theorem dX11_on_100 : decode cX11_on 100 = .ok (.l2i, 1) := dK_d_110.2.2.2.2.2.1
theorem dX11_on_101 : decode cX11_on 101 = .ok (.iastore, 1) := dK_d_110.2.2.2.2.2.2.1
theorem dX11_on_102 : decode cX11_on 102 = .ok (.iinc 6 1, 3) := dK_d_110.2.2.2.2.2.2.2.1
theorem dK_d_111 : dk_P cX11_on [(105, (.goto (-31), 3)), (108, (.lconst 0, 1)), (109, (.lstore 6, 2)), (111, (.iconst 0, 1)), (112, (.istore 8, 2)), (114, (.iload 8, 2)), (116, (.iconst 1, 1)), (117, (.iload 5, 2))] := dk_of 105 (by decide +kernel)
theorem dX11_on_105 : decode cX11_on 105 = .ok (.goto (-31), 3) := dK_d_111.1
theorem dX11_on_108 : decode cX11_on 108 = .ok (.lconst 0, 1) := dK_d_111.2.1
theorem dX11_on_109 : decode cX11_on 109 = .ok (.lstore 6, 2) := dK_d_111.2.2.1
theorem dX11_on_111 : decode cX11_on 111 = .ok (.iconst 0, 1) := dK_d_111.2.2.2.1
theorem dX11_on_112 : decode cX11_on 112 = .ok (.istore 8, 2) := dK_d_111.2.2.2.2.1
theorem dX11_on_114 : decode cX11_on 114 = .ok (.iload 8, 2) := dK_d_111.2.2.2.2.2.1
theorem dX11_on_116 : decode cX11_on 116 = .ok (.iconst 1, 1) := dK_d_111.2.2.2.2.2.2.1
theorem dX11_on_117 : decode cX11_on 117 = .ok (.iload 5, 2) := dK_d_111.2.2.2.2.2.2.2.1
theorem dK_d_112 : dk_P cX11_on [(119, (.ishl, 1)), (120, (.if_icmp .ge 94, 3)), (123, (.aload_n 0, 1)), (124, (.iconst 0, 1)), (125, (.aload_n 0, 1)), (126, (.getfield 147, 3)), (129, (.invokevirtual 213, 3)), (132, (.iconst 0, 1))] := dk_of 119 (by decide +kernel)
theorem dX11_on_119 : decode cX11_on 119 = .ok (.ishl, 1) := dK_d_112.1
theorem dX11_on_120 : decode cX11_on 120 = .ok (.if_icmp .ge 94, 3) := dK_d_112.2.1
theorem dX11_on_123 : decode cX11_on 123 = .ok (.aload_n 0, 1) := dK_d_112.2.2.1
theorem dX11_on_124 : decode cX11_on 124 = .ok (.iconst 0, 1) := dK_d_112.2.2.2.1
theorem dX11_on_125 : decode cX11_on 125 = .ok (.aload_n 0, 1) := dK_d_112.2.2.2.2.1
theorem dX11_on_126 : decode cX11_on 126 = .ok (.getfield 147, 3) := dK_d_112.2.2.2.2.2.1
theorem dX11_on_129 : decode cX11_on 129 = .ok (.invokevirtual 213, 3) := dK_d_112.2.2.2.2.2.2.1
theorem dX11_on_132 : decode cX11_on 132 = .ok (.iconst 0, 1) := dK_d_112.2.2.2.2.2.2.2.1
theorem dK_d_113 : dk_P cX11_on [(133, (.istore 9, 2)), (135, (.iload 9, 2)), (137, (.iload 5, 2)), (139, (.if_icmp .ge 43, 3)), (142, (.aload_n 0, 1)), (143, (.iload 4, 2)), (145, (.iload 9, 2)), (147, (.iadd, 1))] := dk_of 133 (by decide +kernel)
theorem dX11_on_133 : decode cX11_on 133 = .ok (.istore 9, 2) := dK_d_113.1
theorem dX11_on_135 : decode cX11_on 135 = .ok (.iload 9, 2) := dK_d_113.2.1
theorem dX11_on_137 : decode cX11_on 137 = .ok (.iload 5, 2) := dK_d_113.2.2.1
theorem dX11_on_139 : decode cX11_on 139 = .ok (.if_icmp .ge 43, 3) := dK_d_113.2.2.2.1
theorem dX11_on_142 : decode cX11_on 142 = .ok (.aload_n 0, 1) := dK_d_113.2.2.2.2.1
theorem dX11_on_143 : decode cX11_on 143 = .ok (.iload 4, 2) := dK_d_113.2.2.2.2.2.1
theorem dX11_on_145 : decode cX11_on 145 = .ok (.iload 9, 2) := dK_d_113.2.2.2.2.2.2.1
theorem dX11_on_147 : decode cX11_on 147 = .ok (.iadd, 1) := dK_d_113.2.2.2.2.2.2.2.1
theorem dK_d_114 : dk_P cX11_on [(148, (.iload 8, 2)), (150, (.iload 9, 2)), (152, (.ishr, 1)), (153, (.iconst 1, 1)), (154, (.iand, 1)), (155, (.iconst 1, 1)), (156, (.if_icmp .ne 16, 3)), (159, (.aload_n 0, 1))] := dk_of 148 (by decide +kernel)
theorem dX11_on_148 : decode cX11_on 148 = .ok (.iload 8, 2) := dK_d_114.1
theorem dX11_on_150 : decode cX11_on 150 = .ok (.iload 9, 2) := dK_d_114.2.1
theorem dX11_on_152 : decode cX11_on 152 = .ok (.ishr, 1) := dK_d_114.2.2.1
theorem dX11_on_153 : decode cX11_on 153 = .ok (.iconst 1, 1) := dK_d_114.2.2.2.1
theorem dX11_on_154 : decode cX11_on 154 = .ok (.iand, 1) := dK_d_114.2.2.2.2.1
theorem dX11_on_155 : decode cX11_on 155 = .ok (.iconst 1, 1) := dK_d_114.2.2.2.2.2.1
theorem dX11_on_156 : decode cX11_on 156 = .ok (.if_icmp .ne 16, 3) := dK_d_114.2.2.2.2.2.2.1
theorem dX11_on_159 : decode cX11_on 159 = .ok (.aload_n 0, 1) := dK_d_114.2.2.2.2.2.2.2.1
theorem dK_d_115 : dk_P cX11_on [(160, (.getfield 80, 3)), (163, (.iload 4, 2)), (165, (.iload 9, 2)), (167, (.iadd, 1)), (168, (.iaload, 1)), (169, (.goto 4, 3)), (172, (.iconst 0, 1)), (173, (.invokevirtual 262, 3))] := dk_of 160 (by decide +kernel)
theorem dX11_on_160 : decode cX11_on 160 = .ok (.getfield 80, 3) := dK_d_115.1
theorem dX11_on_163 : decode cX11_on 163 = .ok (.iload 4, 2) := dK_d_115.2.1
theorem dX11_on_165 : decode cX11_on 165 = .ok (.iload 9, 2) := dK_d_115.2.2.1
theorem dX11_on_167 : decode cX11_on 167 = .ok (.iadd, 1) := dK_d_115.2.2.2.1
theorem dX11_on_168 : decode cX11_on 168 = .ok (.iaload, 1) := dK_d_115.2.2.2.2.1
theorem dX11_on_169 : decode cX11_on 169 = .ok (.goto 4, 3) := dK_d_115.2.2.2.2.2.1
theorem dX11_on_172 : decode cX11_on 172 = .ok (.iconst 0, 1) := dK_d_115.2.2.2.2.2.2.1
theorem dX11_on_173 : decode cX11_on 173 = .ok (.invokevirtual 262, 3) := dK_d_115.2.2.2.2.2.2.2.1
theorem dK_d_116 : dk_P cX11_on [(176, (.iinc 9 1, 3)), (179, (.goto (-44), 3)), (182, (.aload_n 0, 1)), (183, (.invokevirtual 268, 3)), (186, (.lload 6, 2)), (188, (.aload_n 0, 1)), (189, (.iload_n 1, 1)), (190, (.invokevirtual 274, 3))] := dk_of 176 (by decide +kernel)
theorem dX11_on_176 : decode cX11_on 176 = .ok (.iinc 9 1, 3) := dK_d_116.1
theorem dX11_on_179 : decode cX11_on 179 = .ok (.goto (-44), 3) := dK_d_116.2.1
theorem dX11_on_182 : decode cX11_on 182 = .ok (.aload_n 0, 1) := dK_d_116.2.2.1
theorem dX11_on_183 : decode cX11_on 183 = .ok (.invokevirtual 268, 3) := dK_d_116.2.2.2.1
theorem dX11_on_186 : decode cX11_on 186 = .ok (.lload 6, 2) := dK_d_116.2.2.2.2.1
theorem dX11_on_188 : decode cX11_on 188 = .ok (.aload_n 0, 1) := dK_d_116.2.2.2.2.2.1
theorem dX11_on_189 : decode cX11_on 189 = .ok (.iload_n 1, 1) := dK_d_116.2.2.2.2.2.2.1
theorem dX11_on_190 : decode cX11_on 190 = .ok (.invokevirtual 274, 3) := dK_d_116.2.2.2.2.2.2.2.1
theorem dK_d_117 : dk_P cX11_on [(193, (.aload_n 0, 1)), (194, (.invokevirtual 271, 3)), (197, (.if_icmp .ge 7, 3)), (200, (.lconst 1, 1)), (201, (.goto 4, 3)), (204, (.lconst 0, 1)), (205, (.ladd, 1)), (206, (.lstore 6, 2))] := dk_of 193 (by decide +kernel)
theorem dX11_on_193 : decode cX11_on 193 = .ok (.aload_n 0, 1) := dK_d_117.1
theorem dX11_on_194 : decode cX11_on 194 = .ok (.invokevirtual 271, 3) := dK_d_117.2.1
theorem dX11_on_197 : decode cX11_on 197 = .ok (.if_icmp .ge 7, 3) := dK_d_117.2.2.1
theorem dX11_on_200 : decode cX11_on 200 = .ok (.lconst 1, 1) := dK_d_117.2.2.2.1
theorem dX11_on_201 : decode cX11_on 201 = .ok (.goto 4, 3) := dK_d_117.2.2.2.2.1
theorem dX11_on_204 : decode cX11_on 204 = .ok (.lconst 0, 1) := dK_d_117.2.2.2.2.2.1
theorem dX11_on_205 : decode cX11_on 205 = .ok (.ladd, 1) := dK_d_117.2.2.2.2.2.2.1
theorem dX11_on_206 : decode cX11_on 206 = .ok (.lstore 6, 2) := dK_d_117.2.2.2.2.2.2.2.1
theorem dK_d_118 : dk_P cX11_on [(208, (.iinc 8 1, 3)), (211, (.goto (-97), 3)), (214, (.lload 6, 2)), (216, (.lconst 1, 1)), (217, (.iload 5, 2)), (219, (.lshl, 1)), (220, (.iload_n 2, 1)), (221, (.invokestatic 250, 3))] := dk_of 208 (by decide +kernel)
theorem dX11_on_208 : decode cX11_on 208 = .ok (.iinc 8 1, 3) := dK_d_118.1
theorem dX11_on_211 : decode cX11_on 211 = .ok (.goto (-97), 3) := dK_d_118.2.1
theorem dX11_on_214 : decode cX11_on 214 = .ok (.lload 6, 2) := dK_d_118.2.2.1
theorem dX11_on_216 : decode cX11_on 216 = .ok (.lconst 1, 1) := dK_d_118.2.2.2.1
theorem dX11_on_217 : decode cX11_on 217 = .ok (.iload 5, 2) := dK_d_118.2.2.2.2.1
theorem dX11_on_219 : decode cX11_on 219 = .ok (.lshl, 1) := dK_d_118.2.2.2.2.2.1
theorem dX11_on_220 : decode cX11_on 220 = .ok (.iload_n 2, 1) := dK_d_118.2.2.2.2.2.2.1
theorem dX11_on_221 : decode cX11_on 221 = .ok (.invokestatic 250, 3) := dK_d_118.2.2.2.2.2.2.2.1
theorem dK_d_119 : dk_P cX11_on [(224, (.lreturn, 1))] := dk_of 224 (by decide +kernel)
theorem dX11_on_224 : decode cX11_on 224 = .ok (.lreturn, 1) := dK_d_119.1
theorem dK_d_120 : dk_P cX11_row [(0, (.iload_n 1, 1)), (1, (.iconst 0, 1)), (2, (.bipush 99, 2)), (4, (.invokestatic 108, 3)), (7, (.istore_n 2, 1)), (8, (.iload_n 2, 1)), (9, (.ifCond .ne 15, 3)), (12, (.aload_n 0, 1))] := dk_of 0 (by decide +kernel)
theorem dX11_row_0 : decode cX11_row 0 = .ok (.iload_n 1, 1) := dK_d_120.1
theorem dX11_row_1 : decode cX11_row 1 = .ok (.iconst 0, 1) := dK_d_120.2.1
theorem dX11_row_2 : decode cX11_row 2 = .ok (.bipush 99, 2) := dK_d_120.2.2.1
theorem dX11_row_4 : decode cX11_row 4 = .ok (.invokestatic 108, 3) := dK_d_120.2.2.2.1
theorem dX11_row_7 : decode cX11_row 7 = .ok (.istore_n 2, 1) := dK_d_120.2.2.2.2.1
theorem dX11_row_8 : decode cX11_row 8 = .ok (.iload_n 2, 1) := dK_d_120.2.2.2.2.2.1
theorem dX11_row_9 : decode cX11_row 9 = .ok (.ifCond .ne 15, 3) := dK_d_120.2.2.2.2.2.2.1
theorem dX11_row_12 : decode cX11_row 12 = .ok (.aload_n 0, 1) := dK_d_120.2.2.2.2.2.2.2.1
theorem dK_d_121 : dk_P cX11_row [(13, (.getfield 295, 3)), (16, (.bipush 12, 2)), (18, (.if_icmp .ne 6, 3)), (21, (.bipush (-6), 2)), (23, (.istore_n 2, 1)), (24, (.iload_n 2, 1)), (25, (.ifCond .eq 9, 3)), (28, (.aload_n 0, 1))] := dk_of 13 (by decide +kernel)
theorem dX11_row_13 : decode cX11_row 13 = .ok (.getfield 295, 3) := dK_d_121.1
theorem dX11_row_16 : decode cX11_row 16 = .ok (.bipush 12, 2) := dK_d_121.2.1
theorem dX11_row_18 : decode cX11_row 18 = .ok (.if_icmp .ne 6, 3) := dK_d_121.2.2.1
theorem dX11_row_21 : decode cX11_row 21 = .ok (.bipush (-6), 2) := dK_d_121.2.2.2.1
theorem dX11_row_23 : decode cX11_row 23 = .ok (.istore_n 2, 1) := dK_d_121.2.2.2.2.1
theorem dX11_row_24 : decode cX11_row 24 = .ok (.iload_n 2, 1) := dK_d_121.2.2.2.2.2.1
theorem dX11_row_25 : decode cX11_row 25 = .ok (.ifCond .eq 9, 3) := dK_d_121.2.2.2.2.2.2.1
theorem dX11_row_28 : decode cX11_row 28 = .ok (.aload_n 0, 1) := dK_d_121.2.2.2.2.2.2.2.1
theorem dK_d_122 : dk_P cX11_row [(29, (.iload_n 2, 1)), (30, (.invokevirtual 115, 3)), (33, (.ireturn, 1)), (34, (.aload_n 0, 1)), (35, (.getfield 77, 3)), (38, (.aload_n 0, 1)), (39, (.getfield 295, 3)), (42, (.iload_n 1, 1))] := dk_of 29 (by decide +kernel)
theorem dX11_row_29 : decode cX11_row 29 = .ok (.iload_n 2, 1) := dK_d_122.1
theorem dX11_row_30 : decode cX11_row 30 = .ok (.invokevirtual 115, 3) := dK_d_122.2.1
theorem dX11_row_33 : decode cX11_row 33 = .ok (.ireturn, 1) := dK_d_122.2.2.1
theorem dX11_row_34 : decode cX11_row 34 = .ok (.aload_n 0, 1) := dK_d_122.2.2.2.1
theorem dX11_row_35 : decode cX11_row 35 = .ok (.getfield 77, 3) := dK_d_122.2.2.2.2.1
theorem dX11_row_38 : decode cX11_row 38 = .ok (.aload_n 0, 1) := dK_d_122.2.2.2.2.2.1
theorem dX11_row_39 : decode cX11_row 39 = .ok (.getfield 295, 3) := dK_d_122.2.2.2.2.2.2.1
theorem dX11_row_42 : decode cX11_row 42 = .ok (.iload_n 1, 1) := dK_d_122.2.2.2.2.2.2.2.1
theorem dK_d_123 : dk_P cX11_row [(43, (.iastore, 1)), (44, (.aload_n 0, 1)), (45, (.dup, 1)), (46, (.getfield 295, 3)), (49, (.iconst 1, 1)), (50, (.iadd, 1)), (51, (.putfield 295, 3)), (54, (.aload_n 0, 1))] := dk_of 43 (by decide +kernel)
theorem dX11_row_43 : decode cX11_row 43 = .ok (.iastore, 1) := dK_d_123.1
theorem dX11_row_44 : decode cX11_row 44 = .ok (.aload_n 0, 1) := dK_d_123.2.1
theorem dX11_row_45 : decode cX11_row 45 = .ok (.dup, 1) := dK_d_123.2.2.1
theorem dX11_row_46 : decode cX11_row 46 = .ok (.getfield 295, 3) := dK_d_123.2.2.2.1
theorem dX11_row_49 : decode cX11_row 49 = .ok (.iconst 1, 1) := dK_d_123.2.2.2.2.1
theorem dX11_row_50 : decode cX11_row 50 = .ok (.iadd, 1) := dK_d_123.2.2.2.2.2.1
theorem dX11_row_51 : decode cX11_row 51 = .ok (.putfield 295, 3) := dK_d_123.2.2.2.2.2.2.1
theorem dX11_row_54 : decode cX11_row 54 = .ok (.aload_n 0, 1) := dK_d_123.2.2.2.2.2.2.2.1
theorem dK_d_124 : dk_P cX11_row [(55, (.getfield 295, 3)), (58, (.ireturn, 1))] := dk_of 55 (by decide +kernel)
theorem dX11_row_55 : decode cX11_row 55 = .ok (.getfield 295, 3) := dK_d_124.1
theorem dX11_row_58 : decode cX11_row 58 = .ok (.ireturn, 1) := dK_d_124.2.1
theorem dK_d_125 : dk_P cX11_isOther [(0, (.aload_n 0, 1)), (1, (.invokevirtual 150, 3)), (4, (.istore_n 2, 1)), (5, (.iload_n 2, 1)), (6, (.ifCond .ge 5, 3)), (9, (.iconst 1, 1)), (10, (.ireturn, 1)), (11, (.aload_n 0, 1))] := dk_of 0 (by decide +kernel)
theorem dX11_isOther_0 : decode cX11_isOther 0 = .ok (.aload_n 0, 1) := dK_d_125.1
theorem dX11_isOther_1 : decode cX11_isOther 1 = .ok (.invokevirtual 150, 3) := dK_d_125.2.1
theorem dX11_isOther_4 : decode cX11_isOther 4 = .ok (.istore_n 2, 1) := dK_d_125.2.2.1
theorem dX11_isOther_5 : decode cX11_isOther 5 = .ok (.iload_n 2, 1) := dK_d_125.2.2.2.1
theorem dX11_isOther_6 : decode cX11_isOther 6 = .ok (.ifCond .ge 5, 3) := dK_d_125.2.2.2.2.1
theorem dX11_isOther_9 : decode cX11_isOther 9 = .ok (.iconst 1, 1) := dK_d_125.2.2.2.2.2.1
theorem dX11_isOther_10 : decode cX11_isOther 10 = .ok (.ireturn, 1) := dK_d_125.2.2.2.2.2.2.1
theorem dX11_isOther_11 : decode cX11_isOther 11 = .ok (.aload_n 0, 1) := dK_d_125.2.2.2.2.2.2.2.1
theorem dK_d_126 : dk_P cX11_isOther [(12, (.invokevirtual 283, 3)), (15, (.istore_n 3, 1)), (16, (.aload_n 0, 1)), (17, (.iload_n 2, 1)), (18, (.iload_n 1, 1)), (19, (.ifCond .ge 8, 3)), (22, (.bipush (-9), 2)), (24, (.goto 10, 3))] := dk_of 12 (by decide +kernel)
theorem dX11_isOther_12 : decode cX11_isOther 12 = .ok (.invokevirtual 283, 3) := dK_d_126.1
theorem dX11_isOther_15 : decode cX11_isOther 15 = .ok (.istore_n 3, 1) := dK_d_126.2.1
theorem dX11_isOther_16 : decode cX11_isOther 16 = .ok (.aload_n 0, 1) := dK_d_126.2.2.1
theorem dX11_isOther_17 : decode cX11_isOther 17 = .ok (.iload_n 2, 1) := dK_d_126.2.2.2.1
theorem dX11_isOther_18 : decode cX11_isOther 18 = .ok (.iload_n 1, 1) := dK_d_126.2.2.2.2.1
theorem dX11_isOther_19 : decode cX11_isOther 19 = .ok (.ifCond .ge 8, 3) := dK_d_126.2.2.2.2.2.1
theorem dX11_isOther_22 : decode cX11_isOther 22 = .ok (.bipush (-9), 2) := dK_d_126.2.2.2.2.2.2.1
theorem dX11_isOther_24 : decode cX11_isOther 24 = .ok (.goto 10, 3) := dK_d_126.2.2.2.2.2.2.2.1
theorem dK_d_127 : dk_P cX11_isOther [(27, (.aload_n 0, 1)), (28, (.iload_n 2, 1)), (29, (.iload_n 1, 1)), (30, (.iconst 0, 1)), (31, (.invokevirtual 163, 3)), (34, (.iload_n 1, 1)), (35, (.invokevirtual 153, 3)), (38, (.aload_n 0, 1))] := dk_of 27 (by decide +kernel)
theorem dX11_isOther_27 : decode cX11_isOther 27 = .ok (.aload_n 0, 1) := dK_d_127.1
theorem dX11_isOther_28 : decode cX11_isOther 28 = .ok (.iload_n 2, 1) := dK_d_127.2.1
theorem dX11_isOther_29 : decode cX11_isOther 29 = .ok (.iload_n 1, 1) := dK_d_127.2.2.1
theorem dX11_isOther_30 : decode cX11_isOther 30 = .ok (.iconst 0, 1) := dK_d_127.2.2.2.1
theorem dX11_isOther_31 : decode cX11_isOther 31 = .ok (.invokevirtual 163, 3) := dK_d_127.2.2.2.2.1
theorem dX11_isOther_34 : decode cX11_isOther 34 = .ok (.iload_n 1, 1) := dK_d_127.2.2.2.2.2.1
theorem dX11_isOther_35 : decode cX11_isOther 35 = .ok (.invokevirtual 153, 3) := dK_d_127.2.2.2.2.2.2.1
theorem dX11_isOther_38 : decode cX11_isOther 38 = .ok (.aload_n 0, 1) := dK_d_127.2.2.2.2.2.2.2.1
theorem dK_d_128 : dk_P cX11_isOther [(39, (.invokevirtual 283, 3)), (42, (.iload_n 3, 1)), (43, (.if_icmp .eq 7, 3)), (46, (.iconst 1, 1)), (47, (.goto 4, 3)), (50, (.iconst 0, 1)), (51, (.ireturn, 1))] := dk_of 39 (by decide +kernel)
theorem dX11_isOther_39 : decode cX11_isOther 39 = .ok (.invokevirtual 283, 3) := dK_d_128.1
theorem dX11_isOther_42 : decode cX11_isOther 42 = .ok (.iload_n 3, 1) := dK_d_128.2.1
theorem dX11_isOther_43 : decode cX11_isOther 43 = .ok (.if_icmp .eq 7, 3) := dK_d_128.2.2.1
theorem dX11_isOther_46 : decode cX11_isOther 46 = .ok (.iconst 1, 1) := dK_d_128.2.2.2.1
theorem dX11_isOther_47 : decode cX11_isOther 47 = .ok (.goto 4, 3) := dK_d_128.2.2.2.2.1
theorem dX11_isOther_50 : decode cX11_isOther 50 = .ok (.iconst 0, 1) := dK_d_128.2.2.2.2.2.1
theorem dX11_isOther_51 : decode cX11_isOther 51 = .ok (.ireturn, 1) := dK_d_128.2.2.2.2.2.2.1
theorem dK_d_129 : dk_P cX11_judge [(0, (.aload_n 0, 1)), (1, (.getfield 295, 3)), (4, (.istore_n 1, 1)), (5, (.aload_n 0, 1)), (6, (.getfield 147, 3)), (9, (.istore_n 2, 1)), (10, (.aload_n 0, 1)), (11, (.iconst 0, 1))] := dk_of 0 (by decide +kernel)
theorem dX11_judge_0 : decode cX11_judge 0 = .ok (.aload_n 0, 1) := dK_d_129.1
theorem dX11_judge_1 : decode cX11_judge 1 = .ok (.getfield 295, 3) := dK_d_129.2.1
theorem dX11_judge_4 : decode cX11_judge 4 = .ok (.istore_n 1, 1) := dK_d_129.2.2.1
theorem dX11_judge_5 : decode cX11_judge 5 = .ok (.aload_n 0, 1) := dK_d_129.2.2.2.1
theorem dX11_judge_6 : decode cX11_judge 6 = .ok (.getfield 147, 3) := dK_d_129.2.2.2.2.1
theorem dX11_judge_9 : decode cX11_judge 9 = .ok (.istore_n 2, 1) := dK_d_129.2.2.2.2.2.1
theorem dX11_judge_10 : decode cX11_judge 10 = .ok (.aload_n 0, 1) := dK_d_129.2.2.2.2.2.2.1
theorem dX11_judge_11 : decode cX11_judge 11 = .ok (.iconst 0, 1) := dK_d_129.2.2.2.2.2.2.2.1
theorem dK_d_130 : dk_P cX11_judge [(12, (.putfield 295, 3)), (15, (.bipush (-9), 2)), (17, (.istore_n 3, 1)), (18, (.iconst 0, 1)), (19, (.istore 4, 2)), (21, (.iload 4, 2)), (23, (.iload_n 1, 1)), (24, (.if_icmp .ge 38, 3))] := dk_of 12 (by decide +kernel)
theorem dX11_judge_12 : decode cX11_judge 12 = .ok (.putfield 295, 3) := dK_d_130.1
theorem dX11_judge_15 : decode cX11_judge 15 = .ok (.bipush (-9), 2) := dK_d_130.2.1
theorem dX11_judge_17 : decode cX11_judge 17 = .ok (.istore_n 3, 1) := dK_d_130.2.2.1
theorem dX11_judge_18 : decode cX11_judge 18 = .ok (.iconst 0, 1) := dK_d_130.2.2.2.1
theorem dX11_judge_19 : decode cX11_judge 19 = .ok (.istore 4, 2) := dK_d_130.2.2.2.2.1
theorem dX11_judge_21 : decode cX11_judge 21 = .ok (.iload 4, 2) := dK_d_130.2.2.2.2.2.1
theorem dX11_judge_23 : decode cX11_judge 23 = .ok (.iload_n 1, 1) := dK_d_130.2.2.2.2.2.2.1
theorem dX11_judge_24 : decode cX11_judge 24 = .ok (.if_icmp .ge 38, 3) := dK_d_130.2.2.2.2.2.2.2.1
theorem dK_d_131 : dk_P cX11_judge [(27, (.iload_n 3, 1)), (28, (.ifCond .ge 34, 3)), (31, (.aload_n 0, 1)), (32, (.aload_n 0, 1)), (33, (.getfield 77, 3)), (36, (.iload 4, 2)), (38, (.iaload, 1)), (39, (.bipush 50, 2))] := dk_of 27 (by decide +kernel)
theorem dX11_judge_27 : decode cX11_judge 27 = .ok (.iload_n 3, 1) := dK_d_131.1
theorem dX11_judge_28 : decode cX11_judge 28 = .ok (.ifCond .ge 34, 3) := dK_d_131.2.1
theorem dX11_judge_31 : decode cX11_judge 31 = .ok (.aload_n 0, 1) := dK_d_131.2.2.1
theorem dX11_judge_32 : decode cX11_judge 32 = .ok (.aload_n 0, 1) := dK_d_131.2.2.2.1
theorem dX11_judge_33 : decode cX11_judge 33 = .ok (.getfield 77, 3) := dK_d_131.2.2.2.2.1
theorem dX11_judge_36 : decode cX11_judge 36 = .ok (.iload 4, 2) := dK_d_131.2.2.2.2.2.1
theorem dX11_judge_38 : decode cX11_judge 38 = .ok (.iaload, 1) := dK_d_131.2.2.2.2.2.2.1
theorem dX11_judge_39 : decode cX11_judge 39 = .ok (.bipush 50, 2) := dK_d_131.2.2.2.2.2.2.2.1
theorem dK_d_132 : dk_P cX11_judge [(41, (.isub, 1)), (42, (.invokevirtual 304, 3)), (45, (.ifCond .eq 8, 3)), (48, (.iload 4, 2)), (50, (.goto 5, 3)), (53, (.bipush (-9), 2)), (55, (.istore_n 3, 1)), (56, (.iinc 4 1, 3))] := dk_of 41 (by decide +kernel)
theorem dX11_judge_41 : decode cX11_judge 41 = .ok (.isub, 1) := dK_d_132.1
theorem dX11_judge_42 : decode cX11_judge 42 = .ok (.invokevirtual 304, 3) := dK_d_132.2.1
theorem dX11_judge_45 : decode cX11_judge 45 = .ok (.ifCond .eq 8, 3) := dK_d_132.2.2.1
theorem dX11_judge_48 : decode cX11_judge 48 = .ok (.iload 4, 2) := dK_d_132.2.2.2.1
theorem dX11_judge_50 : decode cX11_judge 50 = .ok (.goto 5, 3) := dK_d_132.2.2.2.2.1
theorem dX11_judge_53 : decode cX11_judge 53 = .ok (.bipush (-9), 2) := dK_d_132.2.2.2.2.2.1
theorem dX11_judge_55 : decode cX11_judge 55 = .ok (.istore_n 3, 1) := dK_d_132.2.2.2.2.2.2.1
theorem dX11_judge_56 : decode cX11_judge 56 = .ok (.iinc 4 1, 3) := dK_d_132.2.2.2.2.2.2.2.1
theorem dK_d_133 : dk_P cX11_judge [(59, (.goto (-38), 3)), (62, (.aload_n 0, 1)), (63, (.iload_n 2, 1)), (64, (.putfield 147, 3)), (67, (.iload_n 3, 1)), (68, (.ireturn, 1))] := dk_of 59 (by decide +kernel)
theorem dX11_judge_59 : decode cX11_judge 59 = .ok (.goto (-38), 3) := dK_d_133.1
theorem dX11_judge_62 : decode cX11_judge 62 = .ok (.aload_n 0, 1) := dK_d_133.2.1
theorem dX11_judge_63 : decode cX11_judge 63 = .ok (.iload_n 2, 1) := dK_d_133.2.2.1
theorem dX11_judge_64 : decode cX11_judge 64 = .ok (.putfield 147, 3) := dK_d_133.2.2.2.1
theorem dX11_judge_67 : decode cX11_judge 67 = .ok (.iload_n 3, 1) := dK_d_133.2.2.2.2.1
theorem dX11_judge_68 : decode cX11_judge 68 = .ok (.ireturn, 1) := dK_d_133.2.2.2.2.2.1
theorem dK_d_134 : dk_P cX11_clear [(0, (.aload_n 0, 1)), (1, (.getfield 295, 3)), (4, (.istore_n 1, 1)), (5, (.aload_n 0, 1)), (6, (.iconst 0, 1)), (7, (.putfield 295, 3)), (10, (.iload_n 1, 1)), (11, (.ireturn, 1))] := dk_of 0 (by decide +kernel)
theorem dX11_clear_0 : decode cX11_clear 0 = .ok (.aload_n 0, 1) := dK_d_134.1
theorem dX11_clear_1 : decode cX11_clear 1 = .ok (.getfield 295, 3) := dK_d_134.2.1
theorem dX11_clear_4 : decode cX11_clear 4 = .ok (.istore_n 1, 1) := dK_d_134.2.2.1
theorem dX11_clear_5 : decode cX11_clear 5 = .ok (.aload_n 0, 1) := dK_d_134.2.2.2.1
theorem dX11_clear_6 : decode cX11_clear 6 = .ok (.iconst 0, 1) := dK_d_134.2.2.2.2.1
theorem dX11_clear_7 : decode cX11_clear 7 = .ok (.putfield 295, 3) := dK_d_134.2.2.2.2.2.1
theorem dX11_clear_10 : decode cX11_clear 10 = .ok (.iload_n 1, 1) := dK_d_134.2.2.2.2.2.2.1
theorem dX11_clear_11 : decode cX11_clear 11 = .ok (.ireturn, 1) := dK_d_134.2.2.2.2.2.2.2.1
theorem dK_d_135 : dk_P cX11_findLengths [(0, (.iconst 0, 1)), (1, (.istore 4, 2)), (3, (.iload 4, 2)), (5, (.sipush 1000, 3)), (8, (.if_icmp .ge 14, 3)), (11, (.aload_n 3, 1)), (12, (.iload 4, 2)), (14, (.lconst 0, 1))] := dk_of 0 (by decide +kernel)
theorem dX11_findLengths_0 : decode cX11_findLengths 0 = .ok (.iconst 0, 1) := dK_d_135.1
theorem dX11_findLengths_1 : decode cX11_findLengths 1 = .ok (.istore 4, 2) := dK_d_135.2.1
theorem dX11_findLengths_3 : decode cX11_findLengths 3 = .ok (.iload 4, 2) := dK_d_135.2.2.1
theorem dX11_findLengths_5 : decode cX11_findLengths 5 = .ok (.sipush 1000, 3) := dK_d_135.2.2.2.1
theorem dX11_findLengths_8 : decode cX11_findLengths 8 = .ok (.if_icmp .ge 14, 3) := dK_d_135.2.2.2.2.1
theorem dX11_findLengths_11 : decode cX11_findLengths 11 = .ok (.aload_n 3, 1) := dK_d_135.2.2.2.2.2.1
theorem dX11_findLengths_12 : decode cX11_findLengths 12 = .ok (.iload 4, 2) := dK_d_135.2.2.2.2.2.2.1
theorem dX11_findLengths_14 : decode cX11_findLengths 14 = .ok (.lconst 0, 1) := dK_d_135.2.2.2.2.2.2.2.1
theorem dK_d_136 : dk_P cX11_findLengths [(15, (.lastore, 1)), (16, (.iinc 4 1, 3)), (19, (.goto (-16), 3)), (22, (.aload_n 0, 1)), (23, (.getfield 31, 3)), (26, (.iload_n 1, 1)), (27, (.iaload, 1)), (28, (.istore 4, 2))] := dk_of 15 (by decide +kernel)
theorem dX11_findLengths_15 : decode cX11_findLengths 15 = .ok (.lastore, 1) := dK_d_136.1
theorem dX11_findLengths_16 : decode cX11_findLengths 16 = .ok (.iinc 4 1, 3) := dK_d_136.2.1
theorem dX11_findLengths_19 : decode cX11_findLengths 19 = .ok (.goto (-16), 3) := dK_d_136.2.2.1
theorem dX11_findLengths_22 : decode cX11_findLengths 22 = .ok (.aload_n 0, 1) := dK_d_136.2.2.2.1
theorem dX11_findLengths_23 : decode cX11_findLengths 23 = .ok (.getfield 31, 3) := dK_d_136.2.2.2.2.1
theorem dX11_findLengths_26 : decode cX11_findLengths 26 = .ok (.iload_n 1, 1) := dK_d_136.2.2.2.2.2.1
theorem dX11_findLengths_27 : decode cX11_findLengths 27 = .ok (.iaload, 1) := dK_d_136.2.2.2.2.2.2.1
theorem dX11_findLengths_28 : decode cX11_findLengths 28 = .ok (.istore 4, 2) := dK_d_136.2.2.2.2.2.2.2.1
theorem dK_d_137 : dk_P cX11_findLengths [(30, (.aload_n 0, 1)), (31, (.getfield 61, 3)), (34, (.aload_n 0, 1)), (35, (.getfield 95, 3)), (38, (.iload 4, 2)), (40, (.isub, 1)), (41, (.invokestatic 226, 3)), (44, (.aload_n 0, 1))] := dk_of 30 (by decide +kernel)
theorem dX11_findLengths_30 : decode cX11_findLengths 30 = .ok (.aload_n 0, 1) := dK_d_137.1
theorem dX11_findLengths_31 : decode cX11_findLengths 31 = .ok (.getfield 61, 3) := dK_d_137.2.1
theorem dX11_findLengths_34 : decode cX11_findLengths 34 = .ok (.aload_n 0, 1) := dK_d_137.2.2.1
theorem dX11_findLengths_35 : decode cX11_findLengths 35 = .ok (.getfield 95, 3) := dK_d_137.2.2.2.1
theorem dX11_findLengths_38 : decode cX11_findLengths 38 = .ok (.iload 4, 2) := dK_d_137.2.2.2.2.1
theorem dX11_findLengths_40 : decode cX11_findLengths 40 = .ok (.isub, 1) := dK_d_137.2.2.2.2.2.1
theorem dX11_findLengths_41 : decode cX11_findLengths 41 = .ok (.invokestatic 226, 3) := dK_d_137.2.2.2.2.2.2.1
theorem dX11_findLengths_44 : decode cX11_findLengths 44 = .ok (.aload_n 0, 1) := dK_d_137.2.2.2.2.2.2.2.1
theorem dK_d_138 : dk_P cX11_findLengths [(45, (.getfield 65, 3)), (48, (.iload 4, 2)), (50, (.invokestatic 226, 3)), (53, (.iconst 0, 1)), (54, (.istore 5, 2)), (56, (.iload 5, 2)), (58, (.sipush 1681, 3)), (61, (.if_icmp .ge 143, 3))] := dk_of 45 (by decide +kernel)
theorem dX11_findLengths_45 : decode cX11_findLengths 45 = .ok (.getfield 65, 3) := dK_d_138.1
theorem dX11_findLengths_48 : decode cX11_findLengths 48 = .ok (.iload 4, 2) := dK_d_138.2.1
theorem dX11_findLengths_50 : decode cX11_findLengths 50 = .ok (.invokestatic 226, 3) := dK_d_138.2.2.1
theorem dX11_findLengths_53 : decode cX11_findLengths 53 = .ok (.iconst 0, 1) := dK_d_138.2.2.2.1
theorem dX11_findLengths_54 : decode cX11_findLengths 54 = .ok (.istore 5, 2) := dK_d_138.2.2.2.2.1
theorem dX11_findLengths_56 : decode cX11_findLengths 56 = .ok (.iload 5, 2) := dK_d_138.2.2.2.2.2.1
theorem dX11_findLengths_58 : decode cX11_findLengths 58 = .ok (.sipush 1681, 3) := dK_d_138.2.2.2.2.2.2.1
theorem dX11_findLengths_61 : decode cX11_findLengths 61 = .ok (.if_icmp .ge 143, 3) := dK_d_138.2.2.2.2.2.2.2.1
theorem dK_d_139 : dk_P cX11_findLengths [(64, (.aload_n 0, 1)), (65, (.getfield 61, 3)), (68, (.iload 5, 2)), (70, (.bipush 41, 2)), (72, (.idiv, 1)), (73, (.laload, 1)), (74, (.aload_n 0, 1)), (75, (.getfield 65, 3))] := dk_of 64 (by decide +kernel)
theorem dX11_findLengths_64 : decode cX11_findLengths 64 = .ok (.aload_n 0, 1) := dK_d_139.1
theorem dX11_findLengths_65 : decode cX11_findLengths 65 = .ok (.getfield 61, 3) := dK_d_139.2.1
theorem dX11_findLengths_68 : decode cX11_findLengths 68 = .ok (.iload 5, 2) := dK_d_139.2.2.1
theorem dX11_findLengths_70 : decode cX11_findLengths 70 = .ok (.bipush 41, 2) := dK_d_139.2.2.2.1
theorem dX11_findLengths_72 : decode cX11_findLengths 72 = .ok (.idiv, 1) := dK_d_139.2.2.2.2.1
theorem dX11_findLengths_73 : decode cX11_findLengths 73 = .ok (.laload, 1) := dK_d_139.2.2.2.2.2.1
theorem dX11_findLengths_74 : decode cX11_findLengths 74 = .ok (.aload_n 0, 1) := dK_d_139.2.2.2.2.2.2.1
theorem dX11_findLengths_75 : decode cX11_findLengths 75 = .ok (.getfield 65, 3) := dK_d_139.2.2.2.2.2.2.2.1
theorem dK_d_140 : dk_P cX11_findLengths [(78, (.iload 5, 2)), (80, (.bipush 41, 2)), (82, (.irem, 1)), (83, (.laload, 1)), (84, (.lmul, 1)), (85, (.lstore 6, 2)), (87, (.lload 6, 2)), (89, (.lconst 0, 1))] := dk_of 78 (by decide +kernel)
theorem dX11_findLengths_78 : decode cX11_findLengths 78 = .ok (.iload 5, 2) := dK_d_140.1
theorem dX11_findLengths_80 : decode cX11_findLengths 80 = .ok (.bipush 41, 2) := dK_d_140.2.1
theorem dX11_findLengths_82 : decode cX11_findLengths 82 = .ok (.irem, 1) := dK_d_140.2.2.1
theorem dX11_findLengths_83 : decode cX11_findLengths 83 = .ok (.laload, 1) := dK_d_140.2.2.2.1
theorem dX11_findLengths_84 : decode cX11_findLengths 84 = .ok (.lmul, 1) := dK_d_140.2.2.2.2.1
theorem dX11_findLengths_85 : decode cX11_findLengths 85 = .ok (.lstore 6, 2) := dK_d_140.2.2.2.2.2.1
theorem dX11_findLengths_87 : decode cX11_findLengths 87 = .ok (.lload 6, 2) := dK_d_140.2.2.2.2.2.2.1
theorem dX11_findLengths_89 : decode cX11_findLengths 89 = .ok (.lconst 0, 1) := dK_d_140.2.2.2.2.2.2.2.1
theorem dK_d_141 : dk_P cX11_findLengths [(90, (.lcmp, 1)), (91, (.ifCond .ne 6, 3)), (94, (.goto 104, 3)), (97, (.iload_n 2, 1)), (98, (.aload_n 0, 1)), (99, (.getfield 25, 3)), (102, (.iload_n 1, 1)), (103, (.iaload, 1))] := dk_of 90 (by decide +kernel)
theorem dX11_findLengths_90 : decode cX11_findLengths 90 = .ok (.lcmp, 1) := dK_d_141.1
theorem dX11_findLengths_91 : decode cX11_findLengths 91 = .ok (.ifCond .ne 6, 3) := dK_d_141.2.1
theorem dX11_findLengths_94 : decode cX11_findLengths 94 = .ok (.goto 104, 3) := dK_d_141.2.2.1
theorem dX11_findLengths_97 : decode cX11_findLengths 97 = .ok (.iload_n 2, 1) := dK_d_141.2.2.2.1
theorem dX11_findLengths_98 : decode cX11_findLengths 98 = .ok (.aload_n 0, 1) := dK_d_141.2.2.2.2.1
theorem dX11_findLengths_99 : decode cX11_findLengths 99 = .ok (.getfield 25, 3) := dK_d_141.2.2.2.2.2.1
theorem dX11_findLengths_102 : decode cX11_findLengths 102 = .ok (.iload_n 1, 1) := dK_d_141.2.2.2.2.2.2.1
theorem dX11_findLengths_103 : decode cX11_findLengths 103 = .ok (.iaload, 1) := dK_d_141.2.2.2.2.2.2.2.1
theorem dK_d_142 : dk_P cX11_findLengths [(104, (.iload 5, 2)), (106, (.bipush 41, 2)), (108, (.idiv, 1)), (109, (.bipush 20, 2)), (111, (.isub, 1)), (112, (.imul, 1)), (113, (.isub, 1)), (114, (.istore 8, 2))] := dk_of 104 (by decide +kernel)
theorem dX11_findLengths_104 : decode cX11_findLengths 104 = .ok (.iload 5, 2) := dK_d_142.1
theorem dX11_findLengths_106 : decode cX11_findLengths 106 = .ok (.bipush 41, 2) := dK_d_142.2.1
theorem dX11_findLengths_108 : decode cX11_findLengths 108 = .ok (.idiv, 1) := dK_d_142.2.2.1
theorem dX11_findLengths_109 : decode cX11_findLengths 109 = .ok (.bipush 20, 2) := dK_d_142.2.2.2.1
theorem dX11_findLengths_111 : decode cX11_findLengths 111 = .ok (.isub, 1) := dK_d_142.2.2.2.2.1
theorem dX11_findLengths_112 : decode cX11_findLengths 112 = .ok (.imul, 1) := dK_d_142.2.2.2.2.2.1
theorem dX11_findLengths_113 : decode cX11_findLengths 113 = .ok (.isub, 1) := dK_d_142.2.2.2.2.2.2.1
theorem dX11_findLengths_114 : decode cX11_findLengths 114 = .ok (.istore 8, 2) := dK_d_142.2.2.2.2.2.2.2.1
theorem dK_d_143 : dk_P cX11_findLengths [(116, (.iload 4, 2)), (118, (.ifCond .ne 7, 3)), (121, (.iconst 0, 1)), (122, (.goto 13, 3)), (125, (.iload 8, 2)), (127, (.aload_n 0, 1)), (128, (.iload_n 1, 1)), (129, (.invokevirtual 210, 3))] := dk_of 116 (by decide +kernel)
theorem dX11_findLengths_116 : decode cX11_findLengths 116 = .ok (.iload 4, 2) := dK_d_143.1
theorem dX11_findLengths_118 : decode cX11_findLengths 118 = .ok (.ifCond .ne 7, 3) := dK_d_143.2.1
theorem dX11_findLengths_121 : decode cX11_findLengths 121 = .ok (.iconst 0, 1) := dK_d_143.2.2.1
theorem dX11_findLengths_122 : decode cX11_findLengths 122 = .ok (.goto 13, 3) := dK_d_143.2.2.2.1
theorem dX11_findLengths_125 : decode cX11_findLengths 125 = .ok (.iload 8, 2) := dK_d_143.2.2.2.2.1
theorem dX11_findLengths_127 : decode cX11_findLengths 127 = .ok (.aload_n 0, 1) := dK_d_143.2.2.2.2.2.1
theorem dX11_findLengths_128 : decode cX11_findLengths 128 = .ok (.iload_n 1, 1) := dK_d_143.2.2.2.2.2.2.1
theorem dX11_findLengths_129 : decode cX11_findLengths 129 = .ok (.invokevirtual 210, 3) := dK_d_143.2.2.2.2.2.2.2.1
theorem dK_d_144 : dk_P cX11_findLengths [(132, (.isub, 1)), (133, (.iconst 2, 1)), (134, (.idiv, 1)), (135, (.istore 9, 2)), (137, (.iload 8, 2)), (139, (.iload 9, 2)), (141, (.aload_n 0, 1)), (142, (.getfield 25, 3))] := dk_of 132 (by decide +kernel)
theorem dX11_findLengths_132 : decode cX11_findLengths 132 = .ok (.isub, 1) := dK_d_144.1
theorem dX11_findLengths_133 : decode cX11_findLengths 133 = .ok (.iconst 2, 1) := dK_d_144.2.1
theorem dX11_findLengths_134 : decode cX11_findLengths 134 = .ok (.idiv, 1) := dK_d_144.2.2.1
theorem dX11_findLengths_135 : decode cX11_findLengths 135 = .ok (.istore 9, 2) := dK_d_144.2.2.2.1
theorem dX11_findLengths_137 : decode cX11_findLengths 137 = .ok (.iload 8, 2) := dK_d_144.2.2.2.2.1
theorem dX11_findLengths_139 : decode cX11_findLengths 139 = .ok (.iload 9, 2) := dK_d_144.2.2.2.2.2.1
theorem dX11_findLengths_141 : decode cX11_findLengths 141 = .ok (.aload_n 0, 1) := dK_d_144.2.2.2.2.2.2.1
theorem dX11_findLengths_142 : decode cX11_findLengths 142 = .ok (.getfield 25, 3) := dK_d_144.2.2.2.2.2.2.2.1
theorem dK_d_145 : dk_P cX11_findLengths [(145, (.iload_n 1, 1)), (146, (.iaload, 1)), (147, (.iload 5, 2)), (149, (.bipush 41, 2)), (151, (.irem, 1)), (152, (.bipush 20, 2)), (154, (.isub, 1)), (155, (.imul, 1))] := dk_of 145 (by decide +kernel)
theorem dX11_findLengths_145 : decode cX11_findLengths 145 = .ok (.iload_n 1, 1) := dK_d_145.1
theorem dX11_findLengths_146 : decode cX11_findLengths 146 = .ok (.iaload, 1) := dK_d_145.2.1
theorem dX11_findLengths_147 : decode cX11_findLengths 147 = .ok (.iload 5, 2) := dK_d_145.2.2.1
theorem dX11_findLengths_149 : decode cX11_findLengths 149 = .ok (.bipush 41, 2) := dK_d_145.2.2.2.1
theorem dX11_findLengths_151 : decode cX11_findLengths 151 = .ok (.irem, 1) := dK_d_145.2.2.2.2.1
theorem dX11_findLengths_152 : decode cX11_findLengths 152 = .ok (.bipush 20, 2) := dK_d_145.2.2.2.2.2.1
theorem dX11_findLengths_154 : decode cX11_findLengths 154 = .ok (.isub, 1) := dK_d_145.2.2.2.2.2.2.1
theorem dX11_findLengths_155 : decode cX11_findLengths 155 = .ok (.imul, 1) := dK_d_145.2.2.2.2.2.2.2.1
theorem dK_d_146 : dk_P cX11_findLengths [(156, (.iadd, 1)), (157, (.isub, 1)), (158, (.istore 8, 2)), (160, (.aload_n 3, 1)), (161, (.iload 8, 2)), (163, (.ifCond .ge 7, 3)), (166, (.iconst 0, 1)), (167, (.goto 25, 3))] := dk_of 156 (by decide +kernel)
theorem dX11_findLengths_156 : decode cX11_findLengths 156 = .ok (.iadd, 1) := dK_d_146.1
theorem dX11_findLengths_157 : decode cX11_findLengths 157 = .ok (.isub, 1) := dK_d_146.2.1
theorem dX11_findLengths_158 : decode cX11_findLengths 158 = .ok (.istore 8, 2) := dK_d_146.2.2.1
theorem dX11_findLengths_160 : decode cX11_findLengths 160 = .ok (.aload_n 3, 1) := dK_d_146.2.2.2.1
theorem dX11_findLengths_161 : decode cX11_findLengths 161 = .ok (.iload 8, 2) := dK_d_146.2.2.2.2.1
theorem dX11_findLengths_163 : decode cX11_findLengths 163 = .ok (.ifCond .ge 7, 3) := dK_d_146.2.2.2.2.2.1
theorem dX11_findLengths_166 : decode cX11_findLengths 166 = .ok (.iconst 0, 1) := dK_d_146.2.2.2.2.2.2.1
theorem dX11_findLengths_167 : decode cX11_findLengths 167 = .ok (.goto 25, 3) := dK_d_146.2.2.2.2.2.2.2.1
theorem dK_d_147 : dk_P cX11_findLengths [(170, (.aload_n 0, 1)), (171, (.iload_n 1, 1)), (172, (.iload 8, 2)), (174, (.iload 9, 2)), (176, (.ifCond .ge 9, 3)), (179, (.iload 9, 2)), (181, (.ineg, 1)), (182, (.goto 5, 3))] := dk_of 170 (by decide +kernel)
theorem dX11_findLengths_170 : decode cX11_findLengths 170 = .ok (.aload_n 0, 1) := dK_d_147.1
theorem dX11_findLengths_171 : decode cX11_findLengths 171 = .ok (.iload_n 1, 1) := dK_d_147.2.1
theorem dX11_findLengths_172 : decode cX11_findLengths 172 = .ok (.iload 8, 2) := dK_d_147.2.2.1
theorem dX11_findLengths_174 : decode cX11_findLengths 174 = .ok (.iload 9, 2) := dK_d_147.2.2.2.1
theorem dX11_findLengths_176 : decode cX11_findLengths 176 = .ok (.ifCond .ge 9, 3) := dK_d_147.2.2.2.2.1
theorem dX11_findLengths_179 : decode cX11_findLengths 179 = .ok (.iload 9, 2) := dK_d_147.2.2.2.2.2.1
theorem dX11_findLengths_181 : decode cX11_findLengths 181 = .ok (.ineg, 1) := dK_d_147.2.2.2.2.2.2.1
theorem dX11_findLengths_182 : decode cX11_findLengths 182 = .ok (.goto 5, 3) := dK_d_147.2.2.2.2.2.2.2.1
theorem dK_d_148 : dk_P cX11_findLengths [(185, (.iload 9, 2)), (187, (.iconst 4, 1)), (188, (.idiv, 1)), (189, (.invokevirtual 163, 3)), (192, (.dup2, 1)), (193, (.laload, 1)), (194, (.lload 6, 2)), (196, (.ladd, 1))] := dk_of 185 (by decide +kernel)
theorem dX11_findLengths_185 : decode cX11_findLengths 185 = .ok (.iload 9, 2) := dK_d_148.1
theorem dX11_findLengths_187 : decode cX11_findLengths 187 = .ok (.iconst 4, 1) := dK_d_148.2.1
theorem dX11_findLengths_188 : decode cX11_findLengths 188 = .ok (.idiv, 1) := dK_d_148.2.2.1
theorem dX11_findLengths_189 : decode cX11_findLengths 189 = .ok (.invokevirtual 163, 3) := dK_d_148.2.2.2.1
theorem dX11_findLengths_192 : decode cX11_findLengths 192 = .ok (.dup2, 1) := dK_d_148.2.2.2.2.1
theorem dX11_findLengths_193 : decode cX11_findLengths 193 = .ok (.laload, 1) := dK_d_148.2.2.2.2.2.1
theorem dX11_findLengths_194 : decode cX11_findLengths 194 = .ok (.lload 6, 2) := dK_d_148.2.2.2.2.2.2.1
theorem dX11_findLengths_196 : decode cX11_findLengths 196 = .ok (.ladd, 1) := dK_d_148.2.2.2.2.2.2.2.1
theorem dK_d_149 : dk_P cX11_findLengths [(197, (.lastore, 1)), (198, (.iinc 5 1, 3)), (201, (.goto (-145), 3)), (204, (.iconst 0, 1)), (205, (.istore 5, 2)), (207, (.iload 5, 2)), (209, (.sipush 1000, 3)), (212, (.if_icmp .ge 21, 3))] := dk_of 197 (by decide +kernel)
theorem dX11_findLengths_197 : decode cX11_findLengths 197 = .ok (.lastore, 1) := dK_d_149.1
theorem dX11_findLengths_198 : decode cX11_findLengths 198 = .ok (.iinc 5 1, 3) := dK_d_149.2.1
theorem dX11_findLengths_201 : decode cX11_findLengths 201 = .ok (.goto (-145), 3) := dK_d_149.2.2.1
theorem dX11_findLengths_204 : decode cX11_findLengths 204 = .ok (.iconst 0, 1) := dK_d_149.2.2.2.1
theorem dX11_findLengths_205 : decode cX11_findLengths 205 = .ok (.istore 5, 2) := dK_d_149.2.2.2.2.1
theorem dX11_findLengths_207 : decode cX11_findLengths 207 = .ok (.iload 5, 2) := dK_d_149.2.2.2.2.2.1
theorem dX11_findLengths_209 : decode cX11_findLengths 209 = .ok (.sipush 1000, 3) := dK_d_149.2.2.2.2.2.2.1
theorem dX11_findLengths_212 : decode cX11_findLengths 212 = .ok (.if_icmp .ge 21, 3) := dK_d_149.2.2.2.2.2.2.2.1
theorem dK_d_150 : dk_P cX11_findLengths [(215, (.aload_n 3, 1)), (216, (.iload 5, 2)), (218, (.aload_n 0, 1)), (219, (.aload_n 3, 1)), (220, (.iload 5, 2)), (222, (.laload, 1)), (223, (.invokevirtual 307, 3)), (226, (.lastore, 1))] := dk_of 215 (by decide +kernel)
theorem dX11_findLengths_215 : decode cX11_findLengths 215 = .ok (.aload_n 3, 1) := dK_d_150.1
theorem dX11_findLengths_216 : decode cX11_findLengths 216 = .ok (.iload 5, 2) := dK_d_150.2.1
theorem dX11_findLengths_218 : decode cX11_findLengths 218 = .ok (.aload_n 0, 1) := dK_d_150.2.2.1
theorem dX11_findLengths_219 : decode cX11_findLengths 219 = .ok (.aload_n 3, 1) := dK_d_150.2.2.2.1
theorem dX11_findLengths_220 : decode cX11_findLengths 220 = .ok (.iload 5, 2) := dK_d_150.2.2.2.2.1
theorem dX11_findLengths_222 : decode cX11_findLengths 222 = .ok (.laload, 1) := dK_d_150.2.2.2.2.2.1
theorem dX11_findLengths_223 : decode cX11_findLengths 223 = .ok (.invokevirtual 307, 3) := dK_d_150.2.2.2.2.2.2.1
theorem dX11_findLengths_226 : decode cX11_findLengths 226 = .ok (.lastore, 1) := dK_d_150.2.2.2.2.2.2.2.1
theorem dK_d_151 : dk_P cX11_findLengths [(227, (.iinc 5 1, 3)), (230, (.goto (-23), 3)), (233, (.return_, 1))] := dk_of 227 (by decide +kernel)
theorem dX11_findLengths_227 : decode cX11_findLengths 227 = .ok (.iinc 5 1, 3) := dK_d_151.1
theorem dX11_findLengths_230 : decode cX11_findLengths 230 = .ok (.goto (-23), 3) := dK_d_151.2.1
theorem dX11_findLengths_233 : decode cX11_findLengths 233 = .ok (.return_, 1) := dK_d_151.2.2.1
theorem dK_d_152 : dk_P cX11_partOfWays [(0, (.lload_n 1, 1)), (1, (.aload_n 0, 1)), (2, (.invokevirtual 246, 3)), (5, (.ldiv, 1)), (6, (.ldc2_w 289, 3)), (9, (.lmul, 1)), (10, (.lload_n 1, 1)), (11, (.aload_n 0, 1))] := dk_of 0 (by decide +kernel)
theorem dX11_partOfWays_0 : decode cX11_partOfWays 0 = .ok (.lload_n 1, 1) := dK_d_152.1
theorem dX11_partOfWays_1 : decode cX11_partOfWays 1 = .ok (.aload_n 0, 1) := dK_d_152.2.1
theorem dX11_partOfWays_2 : decode cX11_partOfWays 2 = .ok (.invokevirtual 246, 3) := dK_d_152.2.2.1
theorem dX11_partOfWays_5 : decode cX11_partOfWays 5 = .ok (.ldiv, 1) := dK_d_152.2.2.2.1
theorem dX11_partOfWays_6 : decode cX11_partOfWays 6 = .ok (.ldc2_w 289, 3) := dK_d_152.2.2.2.2.1
theorem dX11_partOfWays_9 : decode cX11_partOfWays 9 = .ok (.lmul, 1) := dK_d_152.2.2.2.2.2.1
theorem dX11_partOfWays_10 : decode cX11_partOfWays 10 = .ok (.lload_n 1, 1) := dK_d_152.2.2.2.2.2.2.1
theorem dX11_partOfWays_11 : decode cX11_partOfWays 11 = .ok (.aload_n 0, 1) := dK_d_152.2.2.2.2.2.2.2.1
theorem dK_d_153 : dk_P cX11_partOfWays [(12, (.invokevirtual 246, 3)), (15, (.lrem, 1)), (16, (.ldc2_w 289, 3)), (19, (.lmul, 1)), (20, (.aload_n 0, 1)), (21, (.invokevirtual 246, 3)), (24, (.ldiv, 1)), (25, (.ladd, 1))] := dk_of 12 (by decide +kernel)
theorem dX11_partOfWays_12 : decode cX11_partOfWays 12 = .ok (.invokevirtual 246, 3) := dK_d_153.1
theorem dX11_partOfWays_15 : decode cX11_partOfWays 15 = .ok (.lrem, 1) := dK_d_153.2.1
theorem dX11_partOfWays_16 : decode cX11_partOfWays 16 = .ok (.ldc2_w 289, 3) := dK_d_153.2.2.1
theorem dX11_partOfWays_19 : decode cX11_partOfWays 19 = .ok (.lmul, 1) := dK_d_153.2.2.2.1
theorem dX11_partOfWays_20 : decode cX11_partOfWays 20 = .ok (.aload_n 0, 1) := dK_d_153.2.2.2.2.1
theorem dX11_partOfWays_21 : decode cX11_partOfWays 21 = .ok (.invokevirtual 246, 3) := dK_d_153.2.2.2.2.2.1
theorem dX11_partOfWays_24 : decode cX11_partOfWays 24 = .ok (.ldiv, 1) := dK_d_153.2.2.2.2.2.2.1
theorem dX11_partOfWays_25 : decode cX11_partOfWays 25 = .ok (.ladd, 1) := dK_d_153.2.2.2.2.2.2.2.1
theorem dK_d_154 : dk_P cX11_partOfWays [(26, (.lreturn, 1))] := dk_of 26 (by decide +kernel)
theorem dX11_partOfWays_26 : decode cX11_partOfWays 26 = .ok (.lreturn, 1) := dK_d_154.1
theorem dK_d_155 : dk_P cX11_parts [(0, (.aload_n 0, 1)), (1, (.iload_n 1, 1)), (2, (.invokevirtual 207, 3)), (5, (.ifCond .ne 7, 3)), (8, (.iconst (-1), 1)), (9, (.goto 11, 3)), (12, (.iload_n 2, 1)), (13, (.iconst 0, 1))] := dk_of 0 (by decide +kernel)
theorem dX11_parts_0 : decode cX11_parts 0 = .ok (.aload_n 0, 1) := dK_d_155.1
theorem dX11_parts_1 : decode cX11_parts 1 = .ok (.iload_n 1, 1) := dK_d_155.2.1
theorem dX11_parts_2 : decode cX11_parts 2 = .ok (.invokevirtual 207, 3) := dK_d_155.2.2.1
theorem dX11_parts_5 : decode cX11_parts 5 = .ok (.ifCond .ne 7, 3) := dK_d_155.2.2.2.1
theorem dX11_parts_8 : decode cX11_parts 8 = .ok (.iconst (-1), 1) := dK_d_155.2.2.2.2.1
theorem dX11_parts_9 : decode cX11_parts 9 = .ok (.goto 11, 3) := dK_d_155.2.2.2.2.2.1
theorem dX11_parts_12 : decode cX11_parts 12 = .ok (.iload_n 2, 1) := dK_d_155.2.2.2.2.2.2.1
theorem dX11_parts_13 : decode cX11_parts 13 = .ok (.iconst 0, 1) := dK_d_155.2.2.2.2.2.2.2.1
theorem dK_d_156 : dk_P cX11_parts [(14, (.sipush 999, 3)), (17, (.invokestatic 108, 3)), (20, (.istore_n 3, 1)), (21, (.iload_n 3, 1)), (22, (.ifCond .eq 9, 3)), (25, (.aload_n 0, 1)), (26, (.iload_n 3, 1)), (27, (.invokevirtual 115, 3))] := dk_of 14 (by decide +kernel)
theorem dX11_parts_14 : decode cX11_parts 14 = .ok (.sipush 999, 3) := dK_d_156.1
theorem dX11_parts_17 : decode cX11_parts 17 = .ok (.invokestatic 108, 3) := dK_d_156.2.1
theorem dX11_parts_20 : decode cX11_parts 20 = .ok (.istore_n 3, 1) := dK_d_156.2.2.1
theorem dX11_parts_21 : decode cX11_parts 21 = .ok (.iload_n 3, 1) := dK_d_156.2.2.2.1
theorem dX11_parts_22 : decode cX11_parts 22 = .ok (.ifCond .eq 9, 3) := dK_d_156.2.2.2.2.1
theorem dX11_parts_25 : decode cX11_parts 25 = .ok (.aload_n 0, 1) := dK_d_156.2.2.2.2.2.1
theorem dX11_parts_26 : decode cX11_parts 26 = .ok (.iload_n 3, 1) := dK_d_156.2.2.2.2.2.2.1
theorem dX11_parts_27 : decode cX11_parts 27 = .ok (.invokevirtual 115, 3) := dK_d_156.2.2.2.2.2.2.2.1
theorem dK_d_157 : dk_P cX11_parts [(30, (.ireturn, 1)), (31, (.aload_n 0, 1)), (32, (.iload_n 1, 1)), (33, (.aload_n 0, 1)), (34, (.iload_n 1, 1)), (35, (.invokevirtual 223, 3)), (38, (.aload_n 0, 1)), (39, (.getfield 83, 3))] := dk_of 30 (by decide +kernel)
theorem dX11_parts_30 : decode cX11_parts 30 = .ok (.ireturn, 1) := dK_d_157.1
theorem dX11_parts_31 : decode cX11_parts 31 = .ok (.aload_n 0, 1) := dK_d_157.2.1
theorem dX11_parts_32 : decode cX11_parts 32 = .ok (.iload_n 1, 1) := dK_d_157.2.2.1
theorem dX11_parts_33 : decode cX11_parts 33 = .ok (.aload_n 0, 1) := dK_d_157.2.2.2.1
theorem dX11_parts_34 : decode cX11_parts 34 = .ok (.iload_n 1, 1) := dK_d_157.2.2.2.2.1
theorem dX11_parts_35 : decode cX11_parts 35 = .ok (.invokevirtual 223, 3) := dK_d_157.2.2.2.2.2.1
theorem dX11_parts_38 : decode cX11_parts 38 = .ok (.aload_n 0, 1) := dK_d_157.2.2.2.2.2.2.1
theorem dX11_parts_39 : decode cX11_parts 39 = .ok (.getfield 83, 3) := dK_d_157.2.2.2.2.2.2.2.1
theorem dK_d_158 : dk_P cX11_parts [(42, (.invokevirtual 311, 3)), (45, (.aload_n 0, 1)), (46, (.getfield 83, 3)), (49, (.iload_n 2, 1)), (50, (.laload, 1)), (51, (.l2i, 1)), (52, (.ireturn, 1))] := dk_of 42 (by decide +kernel)
theorem dX11_parts_42 : decode cX11_parts 42 = .ok (.invokevirtual 311, 3) := dK_d_158.1
theorem dX11_parts_45 : decode cX11_parts 45 = .ok (.aload_n 0, 1) := dK_d_158.2.1
theorem dX11_parts_46 : decode cX11_parts 46 = .ok (.getfield 83, 3) := dK_d_158.2.2.1
theorem dX11_parts_49 : decode cX11_parts 49 = .ok (.iload_n 2, 1) := dK_d_158.2.2.2.1
theorem dX11_parts_50 : decode cX11_parts 50 = .ok (.laload, 1) := dK_d_158.2.2.2.2.1
theorem dX11_parts_51 : decode cX11_parts 51 = .ok (.l2i, 1) := dK_d_158.2.2.2.2.2.1
theorem dX11_parts_52 : decode cX11_parts 52 = .ok (.ireturn, 1) := dK_d_158.2.2.2.2.2.2.1
theorem dK_d_159 : dk_P cX11_areTwo [(0, (.aload_n 0, 1)), (1, (.iload_n 1, 1)), (2, (.invokevirtual 207, 3)), (5, (.ifCond .eq 20, 3)), (8, (.aload_n 0, 1)), (9, (.iload_n 2, 1)), (10, (.invokevirtual 207, 3)), (13, (.ifCond .eq 12, 3))] := dk_of 0 (by decide +kernel)
theorem dX11_areTwo_0 : decode cX11_areTwo 0 = .ok (.aload_n 0, 1) := dK_d_159.1
theorem dX11_areTwo_1 : decode cX11_areTwo 1 = .ok (.iload_n 1, 1) := dK_d_159.2.1
theorem dX11_areTwo_2 : decode cX11_areTwo 2 = .ok (.invokevirtual 207, 3) := dK_d_159.2.2.1
theorem dX11_areTwo_5 : decode cX11_areTwo 5 = .ok (.ifCond .eq 20, 3) := dK_d_159.2.2.2.1
theorem dX11_areTwo_8 : decode cX11_areTwo 8 = .ok (.aload_n 0, 1) := dK_d_159.2.2.2.2.1
theorem dX11_areTwo_9 : decode cX11_areTwo 9 = .ok (.iload_n 2, 1) := dK_d_159.2.2.2.2.2.1
theorem dX11_areTwo_10 : decode cX11_areTwo 10 = .ok (.invokevirtual 207, 3) := dK_d_159.2.2.2.2.2.2.1
theorem dX11_areTwo_13 : decode cX11_areTwo 13 = .ok (.ifCond .eq 12, 3) := dK_d_159.2.2.2.2.2.2.2.1
theorem dK_d_160 : dk_P cX11_areTwo [(16, (.iload_n 1, 1)), (17, (.iload_n 2, 1)), (18, (.if_icmp .eq 7, 3)), (21, (.iconst 1, 1)), (22, (.goto 4, 3)), (25, (.iconst 0, 1)), (26, (.ireturn, 1))] := dk_of 16 (by decide +kernel)
theorem dX11_areTwo_16 : decode cX11_areTwo 16 = .ok (.iload_n 1, 1) := dK_d_160.1
theorem dX11_areTwo_17 : decode cX11_areTwo 17 = .ok (.iload_n 2, 1) := dK_d_160.2.1
theorem dX11_areTwo_18 : decode cX11_areTwo 18 = .ok (.if_icmp .eq 7, 3) := dK_d_160.2.2.1
theorem dX11_areTwo_21 : decode cX11_areTwo 21 = .ok (.iconst 1, 1) := dK_d_160.2.2.2.1
theorem dX11_areTwo_22 : decode cX11_areTwo 22 = .ok (.goto 4, 3) := dK_d_160.2.2.2.2.1
theorem dX11_areTwo_25 : decode cX11_areTwo 25 = .ok (.iconst 0, 1) := dK_d_160.2.2.2.2.2.1
theorem dX11_areTwo_26 : decode cX11_areTwo 26 = .ok (.ireturn, 1) := dK_d_160.2.2.2.2.2.2.1
theorem dK_d_161 : dk_P cX11_moreFrom [(0, (.aload_n 0, 1)), (1, (.iload_n 1, 1)), (2, (.iload_n 2, 1)), (3, (.aload_n 0, 1)), (4, (.getfield 83, 3)), (7, (.invokevirtual 311, 3)), (10, (.aload_n 0, 1)), (11, (.iload_n 3, 1))] := dk_of 0 (by decide +kernel)
theorem dX11_moreFrom_0 : decode cX11_moreFrom 0 = .ok (.aload_n 0, 1) := dK_d_161.1
theorem dX11_moreFrom_1 : decode cX11_moreFrom 1 = .ok (.iload_n 1, 1) := dK_d_161.2.1
theorem dX11_moreFrom_2 : decode cX11_moreFrom 2 = .ok (.iload_n 2, 1) := dK_d_161.2.2.1
theorem dX11_moreFrom_3 : decode cX11_moreFrom 3 = .ok (.aload_n 0, 1) := dK_d_161.2.2.2.1
theorem dX11_moreFrom_4 : decode cX11_moreFrom 4 = .ok (.getfield 83, 3) := dK_d_161.2.2.2.2.1
theorem dX11_moreFrom_7 : decode cX11_moreFrom 7 = .ok (.invokevirtual 311, 3) := dK_d_161.2.2.2.2.2.1
theorem dX11_moreFrom_10 : decode cX11_moreFrom 10 = .ok (.aload_n 0, 1) := dK_d_161.2.2.2.2.2.2.1
theorem dX11_moreFrom_11 : decode cX11_moreFrom 11 = .ok (.iload_n 3, 1) := dK_d_161.2.2.2.2.2.2.2.1
theorem dK_d_162 : dk_P cX11_moreFrom [(12, (.iload 4, 2)), (14, (.aload_n 0, 1)), (15, (.getfield 86, 3)), (18, (.invokevirtual 311, 3)), (21, (.lconst 0, 1)), (22, (.lstore 5, 2)), (24, (.lconst 0, 1)), (25, (.lstore 7, 2))] := dk_of 12 (by decide +kernel)
theorem dX11_moreFrom_12 : decode cX11_moreFrom 12 = .ok (.iload 4, 2) := dK_d_162.1
theorem dX11_moreFrom_14 : decode cX11_moreFrom 14 = .ok (.aload_n 0, 1) := dK_d_162.2.1
theorem dX11_moreFrom_15 : decode cX11_moreFrom 15 = .ok (.getfield 86, 3) := dK_d_162.2.2.1
theorem dX11_moreFrom_18 : decode cX11_moreFrom 18 = .ok (.invokevirtual 311, 3) := dK_d_162.2.2.2.1
theorem dX11_moreFrom_21 : decode cX11_moreFrom 21 = .ok (.lconst 0, 1) := dK_d_162.2.2.2.2.1
theorem dX11_moreFrom_22 : decode cX11_moreFrom 22 = .ok (.lstore 5, 2) := dK_d_162.2.2.2.2.2.1
theorem dX11_moreFrom_24 : decode cX11_moreFrom 24 = .ok (.lconst 0, 1) := dK_d_162.2.2.2.2.2.2.1
theorem dX11_moreFrom_25 : decode cX11_moreFrom 25 = .ok (.lstore 7, 2) := dK_d_162.2.2.2.2.2.2.2.1
theorem dK_d_163 : dk_P cX11_moreFrom [(27, (.iconst 0, 1)), (28, (.istore 9, 2)), (30, (.iload 9, 2)), (32, (.sipush 1000, 3)), (35, (.if_icmp .ge 36, 3)), (38, (.lload 5, 2)), (40, (.aload_n 0, 1)), (41, (.getfield 83, 3))] := dk_of 27 (by decide +kernel)
theorem dX11_moreFrom_27 : decode cX11_moreFrom 27 = .ok (.iconst 0, 1) := dK_d_163.1
theorem dX11_moreFrom_28 : decode cX11_moreFrom 28 = .ok (.istore 9, 2) := dK_d_163.2.1
theorem dX11_moreFrom_30 : decode cX11_moreFrom 30 = .ok (.iload 9, 2) := dK_d_163.2.2.1
theorem dX11_moreFrom_32 : decode cX11_moreFrom 32 = .ok (.sipush 1000, 3) := dK_d_163.2.2.2.1
theorem dX11_moreFrom_35 : decode cX11_moreFrom 35 = .ok (.if_icmp .ge 36, 3) := dK_d_163.2.2.2.2.1
theorem dX11_moreFrom_38 : decode cX11_moreFrom 38 = .ok (.lload 5, 2) := dK_d_163.2.2.2.2.2.1
theorem dX11_moreFrom_40 : decode cX11_moreFrom 40 = .ok (.aload_n 0, 1) := dK_d_163.2.2.2.2.2.2.1
theorem dX11_moreFrom_41 : decode cX11_moreFrom 41 = .ok (.getfield 83, 3) := dK_d_163.2.2.2.2.2.2.2.1
theorem dK_d_164 : dk_P cX11_moreFrom [(44, (.iload 9, 2)), (46, (.laload, 1)), (47, (.lload 7, 2)), (49, (.lmul, 1)), (50, (.ladd, 1)), (51, (.lstore 5, 2)), (53, (.lload 7, 2)), (55, (.aload_n 0, 1))] := dk_of 44 (by decide +kernel)
theorem dX11_moreFrom_44 : decode cX11_moreFrom 44 = .ok (.iload 9, 2) := dK_d_164.1
theorem dX11_moreFrom_46 : decode cX11_moreFrom 46 = .ok (.laload, 1) := dK_d_164.2.1
theorem dX11_moreFrom_47 : decode cX11_moreFrom 47 = .ok (.lload 7, 2) := dK_d_164.2.2.1
theorem dX11_moreFrom_49 : decode cX11_moreFrom 49 = .ok (.lmul, 1) := dK_d_164.2.2.2.1
theorem dX11_moreFrom_50 : decode cX11_moreFrom 50 = .ok (.ladd, 1) := dK_d_164.2.2.2.2.1
theorem dX11_moreFrom_51 : decode cX11_moreFrom 51 = .ok (.lstore 5, 2) := dK_d_164.2.2.2.2.2.1
theorem dX11_moreFrom_53 : decode cX11_moreFrom 53 = .ok (.lload 7, 2) := dK_d_164.2.2.2.2.2.2.1
theorem dX11_moreFrom_55 : decode cX11_moreFrom 55 = .ok (.aload_n 0, 1) := dK_d_164.2.2.2.2.2.2.2.1
theorem dK_d_165 : dk_P cX11_moreFrom [(56, (.getfield 86, 3)), (59, (.iload 9, 2)), (61, (.laload, 1)), (62, (.ladd, 1)), (63, (.lstore 7, 2)), (65, (.iinc 9 1, 3)), (68, (.goto (-38), 3)), (71, (.lload 5, 2))] := dk_of 56 (by decide +kernel)
theorem dX11_moreFrom_56 : decode cX11_moreFrom 56 = .ok (.getfield 86, 3) := dK_d_165.1
theorem dX11_moreFrom_59 : decode cX11_moreFrom 59 = .ok (.iload 9, 2) := dK_d_165.2.1
theorem dX11_moreFrom_61 : decode cX11_moreFrom 61 = .ok (.laload, 1) := dK_d_165.2.2.1
theorem dX11_moreFrom_62 : decode cX11_moreFrom 62 = .ok (.ladd, 1) := dK_d_165.2.2.2.1
theorem dX11_moreFrom_63 : decode cX11_moreFrom 63 = .ok (.lstore 7, 2) := dK_d_165.2.2.2.2.1
theorem dX11_moreFrom_65 : decode cX11_moreFrom 65 = .ok (.iinc 9 1, 3) := dK_d_165.2.2.2.2.2.1
theorem dX11_moreFrom_68 : decode cX11_moreFrom 68 = .ok (.goto (-38), 3) := dK_d_165.2.2.2.2.2.2.1
theorem dX11_moreFrom_71 : decode cX11_moreFrom 71 = .ok (.lload 5, 2) := dK_d_165.2.2.2.2.2.2.2.1
theorem dK_d_166 : dk_P cX11_moreFrom [(73, (.ldc2_w 289, 3)), (76, (.ldiv, 1)), (77, (.l2i, 1)), (78, (.ireturn, 1))] := dk_of 73 (by decide +kernel)
theorem dX11_moreFrom_73 : decode cX11_moreFrom 73 = .ok (.ldc2_w 289, 3) := dK_d_166.1
theorem dX11_moreFrom_76 : decode cX11_moreFrom 76 = .ok (.ldiv, 1) := dK_d_166.2.1
theorem dX11_moreFrom_77 : decode cX11_moreFrom 77 = .ok (.l2i, 1) := dK_d_166.2.2.1
theorem dX11_moreFrom_78 : decode cX11_moreFrom 78 = .ok (.ireturn, 1) := dK_d_166.2.2.2.1
theorem dK_d_167 : dk_P cX11_more [(0, (.aload_n 0, 1)), (1, (.iload_n 1, 1)), (2, (.iload_n 2, 1)), (3, (.invokevirtual 315, 3)), (6, (.ifCond .eq 22, 3)), (9, (.aload_n 0, 1)), (10, (.iload_n 1, 1)), (11, (.aload_n 0, 1))] := dk_of 0 (by decide +kernel)
theorem dX11_more_0 : decode cX11_more 0 = .ok (.aload_n 0, 1) := dK_d_167.1
theorem dX11_more_1 : decode cX11_more 1 = .ok (.iload_n 1, 1) := dK_d_167.2.1
theorem dX11_more_2 : decode cX11_more 2 = .ok (.iload_n 2, 1) := dK_d_167.2.2.1
theorem dX11_more_3 : decode cX11_more 3 = .ok (.invokevirtual 315, 3) := dK_d_167.2.2.2.1
theorem dX11_more_6 : decode cX11_more 6 = .ok (.ifCond .eq 22, 3) := dK_d_167.2.2.2.2.1
theorem dX11_more_9 : decode cX11_more 9 = .ok (.aload_n 0, 1) := dK_d_167.2.2.2.2.2.1
theorem dX11_more_10 : decode cX11_more 10 = .ok (.iload_n 1, 1) := dK_d_167.2.2.2.2.2.2.1
theorem dX11_more_11 : decode cX11_more 11 = .ok (.aload_n 0, 1) := dK_d_167.2.2.2.2.2.2.2.1
theorem dK_d_168 : dk_P cX11_more [(12, (.iload_n 1, 1)), (13, (.invokevirtual 223, 3)), (16, (.iload_n 2, 1)), (17, (.aload_n 0, 1)), (18, (.iload_n 2, 1)), (19, (.invokevirtual 223, 3)), (22, (.invokevirtual 318, 3)), (25, (.goto 8, 3))] := dk_of 12 (by decide +kernel)
theorem dX11_more_12 : decode cX11_more 12 = .ok (.iload_n 1, 1) := dK_d_168.1
theorem dX11_more_13 : decode cX11_more 13 = .ok (.invokevirtual 223, 3) := dK_d_168.2.1
theorem dX11_more_16 : decode cX11_more 16 = .ok (.iload_n 2, 1) := dK_d_168.2.2.1
theorem dX11_more_17 : decode cX11_more 17 = .ok (.aload_n 0, 1) := dK_d_168.2.2.2.1
theorem dX11_more_18 : decode cX11_more 18 = .ok (.iload_n 2, 1) := dK_d_168.2.2.2.2.1
theorem dX11_more_19 : decode cX11_more 19 = .ok (.invokevirtual 223, 3) := dK_d_168.2.2.2.2.2.1
theorem dX11_more_22 : decode cX11_more 22 = .ok (.invokevirtual 318, 3) := dK_d_168.2.2.2.2.2.2.1
theorem dX11_more_25 : decode cX11_more 25 = .ok (.goto 8, 3) := dK_d_168.2.2.2.2.2.2.2.1
theorem dK_d_169 : dk_P cX11_more [(28, (.aload_n 0, 1)), (29, (.iconst (-1), 1)), (30, (.invokevirtual 115, 3)), (33, (.ireturn, 1))] := dk_of 28 (by decide +kernel)
theorem dX11_more_28 : decode cX11_more 28 = .ok (.aload_n 0, 1) := dK_d_169.1
theorem dX11_more_29 : decode cX11_more 29 = .ok (.iconst (-1), 1) := dK_d_169.2.1
theorem dX11_more_30 : decode cX11_more 30 = .ok (.invokevirtual 115, 3) := dK_d_169.2.2.1
theorem dX11_more_33 : decode cX11_more 33 = .ok (.ireturn, 1) := dK_d_169.2.2.2.1
theorem dK_d_170 : dk_P cX11_rests [(0, (.iconst 0, 1)), (1, (.istore_n 2, 1)), (2, (.iload_n 2, 1)), (3, (.iconst 3, 1)), (4, (.if_icmp .ge 53, 3)), (7, (.aload_n 0, 1)), (8, (.getfield 89, 3)), (11, (.iconst 3, 1))] := dk_of 0 (by decide +kernel)
theorem dX11_rests_0 : decode cX11_rests 0 = .ok (.iconst 0, 1) := dK_d_170.1
theorem dX11_rests_1 : decode cX11_rests 1 = .ok (.istore_n 2, 1) := dK_d_170.2.1
theorem dX11_rests_2 : decode cX11_rests 2 = .ok (.iload_n 2, 1) := dK_d_170.2.2.1
theorem dX11_rests_3 : decode cX11_rests 3 = .ok (.iconst 3, 1) := dK_d_170.2.2.2.1
theorem dX11_rests_4 : decode cX11_rests 4 = .ok (.if_icmp .ge 53, 3) := dK_d_170.2.2.2.2.1
theorem dX11_rests_7 : decode cX11_rests 7 = .ok (.aload_n 0, 1) := dK_d_170.2.2.2.2.2.1
theorem dX11_rests_8 : decode cX11_rests 8 = .ok (.getfield 89, 3) := dK_d_170.2.2.2.2.2.2.1
theorem dX11_rests_11 : decode cX11_rests 11 = .ok (.iconst 3, 1) := dK_d_170.2.2.2.2.2.2.2.1
theorem dK_d_171 : dk_P cX11_rests [(12, (.iload_n 2, 1)), (13, (.imul, 1)), (14, (.iload_n 1, 1)), (15, (.iconst 3, 1)), (16, (.irem, 1)), (17, (.iadd, 1)), (18, (.iaload, 1)), (19, (.aload_n 0, 1))] := dk_of 12 (by decide +kernel)
theorem dX11_rests_12 : decode cX11_rests 12 = .ok (.iload_n 2, 1) := dK_d_171.1
theorem dX11_rests_13 : decode cX11_rests 13 = .ok (.imul, 1) := dK_d_171.2.1
theorem dX11_rests_14 : decode cX11_rests 14 = .ok (.iload_n 1, 1) := dK_d_171.2.2.1
theorem dX11_rests_15 : decode cX11_rests 15 = .ok (.iconst 3, 1) := dK_d_171.2.2.2.1
theorem dX11_rests_16 : decode cX11_rests 16 = .ok (.irem, 1) := dK_d_171.2.2.2.2.1
theorem dX11_rests_17 : decode cX11_rests 17 = .ok (.iadd, 1) := dK_d_171.2.2.2.2.2.1
theorem dX11_rests_18 : decode cX11_rests 18 = .ok (.iaload, 1) := dK_d_171.2.2.2.2.2.2.1
theorem dX11_rests_19 : decode cX11_rests 19 = .ok (.aload_n 0, 1) := dK_d_171.2.2.2.2.2.2.2.1
theorem dK_d_172 : dk_P cX11_rests [(20, (.getfield 89, 3)), (23, (.iload_n 1, 1)), (24, (.iaload, 1)), (25, (.if_icmp .gt 24, 3)), (28, (.aload_n 0, 1)), (29, (.getfield 89, 3)), (32, (.iload_n 1, 1)), (33, (.iconst 3, 1))] := dk_of 20 (by decide +kernel)
theorem dX11_rests_20 : decode cX11_rests 20 = .ok (.getfield 89, 3) := dK_d_172.1
theorem dX11_rests_23 : decode cX11_rests 23 = .ok (.iload_n 1, 1) := dK_d_172.2.1
theorem dX11_rests_24 : decode cX11_rests 24 = .ok (.iaload, 1) := dK_d_172.2.2.1
theorem dX11_rests_25 : decode cX11_rests 25 = .ok (.if_icmp .gt 24, 3) := dK_d_172.2.2.2.1
theorem dX11_rests_28 : decode cX11_rests 28 = .ok (.aload_n 0, 1) := dK_d_172.2.2.2.2.1
theorem dX11_rests_29 : decode cX11_rests 29 = .ok (.getfield 89, 3) := dK_d_172.2.2.2.2.2.1
theorem dX11_rests_32 : decode cX11_rests 32 = .ok (.iload_n 1, 1) := dK_d_172.2.2.2.2.2.2.1
theorem dX11_rests_33 : decode cX11_rests 33 = .ok (.iconst 3, 1) := dK_d_172.2.2.2.2.2.2.2.1
theorem dK_d_173 : dk_P cX11_rests [(34, (.idiv, 1)), (35, (.iconst 3, 1)), (36, (.imul, 1)), (37, (.iload_n 2, 1)), (38, (.iadd, 1)), (39, (.iaload, 1)), (40, (.aload_n 0, 1)), (41, (.getfield 89, 3))] := dk_of 34 (by decide +kernel)
theorem dX11_rests_34 : decode cX11_rests 34 = .ok (.idiv, 1) := dK_d_173.1
theorem dX11_rests_35 : decode cX11_rests 35 = .ok (.iconst 3, 1) := dK_d_173.2.1
theorem dX11_rests_36 : decode cX11_rests 36 = .ok (.imul, 1) := dK_d_173.2.2.1
theorem dX11_rests_37 : decode cX11_rests 37 = .ok (.iload_n 2, 1) := dK_d_173.2.2.2.1
theorem dX11_rests_38 : decode cX11_rests 38 = .ok (.iadd, 1) := dK_d_173.2.2.2.2.1
theorem dX11_rests_39 : decode cX11_rests 39 = .ok (.iaload, 1) := dK_d_173.2.2.2.2.2.1
theorem dX11_rests_40 : decode cX11_rests 40 = .ok (.aload_n 0, 1) := dK_d_173.2.2.2.2.2.2.1
theorem dX11_rests_41 : decode cX11_rests 41 = .ok (.getfield 89, 3) := dK_d_173.2.2.2.2.2.2.2.1
theorem dK_d_174 : dk_P cX11_rests [(44, (.iload_n 1, 1)), (45, (.iaload, 1)), (46, (.if_icmp .ge 5, 3)), (49, (.iconst 0, 1)), (50, (.ireturn, 1)), (51, (.iinc 2 1, 3)), (54, (.goto (-52), 3)), (57, (.iconst 1, 1))] := dk_of 44 (by decide +kernel)
theorem dX11_rests_44 : decode cX11_rests 44 = .ok (.iload_n 1, 1) := dK_d_174.1
theorem dX11_rests_45 : decode cX11_rests 45 = .ok (.iaload, 1) := dK_d_174.2.1
theorem dX11_rests_46 : decode cX11_rests 46 = .ok (.if_icmp .ge 5, 3) := dK_d_174.2.2.1
theorem dX11_rests_49 : decode cX11_rests 49 = .ok (.iconst 0, 1) := dK_d_174.2.2.2.1
theorem dX11_rests_50 : decode cX11_rests 50 = .ok (.ireturn, 1) := dK_d_174.2.2.2.2.1
theorem dX11_rests_51 : decode cX11_rests 51 = .ok (.iinc 2 1, 3) := dK_d_174.2.2.2.2.2.1
theorem dX11_rests_54 : decode cX11_rests 54 = .ok (.goto (-52), 3) := dK_d_174.2.2.2.2.2.2.1
theorem dX11_rests_57 : decode cX11_rests 57 = .ok (.iconst 1, 1) := dK_d_174.2.2.2.2.2.2.2.1
theorem dK_d_175 : dk_P cX11_rests [(58, (.ireturn, 1))] := dk_of 58 (by decide +kernel)
theorem dX11_rests_58 : decode cX11_rests 58 = .ok (.ireturn, 1) := dK_d_175.1
theorem dK_d_176 : dk_P cX11_sureMore [(0, (.iconst 0, 1)), (1, (.istore_n 1, 1)), (2, (.iconst 0, 1)), (3, (.istore_n 2, 1)), (4, (.iload_n 2, 1)), (5, (.iconst 3, 1)), (6, (.if_icmp .ge 70, 3)), (9, (.sipush 10000, 3))] := dk_of 0 (by decide +kernel)
theorem dX11_sureMore_0 : decode cX11_sureMore 0 = .ok (.iconst 0, 1) := dK_d_176.1
theorem dX11_sureMore_1 : decode cX11_sureMore 1 = .ok (.istore_n 1, 1) := dK_d_176.2.1
theorem dX11_sureMore_2 : decode cX11_sureMore 2 = .ok (.iconst 0, 1) := dK_d_176.2.2.1
theorem dX11_sureMore_3 : decode cX11_sureMore 3 = .ok (.istore_n 2, 1) := dK_d_176.2.2.2.1
theorem dX11_sureMore_4 : decode cX11_sureMore 4 = .ok (.iload_n 2, 1) := dK_d_176.2.2.2.2.1
theorem dX11_sureMore_5 : decode cX11_sureMore 5 = .ok (.iconst 3, 1) := dK_d_176.2.2.2.2.2.1
theorem dX11_sureMore_6 : decode cX11_sureMore 6 = .ok (.if_icmp .ge 70, 3) := dK_d_176.2.2.2.2.2.2.1
theorem dX11_sureMore_9 : decode cX11_sureMore 9 = .ok (.sipush 10000, 3) := dK_d_176.2.2.2.2.2.2.2.1
theorem dK_d_177 : dk_P cX11_sureMore [(12, (.istore_n 3, 1)), (13, (.iconst 0, 1)), (14, (.istore 4, 2)), (16, (.iload 4, 2)), (18, (.iconst 3, 1)), (19, (.if_icmp .ge 40, 3)), (22, (.aload_n 0, 1)), (23, (.getfield 89, 3))] := dk_of 12 (by decide +kernel)
theorem dX11_sureMore_12 : decode cX11_sureMore 12 = .ok (.istore_n 3, 1) := dK_d_177.1
theorem dX11_sureMore_13 : decode cX11_sureMore 13 = .ok (.iconst 0, 1) := dK_d_177.2.1
theorem dX11_sureMore_14 : decode cX11_sureMore 14 = .ok (.istore 4, 2) := dK_d_177.2.2.1
theorem dX11_sureMore_16 : decode cX11_sureMore 16 = .ok (.iload 4, 2) := dK_d_177.2.2.2.1
theorem dX11_sureMore_18 : decode cX11_sureMore 18 = .ok (.iconst 3, 1) := dK_d_177.2.2.2.2.1
theorem dX11_sureMore_19 : decode cX11_sureMore 19 = .ok (.if_icmp .ge 40, 3) := dK_d_177.2.2.2.2.2.1
theorem dX11_sureMore_22 : decode cX11_sureMore 22 = .ok (.aload_n 0, 1) := dK_d_177.2.2.2.2.2.2.1
theorem dX11_sureMore_23 : decode cX11_sureMore 23 = .ok (.getfield 89, 3) := dK_d_177.2.2.2.2.2.2.2.1
theorem dK_d_178 : dk_P cX11_sureMore [(26, (.iconst 3, 1)), (27, (.iload_n 2, 1)), (28, (.imul, 1)), (29, (.iload 4, 2)), (31, (.iadd, 1)), (32, (.iaload, 1)), (33, (.iload_n 3, 1)), (34, (.if_icmp .ge 17, 3))] := dk_of 26 (by decide +kernel)
theorem dX11_sureMore_26 : decode cX11_sureMore 26 = .ok (.iconst 3, 1) := dK_d_178.1
theorem dX11_sureMore_27 : decode cX11_sureMore 27 = .ok (.iload_n 2, 1) := dK_d_178.2.1
theorem dX11_sureMore_28 : decode cX11_sureMore 28 = .ok (.imul, 1) := dK_d_178.2.2.1
theorem dX11_sureMore_29 : decode cX11_sureMore 29 = .ok (.iload 4, 2) := dK_d_178.2.2.2.1
theorem dX11_sureMore_31 : decode cX11_sureMore 31 = .ok (.iadd, 1) := dK_d_178.2.2.2.2.1
theorem dX11_sureMore_32 : decode cX11_sureMore 32 = .ok (.iaload, 1) := dK_d_178.2.2.2.2.2.1
theorem dX11_sureMore_33 : decode cX11_sureMore 33 = .ok (.iload_n 3, 1) := dK_d_178.2.2.2.2.2.2.1
theorem dX11_sureMore_34 : decode cX11_sureMore 34 = .ok (.if_icmp .ge 17, 3) := dK_d_178.2.2.2.2.2.2.2.1
theorem dK_d_179 : dk_P cX11_sureMore [(37, (.aload_n 0, 1)), (38, (.getfield 89, 3)), (41, (.iconst 3, 1)), (42, (.iload_n 2, 1)), (43, (.imul, 1)), (44, (.iload 4, 2)), (46, (.iadd, 1)), (47, (.iaload, 1))] := dk_of 37 (by decide +kernel)
theorem dX11_sureMore_37 : decode cX11_sureMore 37 = .ok (.aload_n 0, 1) := dK_d_179.1
theorem dX11_sureMore_38 : decode cX11_sureMore 38 = .ok (.getfield 89, 3) := dK_d_179.2.1
theorem dX11_sureMore_41 : decode cX11_sureMore 41 = .ok (.iconst 3, 1) := dK_d_179.2.2.1
theorem dX11_sureMore_42 : decode cX11_sureMore 42 = .ok (.iload_n 2, 1) := dK_d_179.2.2.2.1
theorem dX11_sureMore_43 : decode cX11_sureMore 43 = .ok (.imul, 1) := dK_d_179.2.2.2.2.1
theorem dX11_sureMore_44 : decode cX11_sureMore 44 = .ok (.iload 4, 2) := dK_d_179.2.2.2.2.2.1
theorem dX11_sureMore_46 : decode cX11_sureMore 46 = .ok (.iadd, 1) := dK_d_179.2.2.2.2.2.2.1
theorem dX11_sureMore_47 : decode cX11_sureMore 47 = .ok (.iaload, 1) := dK_d_179.2.2.2.2.2.2.2.1
theorem dK_d_180 : dk_P cX11_sureMore [(48, (.goto 4, 3)), (51, (.iload_n 3, 1)), (52, (.istore_n 3, 1)), (53, (.iinc 4 1, 3)), (56, (.goto (-40), 3)), (59, (.iload_n 3, 1)), (60, (.iload_n 1, 1)), (61, (.if_icmp .le 7, 3))] := dk_of 48 (by decide +kernel)
theorem dX11_sureMore_48 : decode cX11_sureMore 48 = .ok (.goto 4, 3) := dK_d_180.1
theorem dX11_sureMore_51 : decode cX11_sureMore 51 = .ok (.iload_n 3, 1) := dK_d_180.2.1
theorem dX11_sureMore_52 : decode cX11_sureMore 52 = .ok (.istore_n 3, 1) := dK_d_180.2.2.1
theorem dX11_sureMore_53 : decode cX11_sureMore 53 = .ok (.iinc 4 1, 3) := dK_d_180.2.2.2.1
theorem dX11_sureMore_56 : decode cX11_sureMore 56 = .ok (.goto (-40), 3) := dK_d_180.2.2.2.2.1
theorem dX11_sureMore_59 : decode cX11_sureMore 59 = .ok (.iload_n 3, 1) := dK_d_180.2.2.2.2.2.1
theorem dX11_sureMore_60 : decode cX11_sureMore 60 = .ok (.iload_n 1, 1) := dK_d_180.2.2.2.2.2.2.1
theorem dX11_sureMore_61 : decode cX11_sureMore 61 = .ok (.if_icmp .le 7, 3) := dK_d_180.2.2.2.2.2.2.2.1
theorem dK_d_181 : dk_P cX11_sureMore [(64, (.iload_n 3, 1)), (65, (.goto 4, 3)), (68, (.iload_n 1, 1)), (69, (.istore_n 1, 1)), (70, (.iinc 2 1, 3)), (73, (.goto (-69), 3)), (76, (.iload_n 1, 1)), (77, (.ireturn, 1))] := dk_of 64 (by decide +kernel)
theorem dX11_sureMore_64 : decode cX11_sureMore 64 = .ok (.iload_n 3, 1) := dK_d_181.1
theorem dX11_sureMore_65 : decode cX11_sureMore 65 = .ok (.goto 4, 3) := dK_d_181.2.1
theorem dX11_sureMore_68 : decode cX11_sureMore 68 = .ok (.iload_n 1, 1) := dK_d_181.2.2.1
theorem dX11_sureMore_69 : decode cX11_sureMore 69 = .ok (.istore_n 1, 1) := dK_d_181.2.2.2.1
theorem dX11_sureMore_70 : decode cX11_sureMore 70 = .ok (.iinc 2 1, 3) := dK_d_181.2.2.2.2.1
theorem dX11_sureMore_73 : decode cX11_sureMore 73 = .ok (.goto (-69), 3) := dK_d_181.2.2.2.2.2.1
theorem dX11_sureMore_76 : decode cX11_sureMore 76 = .ok (.iload_n 1, 1) := dK_d_181.2.2.2.2.2.2.1
theorem dX11_sureMore_77 : decode cX11_sureMore 77 = .ok (.ireturn, 1) := dK_d_181.2.2.2.2.2.2.2.1
theorem dK_d_182 : dk_P cX11_duel [(0, (.aload_n 0, 1)), (1, (.iload_n 1, 1)), (2, (.iload_n 2, 1)), (3, (.invokevirtual 315, 3)), (6, (.ifCond .ne 7, 3)), (9, (.iconst (-1), 1)), (10, (.goto 18, 3)), (13, (.iload_n 3, 1))] := dk_of 0 (by decide +kernel)
theorem dX11_duel_0 : decode cX11_duel 0 = .ok (.aload_n 0, 1) := dK_d_182.1
theorem dX11_duel_1 : decode cX11_duel 1 = .ok (.iload_n 1, 1) := dK_d_182.2.1
theorem dX11_duel_2 : decode cX11_duel 2 = .ok (.iload_n 2, 1) := dK_d_182.2.2.1
theorem dX11_duel_3 : decode cX11_duel 3 = .ok (.invokevirtual 315, 3) := dK_d_182.2.2.2.1
theorem dX11_duel_6 : decode cX11_duel 6 = .ok (.ifCond .ne 7, 3) := dK_d_182.2.2.2.2.1
theorem dX11_duel_9 : decode cX11_duel 9 = .ok (.iconst (-1), 1) := dK_d_182.2.2.2.2.2.1
theorem dX11_duel_10 : decode cX11_duel 10 = .ok (.goto 18, 3) := dK_d_182.2.2.2.2.2.2.1
theorem dX11_duel_13 : decode cX11_duel 13 = .ok (.iload_n 3, 1) := dK_d_182.2.2.2.2.2.2.2.1
theorem dK_d_183 : dk_P cX11_duel [(14, (.iconst 0, 1)), (15, (.iconst 2, 1)), (16, (.invokestatic 126, 3)), (19, (.ifCond .ne 8, 3)), (22, (.bipush (-2), 2)), (24, (.goto 4, 3)), (27, (.iconst 0, 1)), (28, (.istore 4, 2))] := dk_of 14 (by decide +kernel)
theorem dX11_duel_14 : decode cX11_duel 14 = .ok (.iconst 0, 1) := dK_d_183.1
theorem dX11_duel_15 : decode cX11_duel 15 = .ok (.iconst 2, 1) := dK_d_183.2.1
theorem dX11_duel_16 : decode cX11_duel 16 = .ok (.invokestatic 126, 3) := dK_d_183.2.2.1
theorem dX11_duel_19 : decode cX11_duel 19 = .ok (.ifCond .ne 8, 3) := dK_d_183.2.2.2.1
theorem dX11_duel_22 : decode cX11_duel 22 = .ok (.bipush (-2), 2) := dK_d_183.2.2.2.2.1
theorem dX11_duel_24 : decode cX11_duel 24 = .ok (.goto 4, 3) := dK_d_183.2.2.2.2.2.1
theorem dX11_duel_27 : decode cX11_duel 27 = .ok (.iconst 0, 1) := dK_d_183.2.2.2.2.2.2.1
theorem dX11_duel_28 : decode cX11_duel 28 = .ok (.istore 4, 2) := dK_d_183.2.2.2.2.2.2.2.1
theorem dK_d_184 : dk_P cX11_duel [(30, (.iload 4, 2)), (32, (.ifCond .eq 10, 3)), (35, (.aload_n 0, 1)), (36, (.iload 4, 2)), (38, (.invokevirtual 115, 3)), (41, (.ireturn, 1)), (42, (.iconst 0, 1)), (43, (.istore 5, 2))] := dk_of 30 (by decide +kernel)
theorem dX11_duel_30 : decode cX11_duel 30 = .ok (.iload 4, 2) := dK_d_184.1
theorem dX11_duel_32 : decode cX11_duel 32 = .ok (.ifCond .eq 10, 3) := dK_d_184.2.1
theorem dX11_duel_35 : decode cX11_duel 35 = .ok (.aload_n 0, 1) := dK_d_184.2.2.1
theorem dX11_duel_36 : decode cX11_duel 36 = .ok (.iload 4, 2) := dK_d_184.2.2.2.1
theorem dX11_duel_38 : decode cX11_duel 38 = .ok (.invokevirtual 115, 3) := dK_d_184.2.2.2.2.1
theorem dX11_duel_41 : decode cX11_duel 41 = .ok (.ireturn, 1) := dK_d_184.2.2.2.2.2.1
theorem dX11_duel_42 : decode cX11_duel 42 = .ok (.iconst 0, 1) := dK_d_184.2.2.2.2.2.2.1
theorem dX11_duel_43 : decode cX11_duel 43 = .ok (.istore 5, 2) := dK_d_184.2.2.2.2.2.2.2.1
theorem dK_d_185 : dk_P cX11_duel [(45, (.iload 5, 2)), (47, (.bipush 9, 2)), (49, (.if_icmp .ge 36, 3)), (52, (.aload_n 0, 1)), (53, (.getfield 89, 3)), (56, (.iload 5, 2)), (58, (.aload_n 0, 1)), (59, (.iload_n 1, 1))] := dk_of 45 (by decide +kernel)
theorem dX11_duel_45 : decode cX11_duel 45 = .ok (.iload 5, 2) := dK_d_185.1
theorem dX11_duel_47 : decode cX11_duel 47 = .ok (.bipush 9, 2) := dK_d_185.2.1
theorem dX11_duel_49 : decode cX11_duel 49 = .ok (.if_icmp .ge 36, 3) := dK_d_185.2.2.1
theorem dX11_duel_52 : decode cX11_duel 52 = .ok (.aload_n 0, 1) := dK_d_185.2.2.2.1
theorem dX11_duel_53 : decode cX11_duel 53 = .ok (.getfield 89, 3) := dK_d_185.2.2.2.2.1
theorem dX11_duel_56 : decode cX11_duel 56 = .ok (.iload 5, 2) := dK_d_185.2.2.2.2.2.1
theorem dX11_duel_58 : decode cX11_duel 58 = .ok (.aload_n 0, 1) := dK_d_185.2.2.2.2.2.2.1
theorem dX11_duel_59 : decode cX11_duel 59 = .ok (.iload_n 1, 1) := dK_d_185.2.2.2.2.2.2.2.1
theorem dK_d_186 : dk_P cX11_duel [(60, (.bipush 6, 2)), (62, (.iload 5, 2)), (64, (.iconst 3, 1)), (65, (.idiv, 1)), (66, (.imul, 1)), (67, (.iload_n 2, 1)), (68, (.bipush 6, 2)), (70, (.iload 5, 2))] := dk_of 60 (by decide +kernel)
theorem dX11_duel_60 : decode cX11_duel 60 = .ok (.bipush 6, 2) := dK_d_186.1
theorem dX11_duel_62 : decode cX11_duel 62 = .ok (.iload 5, 2) := dK_d_186.2.1
theorem dX11_duel_64 : decode cX11_duel 64 = .ok (.iconst 3, 1) := dK_d_186.2.2.1
theorem dX11_duel_65 : decode cX11_duel 65 = .ok (.idiv, 1) := dK_d_186.2.2.2.1
theorem dX11_duel_66 : decode cX11_duel 66 = .ok (.imul, 1) := dK_d_186.2.2.2.2.1
theorem dX11_duel_67 : decode cX11_duel 67 = .ok (.iload_n 2, 1) := dK_d_186.2.2.2.2.2.1
theorem dX11_duel_68 : decode cX11_duel 68 = .ok (.bipush 6, 2) := dK_d_186.2.2.2.2.2.2.1
theorem dX11_duel_70 : decode cX11_duel 70 = .ok (.iload 5, 2) := dK_d_186.2.2.2.2.2.2.2.1
theorem dK_d_187 : dk_P cX11_duel [(72, (.iconst 3, 1)), (73, (.irem, 1)), (74, (.imul, 1)), (75, (.invokevirtual 318, 3)), (78, (.iastore, 1)), (79, (.iinc 5 1, 3)), (82, (.goto (-37), 3)), (85, (.iload_n 3, 1))] := dk_of 72 (by decide +kernel)
theorem dX11_duel_72 : decode cX11_duel 72 = .ok (.iconst 3, 1) := dK_d_187.1
theorem dX11_duel_73 : decode cX11_duel 73 = .ok (.irem, 1) := dK_d_187.2.1
theorem dX11_duel_74 : decode cX11_duel 74 = .ok (.imul, 1) := dK_d_187.2.2.1
theorem dX11_duel_75 : decode cX11_duel 75 = .ok (.invokevirtual 318, 3) := dK_d_187.2.2.2.1
theorem dX11_duel_78 : decode cX11_duel 78 = .ok (.iastore, 1) := dK_d_187.2.2.2.2.1
theorem dX11_duel_79 : decode cX11_duel 79 = .ok (.iinc 5 1, 3) := dK_d_187.2.2.2.2.2.1
theorem dX11_duel_82 : decode cX11_duel 82 = .ok (.goto (-37), 3) := dK_d_187.2.2.2.2.2.2.1
theorem dX11_duel_85 : decode cX11_duel 85 = .ok (.iload_n 3, 1) := dK_d_187.2.2.2.2.2.2.2.1
theorem dK_d_188 : dk_P cX11_duel [(86, (.iconst 2, 1)), (87, (.if_icmp .ne 8, 3)), (90, (.aload_n 0, 1)), (91, (.invokevirtual 321, 3)), (94, (.ireturn, 1)), (95, (.iconst 0, 1)), (96, (.istore 5, 2)), (98, (.iload 5, 2))] := dk_of 86 (by decide +kernel)
theorem dX11_duel_86 : decode cX11_duel 86 = .ok (.iconst 2, 1) := dK_d_188.1
theorem dX11_duel_87 : decode cX11_duel 87 = .ok (.if_icmp .ne 8, 3) := dK_d_188.2.1
theorem dX11_duel_90 : decode cX11_duel 90 = .ok (.aload_n 0, 1) := dK_d_188.2.2.1
theorem dX11_duel_91 : decode cX11_duel 91 = .ok (.invokevirtual 321, 3) := dK_d_188.2.2.2.1
theorem dX11_duel_94 : decode cX11_duel 94 = .ok (.ireturn, 1) := dK_d_188.2.2.2.2.1
theorem dX11_duel_95 : decode cX11_duel 95 = .ok (.iconst 0, 1) := dK_d_188.2.2.2.2.2.1
theorem dX11_duel_96 : decode cX11_duel 96 = .ok (.istore 5, 2) := dK_d_188.2.2.2.2.2.2.1
theorem dX11_duel_98 : decode cX11_duel 98 = .ok (.iload 5, 2) := dK_d_188.2.2.2.2.2.2.2.1
theorem dK_d_189 : dk_P cX11_duel [(100, (.bipush 9, 2)), (102, (.if_icmp .ge 45, 3)), (105, (.aload_n 0, 1)), (106, (.iload 5, 2)), (108, (.invokevirtual 324, 3)), (111, (.ifCond .eq 30, 3)), (114, (.iload_n 3, 1)), (115, (.ifCond .ne 18, 3))] := dk_of 100 (by decide +kernel)
theorem dX11_duel_100 : decode cX11_duel 100 = .ok (.bipush 9, 2) := dK_d_189.1
theorem dX11_duel_102 : decode cX11_duel 102 = .ok (.if_icmp .ge 45, 3) := dK_d_189.2.1
theorem dX11_duel_105 : decode cX11_duel 105 = .ok (.aload_n 0, 1) := dK_d_189.2.2.1
theorem dX11_duel_106 : decode cX11_duel 106 = .ok (.iload 5, 2) := dK_d_189.2.2.2.1
theorem dX11_duel_108 : decode cX11_duel 108 = .ok (.invokevirtual 324, 3) := dK_d_189.2.2.2.2.1
theorem dX11_duel_111 : decode cX11_duel 111 = .ok (.ifCond .eq 30, 3) := dK_d_189.2.2.2.2.2.1
theorem dX11_duel_114 : decode cX11_duel 114 = .ok (.iload_n 3, 1) := dK_d_189.2.2.2.2.2.2.1
theorem dX11_duel_115 : decode cX11_duel 115 = .ok (.ifCond .ne 18, 3) := dK_d_189.2.2.2.2.2.2.2.1
theorem dK_d_190 : dk_P cX11_duel [(118, (.bipush 10, 2)), (120, (.iload 5, 2)), (122, (.iconst 3, 1)), (123, (.idiv, 1)), (124, (.imul, 1)), (125, (.iload 5, 2)), (127, (.iconst 3, 1)), (128, (.irem, 1))] := dk_of 118 (by decide +kernel)
theorem dX11_duel_118 : decode cX11_duel 118 = .ok (.bipush 10, 2) := dK_d_190.1
theorem dX11_duel_120 : decode cX11_duel 120 = .ok (.iload 5, 2) := dK_d_190.2.1
theorem dX11_duel_122 : decode cX11_duel 122 = .ok (.iconst 3, 1) := dK_d_190.2.2.1
theorem dX11_duel_123 : decode cX11_duel 123 = .ok (.idiv, 1) := dK_d_190.2.2.2.1
theorem dX11_duel_124 : decode cX11_duel 124 = .ok (.imul, 1) := dK_d_190.2.2.2.2.1
theorem dX11_duel_125 : decode cX11_duel 125 = .ok (.iload 5, 2) := dK_d_190.2.2.2.2.2.1
theorem dX11_duel_127 : decode cX11_duel 127 = .ok (.iconst 3, 1) := dK_d_190.2.2.2.2.2.2.1
theorem dX11_duel_128 : decode cX11_duel 128 = .ok (.irem, 1) := dK_d_190.2.2.2.2.2.2.2.1
theorem dK_d_191 : dk_P cX11_duel [(129, (.iadd, 1)), (130, (.goto 10, 3)), (133, (.aload_n 0, 1)), (134, (.getfield 89, 3)), (137, (.iload 5, 2)), (139, (.iaload, 1)), (140, (.ireturn, 1)), (141, (.iinc 5 1, 3))] := dk_of 129 (by decide +kernel)
theorem dX11_duel_129 : decode cX11_duel 129 = .ok (.iadd, 1) := dK_d_191.1
theorem dX11_duel_130 : decode cX11_duel 130 = .ok (.goto 10, 3) := dK_d_191.2.1
theorem dX11_duel_133 : decode cX11_duel 133 = .ok (.aload_n 0, 1) := dK_d_191.2.2.1
theorem dX11_duel_134 : decode cX11_duel 134 = .ok (.getfield 89, 3) := dK_d_191.2.2.2.1
theorem dX11_duel_137 : decode cX11_duel 137 = .ok (.iload 5, 2) := dK_d_191.2.2.2.2.1
theorem dX11_duel_139 : decode cX11_duel 139 = .ok (.iaload, 1) := dK_d_191.2.2.2.2.2.1
theorem dX11_duel_140 : decode cX11_duel 140 = .ok (.ireturn, 1) := dK_d_191.2.2.2.2.2.2.1
theorem dX11_duel_141 : decode cX11_duel 141 = .ok (.iinc 5 1, 3) := dK_d_191.2.2.2.2.2.2.2.1
theorem dK_d_192 : dk_P cX11_duel [(144, (.goto (-46), 3)), (147, (.bipush (-9), 2)), (149, (.ireturn, 1))] := dk_of 144 (by decide +kernel)
theorem dX11_duel_144 : decode cX11_duel 144 = .ok (.goto (-46), 3) := dK_d_192.1
theorem dX11_duel_147 : decode cX11_duel 147 = .ok (.bipush (-9), 2) := dK_d_192.2.1
theorem dX11_duel_149 : decode cX11_duel 149 = .ok (.ireturn, 1) := dK_d_192.2.2.1
theorem dK_d_193 : dk_P cX11_canPractise [(0, (.iload_n 2, 1)), (1, (.tableswitch 94 0 3 #[31, 46, 61, 78], 31)), (32, (.aload_n 0, 1)), (33, (.getfield 25, 3)), (36, (.iload_n 1, 1)), (37, (.iaload, 1)), (38, (.ifCond .le 7, 3)), (41, (.iconst 1, 1))] := dk_of 0 (by decide +kernel)
theorem dX11_canPractise_0 : decode cX11_canPractise 0 = .ok (.iload_n 2, 1) := dK_d_193.1
theorem dX11_canPractise_1 : decode cX11_canPractise 1 = .ok (.tableswitch 94 0 3 #[31, 46, 61, 78], 31) := dK_d_193.2.1
theorem dX11_canPractise_32 : decode cX11_canPractise 32 = .ok (.aload_n 0, 1) := dK_d_193.2.2.1
theorem dX11_canPractise_33 : decode cX11_canPractise 33 = .ok (.getfield 25, 3) := dK_d_193.2.2.2.1
theorem dX11_canPractise_36 : decode cX11_canPractise 36 = .ok (.iload_n 1, 1) := dK_d_193.2.2.2.2.1
theorem dX11_canPractise_37 : decode cX11_canPractise 37 = .ok (.iaload, 1) := dK_d_193.2.2.2.2.2.1
theorem dX11_canPractise_38 : decode cX11_canPractise 38 = .ok (.ifCond .le 7, 3) := dK_d_193.2.2.2.2.2.2.1
theorem dX11_canPractise_41 : decode cX11_canPractise 41 = .ok (.iconst 1, 1) := dK_d_193.2.2.2.2.2.2.2.1
theorem dK_d_194 : dk_P cX11_canPractise [(42, (.goto 4, 3)), (45, (.iconst 0, 1)), (46, (.ireturn, 1)), (47, (.aload_n 0, 1)), (48, (.getfield 22, 3)), (51, (.iload_n 1, 1)), (52, (.iaload, 1)), (53, (.ifCond .le 7, 3))] := dk_of 42 (by decide +kernel)
theorem dX11_canPractise_42 : decode cX11_canPractise 42 = .ok (.goto 4, 3) := dK_d_194.1
theorem dX11_canPractise_45 : decode cX11_canPractise 45 = .ok (.iconst 0, 1) := dK_d_194.2.1
theorem dX11_canPractise_46 : decode cX11_canPractise 46 = .ok (.ireturn, 1) := dK_d_194.2.2.1
theorem dX11_canPractise_47 : decode cX11_canPractise 47 = .ok (.aload_n 0, 1) := dK_d_194.2.2.2.1
theorem dX11_canPractise_48 : decode cX11_canPractise 48 = .ok (.getfield 22, 3) := dK_d_194.2.2.2.2.1
theorem dX11_canPractise_51 : decode cX11_canPractise 51 = .ok (.iload_n 1, 1) := dK_d_194.2.2.2.2.2.1
theorem dX11_canPractise_52 : decode cX11_canPractise 52 = .ok (.iaload, 1) := dK_d_194.2.2.2.2.2.2.1
theorem dX11_canPractise_53 : decode cX11_canPractise 53 = .ok (.ifCond .le 7, 3) := dK_d_194.2.2.2.2.2.2.2.1
theorem dK_d_195 : dk_P cX11_canPractise [(56, (.iconst 1, 1)), (57, (.goto 4, 3)), (60, (.iconst 0, 1)), (61, (.ireturn, 1)), (62, (.aload_n 0, 1)), (63, (.getfield 28, 3)), (66, (.iload_n 1, 1)), (67, (.iaload, 1))] := dk_of 56 (by decide +kernel)
theorem dX11_canPractise_56 : decode cX11_canPractise 56 = .ok (.iconst 1, 1) := dK_d_195.1
theorem dX11_canPractise_57 : decode cX11_canPractise 57 = .ok (.goto 4, 3) := dK_d_195.2.1
theorem dX11_canPractise_60 : decode cX11_canPractise 60 = .ok (.iconst 0, 1) := dK_d_195.2.2.1
theorem dX11_canPractise_61 : decode cX11_canPractise 61 = .ok (.ireturn, 1) := dK_d_195.2.2.2.1
theorem dX11_canPractise_62 : decode cX11_canPractise 62 = .ok (.aload_n 0, 1) := dK_d_195.2.2.2.2.1
theorem dX11_canPractise_63 : decode cX11_canPractise 63 = .ok (.getfield 28, 3) := dK_d_195.2.2.2.2.2.1
theorem dX11_canPractise_66 : decode cX11_canPractise 66 = .ok (.iload_n 1, 1) := dK_d_195.2.2.2.2.2.2.1
theorem dX11_canPractise_67 : decode cX11_canPractise 67 = .ok (.iaload, 1) := dK_d_195.2.2.2.2.2.2.2.1
theorem dK_d_196 : dk_P cX11_canPractise [(68, (.bipush 99, 2)), (70, (.if_icmp .ge 7, 3)), (73, (.iconst 1, 1)), (74, (.goto 4, 3)), (77, (.iconst 0, 1)), (78, (.ireturn, 1)), (79, (.aload_n 0, 1)), (80, (.getfield 31, 3))] := dk_of 68 (by decide +kernel)
theorem dX11_canPractise_68 : decode cX11_canPractise 68 = .ok (.bipush 99, 2) := dK_d_196.1
theorem dX11_canPractise_70 : decode cX11_canPractise 70 = .ok (.if_icmp .ge 7, 3) := dK_d_196.2.1
theorem dX11_canPractise_73 : decode cX11_canPractise 73 = .ok (.iconst 1, 1) := dK_d_196.2.2.1
theorem dX11_canPractise_74 : decode cX11_canPractise 74 = .ok (.goto 4, 3) := dK_d_196.2.2.2.1
theorem dX11_canPractise_77 : decode cX11_canPractise 77 = .ok (.iconst 0, 1) := dK_d_196.2.2.2.2.1
theorem dX11_canPractise_78 : decode cX11_canPractise 78 = .ok (.ireturn, 1) := dK_d_196.2.2.2.2.2.1
theorem dX11_canPractise_79 : decode cX11_canPractise 79 = .ok (.aload_n 0, 1) := dK_d_196.2.2.2.2.2.2.1
theorem dX11_canPractise_80 : decode cX11_canPractise 80 = .ok (.getfield 31, 3) := dK_d_196.2.2.2.2.2.2.2.1
theorem dK_d_197 : dk_P cX11_canPractise [(83, (.iload_n 1, 1)), (84, (.iaload, 1)), (85, (.iconst 4, 1)), (86, (.if_icmp .ge 7, 3)), (89, (.iconst 1, 1)), (90, (.goto 4, 3)), (93, (.iconst 0, 1)), (94, (.ireturn, 1))] := dk_of 83 (by decide +kernel)
theorem dX11_canPractise_83 : decode cX11_canPractise 83 = .ok (.iload_n 1, 1) := dK_d_197.1
theorem dX11_canPractise_84 : decode cX11_canPractise 84 = .ok (.iaload, 1) := dK_d_197.2.1
theorem dX11_canPractise_85 : decode cX11_canPractise 85 = .ok (.iconst 4, 1) := dK_d_197.2.2.1
theorem dX11_canPractise_86 : decode cX11_canPractise 86 = .ok (.if_icmp .ge 7, 3) := dK_d_197.2.2.2.1
theorem dX11_canPractise_89 : decode cX11_canPractise 89 = .ok (.iconst 1, 1) := dK_d_197.2.2.2.2.1
theorem dX11_canPractise_90 : decode cX11_canPractise 90 = .ok (.goto 4, 3) := dK_d_197.2.2.2.2.2.1
theorem dX11_canPractise_93 : decode cX11_canPractise 93 = .ok (.iconst 0, 1) := dK_d_197.2.2.2.2.2.2.1
theorem dX11_canPractise_94 : decode cX11_canPractise 94 = .ok (.ireturn, 1) := dK_d_197.2.2.2.2.2.2.2.1
theorem dK_d_198 : dk_P cX11_canPractise [(95, (.aload_n 0, 1)), (96, (.getfield 31, 3)), (99, (.iload_n 1, 1)), (100, (.iaload, 1)), (101, (.ifCond .le 7, 3)), (104, (.iconst 1, 1)), (105, (.goto 4, 3)), (108, (.iconst 0, 1))] := dk_of 95 (by decide +kernel)
theorem dX11_canPractise_95 : decode cX11_canPractise 95 = .ok (.aload_n 0, 1) := dK_d_198.1
theorem dX11_canPractise_96 : decode cX11_canPractise 96 = .ok (.getfield 31, 3) := dK_d_198.2.1
theorem dX11_canPractise_99 : decode cX11_canPractise 99 = .ok (.iload_n 1, 1) := dK_d_198.2.2.1
theorem dX11_canPractise_100 : decode cX11_canPractise 100 = .ok (.iaload, 1) := dK_d_198.2.2.2.1
theorem dX11_canPractise_101 : decode cX11_canPractise 101 = .ok (.ifCond .le 7, 3) := dK_d_198.2.2.2.2.1
theorem dX11_canPractise_104 : decode cX11_canPractise 104 = .ok (.iconst 1, 1) := dK_d_198.2.2.2.2.2.1
theorem dX11_canPractise_105 : decode cX11_canPractise 105 = .ok (.goto 4, 3) := dK_d_198.2.2.2.2.2.2.1
theorem dX11_canPractise_108 : decode cX11_canPractise 108 = .ok (.iconst 0, 1) := dK_d_198.2.2.2.2.2.2.2.1
theorem dK_d_199 : dk_P cX11_canPractise [(109, (.ireturn, 1))] := dk_of 109 (by decide +kernel)
theorem dX11_canPractise_109 : decode cX11_canPractise 109 = .ok (.ireturn, 1) := dK_d_199.1
theorem dK_d_200 : dk_P cX11_practises [(0, (.iload_n 2, 1)), (1, (.tableswitch 83 0 3 #[31, 44, 57, 70], 31)), (32, (.aload_n 0, 1)), (33, (.getfield 25, 3)), (36, (.iload_n 1, 1)), (37, (.dup2, 1)), (38, (.iaload, 1)), (39, (.iload_n 3, 1))] := dk_of 0 (by decide +kernel)
theorem dX11_practises_0 : decode cX11_practises 0 = .ok (.iload_n 2, 1) := dK_d_200.1
theorem dX11_practises_1 : decode cX11_practises 1 = .ok (.tableswitch 83 0 3 #[31, 44, 57, 70], 31) := dK_d_200.2.1
theorem dX11_practises_32 : decode cX11_practises 32 = .ok (.aload_n 0, 1) := dK_d_200.2.2.1
theorem dX11_practises_33 : decode cX11_practises 33 = .ok (.getfield 25, 3) := dK_d_200.2.2.2.1
theorem dX11_practises_36 : decode cX11_practises 36 = .ok (.iload_n 1, 1) := dK_d_200.2.2.2.2.1
theorem dX11_practises_37 : decode cX11_practises 37 = .ok (.dup2, 1) := dK_d_200.2.2.2.2.2.1
theorem dX11_practises_38 : decode cX11_practises 38 = .ok (.iaload, 1) := dK_d_200.2.2.2.2.2.2.1
theorem dX11_practises_39 : decode cX11_practises 39 = .ok (.iload_n 3, 1) := dK_d_200.2.2.2.2.2.2.2.1
theorem dK_d_201 : dk_P cX11_practises [(40, (.isub, 1)), (41, (.iastore, 1)), (42, (.goto 52, 3)), (45, (.aload_n 0, 1)), (46, (.getfield 22, 3)), (49, (.iload_n 1, 1)), (50, (.dup2, 1)), (51, (.iaload, 1))] := dk_of 40 (by decide +kernel)
theorem dX11_practises_40 : decode cX11_practises 40 = .ok (.isub, 1) := dK_d_201.1
theorem dX11_practises_41 : decode cX11_practises 41 = .ok (.iastore, 1) := dK_d_201.2.1
theorem dX11_practises_42 : decode cX11_practises 42 = .ok (.goto 52, 3) := dK_d_201.2.2.1
theorem dX11_practises_45 : decode cX11_practises 45 = .ok (.aload_n 0, 1) := dK_d_201.2.2.2.1
theorem dX11_practises_46 : decode cX11_practises 46 = .ok (.getfield 22, 3) := dK_d_201.2.2.2.2.1
theorem dX11_practises_49 : decode cX11_practises 49 = .ok (.iload_n 1, 1) := dK_d_201.2.2.2.2.2.1
theorem dX11_practises_50 : decode cX11_practises 50 = .ok (.dup2, 1) := dK_d_201.2.2.2.2.2.2.1
theorem dX11_practises_51 : decode cX11_practises 51 = .ok (.iaload, 1) := dK_d_201.2.2.2.2.2.2.2.1
theorem dK_d_202 : dk_P cX11_practises [(52, (.iload_n 3, 1)), (53, (.isub, 1)), (54, (.iastore, 1)), (55, (.goto 39, 3)), (58, (.aload_n 0, 1)), (59, (.getfield 28, 3)), (62, (.iload_n 1, 1)), (63, (.dup2, 1))] := dk_of 52 (by decide +kernel)
theorem dX11_practises_52 : decode cX11_practises 52 = .ok (.iload_n 3, 1) := dK_d_202.1
theorem dX11_practises_53 : decode cX11_practises 53 = .ok (.isub, 1) := dK_d_202.2.1
theorem dX11_practises_54 : decode cX11_practises 54 = .ok (.iastore, 1) := dK_d_202.2.2.1
theorem dX11_practises_55 : decode cX11_practises 55 = .ok (.goto 39, 3) := dK_d_202.2.2.2.1
theorem dX11_practises_58 : decode cX11_practises 58 = .ok (.aload_n 0, 1) := dK_d_202.2.2.2.2.1
theorem dX11_practises_59 : decode cX11_practises 59 = .ok (.getfield 28, 3) := dK_d_202.2.2.2.2.2.1
theorem dX11_practises_62 : decode cX11_practises 62 = .ok (.iload_n 1, 1) := dK_d_202.2.2.2.2.2.2.1
theorem dX11_practises_63 : decode cX11_practises 63 = .ok (.dup2, 1) := dK_d_202.2.2.2.2.2.2.2.1
theorem dK_d_203 : dk_P cX11_practises [(64, (.iaload, 1)), (65, (.iload_n 3, 1)), (66, (.iadd, 1)), (67, (.iastore, 1)), (68, (.goto 26, 3)), (71, (.aload_n 0, 1)), (72, (.getfield 31, 3)), (75, (.iload_n 1, 1))] := dk_of 64 (by decide +kernel)
theorem dX11_practises_64 : decode cX11_practises 64 = .ok (.iaload, 1) := dK_d_203.1
theorem dX11_practises_65 : decode cX11_practises 65 = .ok (.iload_n 3, 1) := dK_d_203.2.1
theorem dX11_practises_66 : decode cX11_practises 66 = .ok (.iadd, 1) := dK_d_203.2.2.1
theorem dX11_practises_67 : decode cX11_practises 67 = .ok (.iastore, 1) := dK_d_203.2.2.2.1
theorem dX11_practises_68 : decode cX11_practises 68 = .ok (.goto 26, 3) := dK_d_203.2.2.2.2.1
theorem dX11_practises_71 : decode cX11_practises 71 = .ok (.aload_n 0, 1) := dK_d_203.2.2.2.2.2.1
theorem dX11_practises_72 : decode cX11_practises 72 = .ok (.getfield 31, 3) := dK_d_203.2.2.2.2.2.2.1
theorem dX11_practises_75 : decode cX11_practises 75 = .ok (.iload_n 1, 1) := dK_d_203.2.2.2.2.2.2.2.1
theorem dK_d_204 : dk_P cX11_practises [(76, (.dup2, 1)), (77, (.iaload, 1)), (78, (.iload_n 3, 1)), (79, (.iadd, 1)), (80, (.iastore, 1)), (81, (.goto 13, 3)), (84, (.aload_n 0, 1)), (85, (.getfield 31, 3))] := dk_of 76 (by decide +kernel)
theorem dX11_practises_76 : decode cX11_practises 76 = .ok (.dup2, 1) := dK_d_204.1
theorem dX11_practises_77 : decode cX11_practises 77 = .ok (.iaload, 1) := dK_d_204.2.1
theorem dX11_practises_78 : decode cX11_practises 78 = .ok (.iload_n 3, 1) := dK_d_204.2.2.1
theorem dX11_practises_79 : decode cX11_practises 79 = .ok (.iadd, 1) := dK_d_204.2.2.2.1
theorem dX11_practises_80 : decode cX11_practises 80 = .ok (.iastore, 1) := dK_d_204.2.2.2.2.1
theorem dX11_practises_81 : decode cX11_practises 81 = .ok (.goto 13, 3) := dK_d_204.2.2.2.2.2.1
theorem dX11_practises_84 : decode cX11_practises 84 = .ok (.aload_n 0, 1) := dK_d_204.2.2.2.2.2.2.1
theorem dX11_practises_85 : decode cX11_practises 85 = .ok (.getfield 31, 3) := dK_d_204.2.2.2.2.2.2.2.1
theorem dK_d_205 : dk_P cX11_practises [(88, (.iload_n 1, 1)), (89, (.dup2, 1)), (90, (.iaload, 1)), (91, (.iload_n 3, 1)), (92, (.isub, 1)), (93, (.iastore, 1)), (94, (.return_, 1))] := dk_of 88 (by decide +kernel)
theorem dX11_practises_88 : decode cX11_practises 88 = .ok (.iload_n 1, 1) := dK_d_205.1
theorem dX11_practises_89 : decode cX11_practises 89 = .ok (.dup2, 1) := dK_d_205.2.1
theorem dX11_practises_90 : decode cX11_practises 90 = .ok (.iaload, 1) := dK_d_205.2.2.1
theorem dX11_practises_91 : decode cX11_practises 91 = .ok (.iload_n 3, 1) := dK_d_205.2.2.2.1
theorem dX11_practises_92 : decode cX11_practises 92 = .ok (.isub, 1) := dK_d_205.2.2.2.2.1
theorem dX11_practises_93 : decode cX11_practises 93 = .ok (.iastore, 1) := dK_d_205.2.2.2.2.2.1
theorem dX11_practises_94 : decode cX11_practises 94 = .ok (.return_, 1) := dK_d_205.2.2.2.2.2.2.1
theorem dK_d_206 : dk_P cX11_practice [(0, (.aload_n 0, 1)), (1, (.iload_n 1, 1)), (2, (.invokevirtual 207, 3)), (5, (.ifCond .ne 9, 3)), (8, (.aload_n 0, 1)), (9, (.iconst (-1), 1)), (10, (.invokevirtual 115, 3)), (13, (.ireturn, 1))] := dk_of 0 (by decide +kernel)
theorem dX11_practice_0 : decode cX11_practice 0 = .ok (.aload_n 0, 1) := dK_d_206.1
theorem dX11_practice_1 : decode cX11_practice 1 = .ok (.iload_n 1, 1) := dK_d_206.2.1
theorem dX11_practice_2 : decode cX11_practice 2 = .ok (.invokevirtual 207, 3) := dK_d_206.2.2.1
theorem dX11_practice_5 : decode cX11_practice 5 = .ok (.ifCond .ne 9, 3) := dK_d_206.2.2.2.1
theorem dX11_practice_8 : decode cX11_practice 8 = .ok (.aload_n 0, 1) := dK_d_206.2.2.2.2.1
theorem dX11_practice_9 : decode cX11_practice 9 = .ok (.iconst (-1), 1) := dK_d_206.2.2.2.2.2.1
theorem dX11_practice_10 : decode cX11_practice 10 = .ok (.invokevirtual 115, 3) := dK_d_206.2.2.2.2.2.2.1
theorem dX11_practice_13 : decode cX11_practice 13 = .ok (.ireturn, 1) := dK_d_206.2.2.2.2.2.2.2.1
theorem dK_d_207 : dk_P cX11_practice [(14, (.aload_n 0, 1)), (15, (.iload_n 1, 1)), (16, (.invokevirtual 223, 3)), (19, (.istore_n 2, 1)), (20, (.aload_n 0, 1)), (21, (.iload_n 1, 1)), (22, (.invokevirtual 254, 3)), (25, (.lstore_n 3, 1))] := dk_of 14 (by decide +kernel)
theorem dX11_practice_14 : decode cX11_practice 14 = .ok (.aload_n 0, 1) := dK_d_207.1
theorem dX11_practice_15 : decode cX11_practice 15 = .ok (.iload_n 1, 1) := dK_d_207.2.1
theorem dX11_practice_16 : decode cX11_practice 16 = .ok (.invokevirtual 223, 3) := dK_d_207.2.2.1
theorem dX11_practice_19 : decode cX11_practice 19 = .ok (.istore_n 2, 1) := dK_d_207.2.2.2.1
theorem dX11_practice_20 : decode cX11_practice 20 = .ok (.aload_n 0, 1) := dK_d_207.2.2.2.2.1
theorem dX11_practice_21 : decode cX11_practice 21 = .ok (.iload_n 1, 1) := dK_d_207.2.2.2.2.2.1
theorem dX11_practice_22 : decode cX11_practice 22 = .ok (.invokevirtual 254, 3) := dK_d_207.2.2.2.2.2.2.1
theorem dX11_practice_25 : decode cX11_practice 25 = .ok (.lstore_n 3, 1) := dK_d_207.2.2.2.2.2.2.2.1
theorem dK_d_208 : dk_P cX11_practice [(26, (.bipush (-9), 2)), (28, (.istore 5, 2)), (30, (.iconst 0, 1)), (31, (.istore 6, 2)), (33, (.iload 6, 2)), (35, (.iconst 5, 1)), (36, (.if_icmp .ge 65, 3)), (39, (.aload_n 0, 1))] := dk_of 26 (by decide +kernel)
theorem dX11_practice_26 : decode cX11_practice 26 = .ok (.bipush (-9), 2) := dK_d_208.1
theorem dX11_practice_28 : decode cX11_practice 28 = .ok (.istore 5, 2) := dK_d_208.2.1
theorem dX11_practice_30 : decode cX11_practice 30 = .ok (.iconst 0, 1) := dK_d_208.2.2.1
theorem dX11_practice_31 : decode cX11_practice 31 = .ok (.istore 6, 2) := dK_d_208.2.2.2.1
theorem dX11_practice_33 : decode cX11_practice 33 = .ok (.iload 6, 2) := dK_d_208.2.2.2.2.1
theorem dX11_practice_35 : decode cX11_practice 35 = .ok (.iconst 5, 1) := dK_d_208.2.2.2.2.2.1
theorem dX11_practice_36 : decode cX11_practice 36 = .ok (.if_icmp .ge 65, 3) := dK_d_208.2.2.2.2.2.2.1
theorem dX11_practice_39 : decode cX11_practice 39 = .ok (.aload_n 0, 1) := dK_d_208.2.2.2.2.2.2.2.1
theorem dK_d_209 : dk_P cX11_practice [(40, (.iload_n 1, 1)), (41, (.iload 6, 2)), (43, (.invokevirtual 327, 3)), (46, (.ifCond .ne 6, 3)), (49, (.goto 46, 3)), (52, (.aload_n 0, 1)), (53, (.iload_n 1, 1)), (54, (.iload 6, 2))] := dk_of 40 (by decide +kernel)
theorem dX11_practice_40 : decode cX11_practice 40 = .ok (.iload_n 1, 1) := dK_d_209.1
theorem dX11_practice_41 : decode cX11_practice 41 = .ok (.iload 6, 2) := dK_d_209.2.1
theorem dX11_practice_43 : decode cX11_practice 43 = .ok (.invokevirtual 327, 3) := dK_d_209.2.2.1
theorem dX11_practice_46 : decode cX11_practice 46 = .ok (.ifCond .ne 6, 3) := dK_d_209.2.2.2.1
theorem dX11_practice_49 : decode cX11_practice 49 = .ok (.goto 46, 3) := dK_d_209.2.2.2.2.1
theorem dX11_practice_52 : decode cX11_practice 52 = .ok (.aload_n 0, 1) := dK_d_209.2.2.2.2.2.1
theorem dX11_practice_53 : decode cX11_practice 53 = .ok (.iload_n 1, 1) := dK_d_209.2.2.2.2.2.2.1
theorem dX11_practice_54 : decode cX11_practice 54 = .ok (.iload 6, 2) := dK_d_209.2.2.2.2.2.2.2.1
theorem dK_d_210 : dk_P cX11_practice [(56, (.iconst 1, 1)), (57, (.invokevirtual 330, 3)), (60, (.aload_n 0, 1)), (61, (.iload_n 1, 1)), (62, (.iload_n 2, 1)), (63, (.iconst 2, 1)), (64, (.iconst 0, 1)), (65, (.invokevirtual 242, 3))] := dk_of 56 (by decide +kernel)
theorem dX11_practice_56 : decode cX11_practice 56 = .ok (.iconst 1, 1) := dK_d_210.1
theorem dX11_practice_57 : decode cX11_practice 57 = .ok (.invokevirtual 330, 3) := dK_d_210.2.1
theorem dX11_practice_60 : decode cX11_practice 60 = .ok (.aload_n 0, 1) := dK_d_210.2.2.1
theorem dX11_practice_61 : decode cX11_practice 61 = .ok (.iload_n 1, 1) := dK_d_210.2.2.2.1
theorem dX11_practice_62 : decode cX11_practice 62 = .ok (.iload_n 2, 1) := dK_d_210.2.2.2.2.1
theorem dX11_practice_63 : decode cX11_practice 63 = .ok (.iconst 2, 1) := dK_d_210.2.2.2.2.2.1
theorem dX11_practice_64 : decode cX11_practice 64 = .ok (.iconst 0, 1) := dK_d_210.2.2.2.2.2.2.1
theorem dX11_practice_65 : decode cX11_practice 65 = .ok (.invokevirtual 242, 3) := dK_d_210.2.2.2.2.2.2.2.1
theorem dK_d_211 : dk_P cX11_practice [(68, (.lstore 7, 2)), (70, (.aload_n 0, 1)), (71, (.iload_n 1, 1)), (72, (.iload 6, 2)), (74, (.iconst (-1), 1)), (75, (.invokevirtual 330, 3)), (78, (.lload 7, 2)), (80, (.lload_n 3, 1))] := dk_of 68 (by decide +kernel)
theorem dX11_practice_68 : decode cX11_practice 68 = .ok (.lstore 7, 2) := dK_d_211.1
theorem dX11_practice_70 : decode cX11_practice 70 = .ok (.aload_n 0, 1) := dK_d_211.2.1
theorem dX11_practice_71 : decode cX11_practice 71 = .ok (.iload_n 1, 1) := dK_d_211.2.2.1
theorem dX11_practice_72 : decode cX11_practice 72 = .ok (.iload 6, 2) := dK_d_211.2.2.2.1
theorem dX11_practice_74 : decode cX11_practice 74 = .ok (.iconst (-1), 1) := dK_d_211.2.2.2.2.1
theorem dX11_practice_75 : decode cX11_practice 75 = .ok (.invokevirtual 330, 3) := dK_d_211.2.2.2.2.2.1
theorem dX11_practice_78 : decode cX11_practice 78 = .ok (.lload 7, 2) := dK_d_211.2.2.2.2.2.2.1
theorem dX11_practice_80 : decode cX11_practice 80 = .ok (.lload_n 3, 1) := dK_d_211.2.2.2.2.2.2.2.1
theorem dK_d_212 : dk_P cX11_practice [(81, (.lcmp, 1)), (82, (.ifCond .gt 6, 3)), (85, (.goto 10, 3)), (88, (.iload 6, 2)), (90, (.istore 5, 2)), (92, (.lload 7, 2)), (94, (.lstore_n 3, 1)), (95, (.iinc 6 1, 3))] := dk_of 81 (by decide +kernel)
theorem dX11_practice_81 : decode cX11_practice 81 = .ok (.lcmp, 1) := dK_d_212.1
theorem dX11_practice_82 : decode cX11_practice 82 = .ok (.ifCond .gt 6, 3) := dK_d_212.2.1
theorem dX11_practice_85 : decode cX11_practice 85 = .ok (.goto 10, 3) := dK_d_212.2.2.1
theorem dX11_practice_88 : decode cX11_practice 88 = .ok (.iload 6, 2) := dK_d_212.2.2.2.1
theorem dX11_practice_90 : decode cX11_practice 90 = .ok (.istore 5, 2) := dK_d_212.2.2.2.2.1
theorem dX11_practice_92 : decode cX11_practice 92 = .ok (.lload 7, 2) := dK_d_212.2.2.2.2.2.1
theorem dX11_practice_94 : decode cX11_practice 94 = .ok (.lstore_n 3, 1) := dK_d_212.2.2.2.2.2.2.1
theorem dX11_practice_95 : decode cX11_practice 95 = .ok (.iinc 6 1, 3) := dK_d_212.2.2.2.2.2.2.2.1
theorem dK_d_213 : dk_P cX11_practice [(98, (.goto (-65), 3)), (101, (.iload 5, 2)), (103, (.ireturn, 1))] := dk_of 98 (by decide +kernel)
theorem dX11_practice_98 : decode cX11_practice 98 = .ok (.goto (-65), 3) := dK_d_213.1
theorem dX11_practice_101 : decode cX11_practice 101 = .ok (.iload 5, 2) := dK_d_213.2.1
theorem dX11_practice_103 : decode cX11_practice 103 = .ok (.ireturn, 1) := dK_d_213.2.2.1
theorem dK_d_214 : dk_P cX11_bestRun [(0, (.aload_n 0, 1)), (1, (.iload_n 1, 1)), (2, (.invokevirtual 207, 3)), (5, (.ifCond .ne 9, 3)), (8, (.aload_n 0, 1)), (9, (.iconst (-1), 1)), (10, (.invokevirtual 115, 3)), (13, (.ireturn, 1))] := dk_of 0 (by decide +kernel)
theorem dX11_bestRun_0 : decode cX11_bestRun 0 = .ok (.aload_n 0, 1) := dK_d_214.1
theorem dX11_bestRun_1 : decode cX11_bestRun 1 = .ok (.iload_n 1, 1) := dK_d_214.2.1
theorem dX11_bestRun_2 : decode cX11_bestRun 2 = .ok (.invokevirtual 207, 3) := dK_d_214.2.2.1
theorem dX11_bestRun_5 : decode cX11_bestRun 5 = .ok (.ifCond .ne 9, 3) := dK_d_214.2.2.2.1
theorem dX11_bestRun_8 : decode cX11_bestRun 8 = .ok (.aload_n 0, 1) := dK_d_214.2.2.2.2.1
theorem dX11_bestRun_9 : decode cX11_bestRun 9 = .ok (.iconst (-1), 1) := dK_d_214.2.2.2.2.2.1
theorem dX11_bestRun_10 : decode cX11_bestRun 10 = .ok (.invokevirtual 115, 3) := dK_d_214.2.2.2.2.2.2.1
theorem dX11_bestRun_13 : decode cX11_bestRun 13 = .ok (.ireturn, 1) := dK_d_214.2.2.2.2.2.2.2.1
theorem dK_d_215 : dk_P cX11_bestRun [(14, (.aload_n 0, 1)), (15, (.getfield 95, 3)), (18, (.istore_n 2, 1)), (19, (.iconst 4, 1)), (20, (.istore_n 3, 1)), (21, (.ldc2_w 257, 3)), (24, (.lstore 4, 2)), (26, (.iconst 4, 1))] := dk_of 14 (by decide +kernel)
theorem dX11_bestRun_14 : decode cX11_bestRun 14 = .ok (.aload_n 0, 1) := dK_d_215.1
theorem dX11_bestRun_15 : decode cX11_bestRun 15 = .ok (.getfield 95, 3) := dK_d_215.2.1
theorem dX11_bestRun_18 : decode cX11_bestRun 18 = .ok (.istore_n 2, 1) := dK_d_215.2.2.1
theorem dX11_bestRun_19 : decode cX11_bestRun 19 = .ok (.iconst 4, 1) := dK_d_215.2.2.2.1
theorem dX11_bestRun_20 : decode cX11_bestRun 20 = .ok (.istore_n 3, 1) := dK_d_215.2.2.2.2.1
theorem dX11_bestRun_21 : decode cX11_bestRun 21 = .ok (.ldc2_w 257, 3) := dK_d_215.2.2.2.2.2.1
theorem dX11_bestRun_24 : decode cX11_bestRun 24 = .ok (.lstore 4, 2) := dK_d_215.2.2.2.2.2.2.1
theorem dX11_bestRun_26 : decode cX11_bestRun 26 = .ok (.iconst 4, 1) := dK_d_215.2.2.2.2.2.2.2.1
theorem dK_d_216 : dk_P cX11_bestRun [(27, (.istore 6, 2)), (29, (.iload 6, 2)), (31, (.bipush 20, 2)), (33, (.if_icmp .gt 67, 3)), (36, (.aload_n 0, 1)), (37, (.iload 6, 2)), (39, (.putfield 95, 3)), (42, (.aload_n 0, 1))] := dk_of 27 (by decide +kernel)
theorem dX11_bestRun_27 : decode cX11_bestRun 27 = .ok (.istore 6, 2) := dK_d_216.1
theorem dX11_bestRun_29 : decode cX11_bestRun 29 = .ok (.iload 6, 2) := dK_d_216.2.1
theorem dX11_bestRun_31 : decode cX11_bestRun 31 = .ok (.bipush 20, 2) := dK_d_216.2.2.1
theorem dX11_bestRun_33 : decode cX11_bestRun 33 = .ok (.if_icmp .gt 67, 3) := dK_d_216.2.2.2.1
theorem dX11_bestRun_36 : decode cX11_bestRun 36 = .ok (.aload_n 0, 1) := dK_d_216.2.2.2.2.1
theorem dX11_bestRun_37 : decode cX11_bestRun 37 = .ok (.iload 6, 2) := dK_d_216.2.2.2.2.2.1
theorem dX11_bestRun_39 : decode cX11_bestRun 39 = .ok (.putfield 95, 3) := dK_d_216.2.2.2.2.2.2.1
theorem dX11_bestRun_42 : decode cX11_bestRun 42 = .ok (.aload_n 0, 1) := dK_d_216.2.2.2.2.2.2.2.1
theorem dK_d_217 : dk_P cX11_bestRun [(43, (.iload_n 1, 1)), (44, (.aload_n 0, 1)), (45, (.iload_n 1, 1)), (46, (.invokevirtual 210, 3)), (49, (.iconst 2, 1)), (50, (.iconst 0, 1)), (51, (.invokevirtual 242, 3)), (54, (.lstore 7, 2))] := dk_of 43 (by decide +kernel)
theorem dX11_bestRun_43 : decode cX11_bestRun 43 = .ok (.iload_n 1, 1) := dK_d_217.1
theorem dX11_bestRun_44 : decode cX11_bestRun 44 = .ok (.aload_n 0, 1) := dK_d_217.2.1
theorem dX11_bestRun_45 : decode cX11_bestRun 45 = .ok (.iload_n 1, 1) := dK_d_217.2.2.1
theorem dX11_bestRun_46 : decode cX11_bestRun 46 = .ok (.invokevirtual 210, 3) := dK_d_217.2.2.2.1
theorem dX11_bestRun_49 : decode cX11_bestRun 49 = .ok (.iconst 2, 1) := dK_d_217.2.2.2.2.1
theorem dX11_bestRun_50 : decode cX11_bestRun 50 = .ok (.iconst 0, 1) := dK_d_217.2.2.2.2.2.1
theorem dX11_bestRun_51 : decode cX11_bestRun 51 = .ok (.invokevirtual 242, 3) := dK_d_217.2.2.2.2.2.2.1
theorem dX11_bestRun_54 : decode cX11_bestRun 54 = .ok (.lstore 7, 2) := dK_d_217.2.2.2.2.2.2.2.1
theorem dK_d_218 : dk_P cX11_bestRun [(56, (.lconst 1, 1)), (57, (.iconst 2, 1)), (58, (.iload 6, 2)), (60, (.iload_n 3, 1)), (61, (.isub, 1)), (62, (.imul, 1)), (63, (.lshl, 1)), (64, (.lstore 9, 2))] := dk_of 56 (by decide +kernel)
theorem dX11_bestRun_56 : decode cX11_bestRun 56 = .ok (.lconst 1, 1) := dK_d_218.1
theorem dX11_bestRun_57 : decode cX11_bestRun 57 = .ok (.iconst 2, 1) := dK_d_218.2.1
theorem dX11_bestRun_58 : decode cX11_bestRun 58 = .ok (.iload 6, 2) := dK_d_218.2.2.1
theorem dX11_bestRun_60 : decode cX11_bestRun 60 = .ok (.iload_n 3, 1) := dK_d_218.2.2.2.1
theorem dX11_bestRun_61 : decode cX11_bestRun 61 = .ok (.isub, 1) := dK_d_218.2.2.2.2.1
theorem dX11_bestRun_62 : decode cX11_bestRun 62 = .ok (.imul, 1) := dK_d_218.2.2.2.2.2.1
theorem dX11_bestRun_63 : decode cX11_bestRun 63 = .ok (.lshl, 1) := dK_d_218.2.2.2.2.2.2.1
theorem dX11_bestRun_64 : decode cX11_bestRun 64 = .ok (.lstore 9, 2) := dK_d_218.2.2.2.2.2.2.2.1
theorem dK_d_219 : dk_P cX11_bestRun [(66, (.lload 4, 2)), (68, (.lconst 0, 1)), (69, (.lcmp, 1)), (70, (.ifCond .lt 17, 3)), (73, (.lload 7, 2)), (75, (.lload 4, 2)), (77, (.lload 9, 2)), (79, (.lmul, 1))] := dk_of 66 (by decide +kernel)
theorem dX11_bestRun_66 : decode cX11_bestRun 66 = .ok (.lload 4, 2) := dK_d_219.1
theorem dX11_bestRun_68 : decode cX11_bestRun 68 = .ok (.lconst 0, 1) := dK_d_219.2.1
theorem dX11_bestRun_69 : decode cX11_bestRun 69 = .ok (.lcmp, 1) := dK_d_219.2.2.1
theorem dX11_bestRun_70 : decode cX11_bestRun 70 = .ok (.ifCond .lt 17, 3) := dK_d_219.2.2.2.1
theorem dX11_bestRun_73 : decode cX11_bestRun 73 = .ok (.lload 7, 2) := dK_d_219.2.2.2.2.1
theorem dX11_bestRun_75 : decode cX11_bestRun 75 = .ok (.lload 4, 2) := dK_d_219.2.2.2.2.2.1
theorem dX11_bestRun_77 : decode cX11_bestRun 77 = .ok (.lload 9, 2) := dK_d_219.2.2.2.2.2.2.1
theorem dX11_bestRun_79 : decode cX11_bestRun 79 = .ok (.lmul, 1) := dK_d_219.2.2.2.2.2.2.2.1
theorem dK_d_220 : dk_P cX11_bestRun [(80, (.lcmp, 1)), (81, (.ifCond .gt 6, 3)), (84, (.goto 10, 3)), (87, (.iload 6, 2)), (89, (.istore_n 3, 1)), (90, (.lload 7, 2)), (92, (.lstore 4, 2)), (94, (.iinc 6 1, 3))] := dk_of 80 (by decide +kernel)
theorem dX11_bestRun_80 : decode cX11_bestRun 80 = .ok (.lcmp, 1) := dK_d_220.1
theorem dX11_bestRun_81 : decode cX11_bestRun 81 = .ok (.ifCond .gt 6, 3) := dK_d_220.2.1
theorem dX11_bestRun_84 : decode cX11_bestRun 84 = .ok (.goto 10, 3) := dK_d_220.2.2.1
theorem dX11_bestRun_87 : decode cX11_bestRun 87 = .ok (.iload 6, 2) := dK_d_220.2.2.2.1
theorem dX11_bestRun_89 : decode cX11_bestRun 89 = .ok (.istore_n 3, 1) := dK_d_220.2.2.2.2.1
theorem dX11_bestRun_90 : decode cX11_bestRun 90 = .ok (.lload 7, 2) := dK_d_220.2.2.2.2.2.1
theorem dX11_bestRun_92 : decode cX11_bestRun 92 = .ok (.lstore 4, 2) := dK_d_220.2.2.2.2.2.2.1
theorem dX11_bestRun_94 : decode cX11_bestRun 94 = .ok (.iinc 6 1, 3) := dK_d_220.2.2.2.2.2.2.2.1
theorem dK_d_221 : dk_P cX11_bestRun [(97, (.goto (-68), 3)), (100, (.aload_n 0, 1)), (101, (.iload_n 2, 1)), (102, (.putfield 95, 3)), (105, (.iload_n 3, 1)), (106, (.ireturn, 1))] := dk_of 97 (by decide +kernel)
theorem dX11_bestRun_97 : decode cX11_bestRun 97 = .ok (.goto (-68), 3) := dK_d_221.1
theorem dX11_bestRun_100 : decode cX11_bestRun 100 = .ok (.aload_n 0, 1) := dK_d_221.2.1
theorem dX11_bestRun_101 : decode cX11_bestRun 101 = .ok (.iload_n 2, 1) := dK_d_221.2.2.1
theorem dX11_bestRun_102 : decode cX11_bestRun 102 = .ok (.putfield 95, 3) := dK_d_221.2.2.2.1
theorem dX11_bestRun_105 : decode cX11_bestRun 105 = .ok (.iload_n 3, 1) := dK_d_221.2.2.2.2.1
theorem dX11_bestRun_106 : decode cX11_bestRun 106 = .ok (.ireturn, 1) := dK_d_221.2.2.2.2.2.1
theorem dK_d_222 : dk_P cX11_markIn [(0, (.aload_n 0, 1)), (1, (.iload_n 1, 1)), (2, (.invokevirtual 207, 3)), (5, (.ifCond .ne 7, 3)), (8, (.iconst (-1), 1)), (9, (.goto 11, 3)), (12, (.iload_n 2, 1)), (13, (.bipush (-9), 2))] := dk_of 0 (by decide +kernel)
theorem dX11_markIn_0 : decode cX11_markIn 0 = .ok (.aload_n 0, 1) := dK_d_222.1
theorem dX11_markIn_1 : decode cX11_markIn 1 = .ok (.iload_n 1, 1) := dK_d_222.2.1
theorem dX11_markIn_2 : decode cX11_markIn 2 = .ok (.invokevirtual 207, 3) := dK_d_222.2.2.1
theorem dX11_markIn_5 : decode cX11_markIn 5 = .ok (.ifCond .ne 7, 3) := dK_d_222.2.2.2.1
theorem dX11_markIn_8 : decode cX11_markIn 8 = .ok (.iconst (-1), 1) := dK_d_222.2.2.2.2.1
theorem dX11_markIn_9 : decode cX11_markIn 9 = .ok (.goto 11, 3) := dK_d_222.2.2.2.2.2.1
theorem dX11_markIn_12 : decode cX11_markIn 12 = .ok (.iload_n 2, 1) := dK_d_222.2.2.2.2.2.2.1
theorem dX11_markIn_13 : decode cX11_markIn 13 = .ok (.bipush (-9), 2) := dK_d_222.2.2.2.2.2.2.2.1
theorem dK_d_223 : dk_P cX11_markIn [(15, (.bipush 9, 2)), (17, (.invokestatic 108, 3)), (20, (.istore_n 3, 1)), (21, (.iload_n 3, 1)), (22, (.ifCond .eq 9, 3)), (25, (.aload_n 0, 1)), (26, (.iload_n 3, 1)), (27, (.invokevirtual 115, 3))] := dk_of 15 (by decide +kernel)
theorem dX11_markIn_15 : decode cX11_markIn 15 = .ok (.bipush 9, 2) := dK_d_223.1
theorem dX11_markIn_17 : decode cX11_markIn 17 = .ok (.invokestatic 108, 3) := dK_d_223.2.1
theorem dX11_markIn_20 : decode cX11_markIn 20 = .ok (.istore_n 3, 1) := dK_d_223.2.2.1
theorem dX11_markIn_21 : decode cX11_markIn 21 = .ok (.iload_n 3, 1) := dK_d_223.2.2.2.1
theorem dX11_markIn_22 : decode cX11_markIn 22 = .ok (.ifCond .eq 9, 3) := dK_d_223.2.2.2.2.1
theorem dX11_markIn_25 : decode cX11_markIn 25 = .ok (.aload_n 0, 1) := dK_d_223.2.2.2.2.2.1
theorem dX11_markIn_26 : decode cX11_markIn 26 = .ok (.iload_n 3, 1) := dK_d_223.2.2.2.2.2.2.1
theorem dX11_markIn_27 : decode cX11_markIn 27 = .ok (.invokevirtual 115, 3) := dK_d_223.2.2.2.2.2.2.2.1
theorem dK_d_224 : dk_P cX11_markIn [(30, (.ireturn, 1)), (31, (.aload_n 0, 1)), (32, (.iload_n 1, 1)), (33, (.iload_n 2, 1)), (34, (.invokevirtual 200, 3)), (37, (.aload_n 0, 1)), (38, (.iload_n 1, 1)), (39, (.invokevirtual 210, 3))] := dk_of 30 (by decide +kernel)
theorem dX11_markIn_30 : decode cX11_markIn 30 = .ok (.ireturn, 1) := dK_d_224.1
theorem dX11_markIn_31 : decode cX11_markIn 31 = .ok (.aload_n 0, 1) := dK_d_224.2.1
theorem dX11_markIn_32 : decode cX11_markIn 32 = .ok (.iload_n 1, 1) := dK_d_224.2.2.1
theorem dX11_markIn_33 : decode cX11_markIn 33 = .ok (.iload_n 2, 1) := dK_d_224.2.2.2.1
theorem dX11_markIn_34 : decode cX11_markIn 34 = .ok (.invokevirtual 200, 3) := dK_d_224.2.2.2.2.1
theorem dX11_markIn_37 : decode cX11_markIn 37 = .ok (.aload_n 0, 1) := dK_d_224.2.2.2.2.2.1
theorem dX11_markIn_38 : decode cX11_markIn 38 = .ok (.iload_n 1, 1) := dK_d_224.2.2.2.2.2.2.1
theorem dX11_markIn_39 : decode cX11_markIn 39 = .ok (.invokevirtual 210, 3) := dK_d_224.2.2.2.2.2.2.2.1
theorem dK_d_225 : dk_P cX11_markIn [(42, (.iadd, 1)), (43, (.istore 4, 2)), (45, (.iload 4, 2)), (47, (.ifCond .ge 7, 3)), (50, (.iconst 0, 1)), (51, (.goto 19, 3)), (54, (.iload 4, 2)), (56, (.sipush 2400, 3))] := dk_of 42 (by decide +kernel)
theorem dX11_markIn_42 : decode cX11_markIn 42 = .ok (.iadd, 1) := dK_d_225.1
theorem dX11_markIn_43 : decode cX11_markIn 43 = .ok (.istore 4, 2) := dK_d_225.2.1
theorem dX11_markIn_45 : decode cX11_markIn 45 = .ok (.iload 4, 2) := dK_d_225.2.2.1
theorem dX11_markIn_47 : decode cX11_markIn 47 = .ok (.ifCond .ge 7, 3) := dK_d_225.2.2.2.1
theorem dX11_markIn_50 : decode cX11_markIn 50 = .ok (.iconst 0, 1) := dK_d_225.2.2.2.2.1
theorem dX11_markIn_51 : decode cX11_markIn 51 = .ok (.goto 19, 3) := dK_d_225.2.2.2.2.2.1
theorem dX11_markIn_54 : decode cX11_markIn 54 = .ok (.iload 4, 2) := dK_d_225.2.2.2.2.2.2.1
theorem dX11_markIn_56 : decode cX11_markIn 56 = .ok (.sipush 2400, 3) := dK_d_225.2.2.2.2.2.2.2.1
theorem dK_d_226 : dk_P cX11_markIn [(59, (.if_icmp .le 9, 3)), (62, (.sipush 2400, 3)), (65, (.goto 5, 3)), (68, (.iload 4, 2)), (70, (.ireturn, 1))] := dk_of 59 (by decide +kernel)
theorem dX11_markIn_59 : decode cX11_markIn 59 = .ok (.if_icmp .le 9, 3) := dK_d_226.1
theorem dX11_markIn_62 : decode cX11_markIn 62 = .ok (.sipush 2400, 3) := dK_d_226.2.1
theorem dX11_markIn_65 : decode cX11_markIn 65 = .ok (.goto 5, 3) := dK_d_226.2.2.1
theorem dX11_markIn_68 : decode cX11_markIn 68 = .ok (.iload 4, 2) := dK_d_226.2.2.2.1
theorem dX11_markIn_70 : decode cX11_markIn 70 = .ok (.ireturn, 1) := dK_d_226.2.2.2.2.1
theorem dK_d_227 : dk_P cX11_triesBy [(0, (.iconst 0, 1)), (1, (.istore_n 3, 1)), (2, (.iconst 0, 1)), (3, (.istore 4, 2)), (5, (.iload 4, 2)), (7, (.aload_n 0, 1)), (8, (.getfield 147, 3)), (11, (.if_icmp .ge 39, 3))] := dk_of 0 (by decide +kernel)
theorem dX11_triesBy_0 : decode cX11_triesBy 0 = .ok (.iconst 0, 1) := dK_d_227.1
theorem dX11_triesBy_1 : decode cX11_triesBy 1 = .ok (.istore_n 3, 1) := dK_d_227.2.1
theorem dX11_triesBy_2 : decode cX11_triesBy 2 = .ok (.iconst 0, 1) := dK_d_227.2.2.1
theorem dX11_triesBy_3 : decode cX11_triesBy 3 = .ok (.istore 4, 2) := dK_d_227.2.2.2.1
theorem dX11_triesBy_5 : decode cX11_triesBy 5 = .ok (.iload 4, 2) := dK_d_227.2.2.2.2.1
theorem dX11_triesBy_7 : decode cX11_triesBy 7 = .ok (.aload_n 0, 1) := dK_d_227.2.2.2.2.2.1
theorem dX11_triesBy_8 : decode cX11_triesBy 8 = .ok (.getfield 147, 3) := dK_d_227.2.2.2.2.2.2.1
theorem dX11_triesBy_11 : decode cX11_triesBy 11 = .ok (.if_icmp .ge 39, 3) := dK_d_227.2.2.2.2.2.2.2.1
theorem dK_d_228 : dk_P cX11_triesBy [(14, (.iload_n 3, 1)), (15, (.aload_n 0, 1)), (16, (.getfield 37, 3)), (19, (.iload 4, 2)), (21, (.iaload, 1)), (22, (.iload_n 1, 1)), (23, (.if_icmp .ne 18, 3)), (26, (.aload_n 0, 1))] := dk_of 14 (by decide +kernel)
theorem dX11_triesBy_14 : decode cX11_triesBy 14 = .ok (.iload_n 3, 1) := dK_d_228.1
theorem dX11_triesBy_15 : decode cX11_triesBy 15 = .ok (.aload_n 0, 1) := dK_d_228.2.1
theorem dX11_triesBy_16 : decode cX11_triesBy 16 = .ok (.getfield 37, 3) := dK_d_228.2.2.1
theorem dX11_triesBy_19 : decode cX11_triesBy 19 = .ok (.iload 4, 2) := dK_d_228.2.2.2.1
theorem dX11_triesBy_21 : decode cX11_triesBy 21 = .ok (.iaload, 1) := dK_d_228.2.2.2.2.1
theorem dX11_triesBy_22 : decode cX11_triesBy 22 = .ok (.iload_n 1, 1) := dK_d_228.2.2.2.2.2.1
theorem dX11_triesBy_23 : decode cX11_triesBy 23 = .ok (.if_icmp .ne 18, 3) := dK_d_228.2.2.2.2.2.2.1
theorem dX11_triesBy_26 : decode cX11_triesBy 26 = .ok (.aload_n 0, 1) := dK_d_228.2.2.2.2.2.2.2.1
theorem dK_d_229 : dk_P cX11_triesBy [(27, (.getfield 40, 3)), (30, (.iload 4, 2)), (32, (.iaload, 1)), (33, (.iload_n 2, 1)), (34, (.if_icmp .ne 7, 3)), (37, (.iconst 1, 1)), (38, (.goto 4, 3)), (41, (.iconst 0, 1))] := dk_of 27 (by decide +kernel)
theorem dX11_triesBy_27 : decode cX11_triesBy 27 = .ok (.getfield 40, 3) := dK_d_229.1
theorem dX11_triesBy_30 : decode cX11_triesBy 30 = .ok (.iload 4, 2) := dK_d_229.2.1
theorem dX11_triesBy_32 : decode cX11_triesBy 32 = .ok (.iaload, 1) := dK_d_229.2.2.1
theorem dX11_triesBy_33 : decode cX11_triesBy 33 = .ok (.iload_n 2, 1) := dK_d_229.2.2.2.1
theorem dX11_triesBy_34 : decode cX11_triesBy 34 = .ok (.if_icmp .ne 7, 3) := dK_d_229.2.2.2.2.1
theorem dX11_triesBy_37 : decode cX11_triesBy 37 = .ok (.iconst 1, 1) := dK_d_229.2.2.2.2.2.1
theorem dX11_triesBy_38 : decode cX11_triesBy 38 = .ok (.goto 4, 3) := dK_d_229.2.2.2.2.2.2.1
theorem dX11_triesBy_41 : decode cX11_triesBy 41 = .ok (.iconst 0, 1) := dK_d_229.2.2.2.2.2.2.2.1
theorem dK_d_230 : dk_P cX11_triesBy [(42, (.iadd, 1)), (43, (.istore_n 3, 1)), (44, (.iinc 4 1, 3)), (47, (.goto (-42), 3)), (50, (.iload_n 3, 1)), (51, (.ireturn, 1))] := dk_of 42 (by decide +kernel)
theorem dX11_triesBy_42 : decode cX11_triesBy 42 = .ok (.iadd, 1) := dK_d_230.1
theorem dX11_triesBy_43 : decode cX11_triesBy 43 = .ok (.istore_n 3, 1) := dK_d_230.2.1
theorem dX11_triesBy_44 : decode cX11_triesBy 44 = .ok (.iinc 4 1, 3) := dK_d_230.2.2.1
theorem dX11_triesBy_47 : decode cX11_triesBy 47 = .ok (.goto (-42), 3) := dK_d_230.2.2.2.1
theorem dX11_triesBy_50 : decode cX11_triesBy 50 = .ok (.iload_n 3, 1) := dK_d_230.2.2.2.2.1
theorem dX11_triesBy_51 : decode cX11_triesBy 51 = .ok (.ireturn, 1) := dK_d_230.2.2.2.2.2.1
theorem dK_d_231 : dk_P cX11_fouled [(0, (.aload_n 0, 1)), (1, (.iload_n 1, 1)), (2, (.invokevirtual 207, 3)), (5, (.ifCond .ne 9, 3)), (8, (.aload_n 0, 1)), (9, (.iconst (-1), 1)), (10, (.invokevirtual 238, 3)), (13, (.lreturn, 1))] := dk_of 0 (by decide +kernel)
theorem dX11_fouled_0 : decode cX11_fouled 0 = .ok (.aload_n 0, 1) := dK_d_231.1
theorem dX11_fouled_1 : decode cX11_fouled 1 = .ok (.iload_n 1, 1) := dK_d_231.2.1
theorem dX11_fouled_2 : decode cX11_fouled 2 = .ok (.invokevirtual 207, 3) := dK_d_231.2.2.1
theorem dX11_fouled_5 : decode cX11_fouled 5 = .ok (.ifCond .ne 9, 3) := dK_d_231.2.2.2.1
theorem dX11_fouled_8 : decode cX11_fouled 8 = .ok (.aload_n 0, 1) := dK_d_231.2.2.2.2.1
theorem dX11_fouled_9 : decode cX11_fouled 9 = .ok (.iconst (-1), 1) := dK_d_231.2.2.2.2.2.1
theorem dX11_fouled_10 : decode cX11_fouled 10 = .ok (.invokevirtual 238, 3) := dK_d_231.2.2.2.2.2.2.1
theorem dX11_fouled_13 : decode cX11_fouled 13 = .ok (.lreturn, 1) := dK_d_231.2.2.2.2.2.2.2.1
theorem dK_d_232 : dk_P cX11_fouled [(14, (.iload_n 2, 1)), (15, (.iconst 0, 1)), (16, (.iconst 1, 1)), (17, (.invokestatic 126, 3)), (20, (.ifCond .ne 10, 3)), (23, (.aload_n 0, 1)), (24, (.bipush (-2), 2)), (26, (.invokevirtual 238, 3))] := dk_of 14 (by decide +kernel)
theorem dX11_fouled_14 : decode cX11_fouled 14 = .ok (.iload_n 2, 1) := dK_d_232.1
theorem dX11_fouled_15 : decode cX11_fouled 15 = .ok (.iconst 0, 1) := dK_d_232.2.1
theorem dX11_fouled_16 : decode cX11_fouled 16 = .ok (.iconst 1, 1) := dK_d_232.2.2.1
theorem dX11_fouled_17 : decode cX11_fouled 17 = .ok (.invokestatic 126, 3) := dK_d_232.2.2.2.1
theorem dX11_fouled_20 : decode cX11_fouled 20 = .ok (.ifCond .ne 10, 3) := dK_d_232.2.2.2.2.1
theorem dX11_fouled_23 : decode cX11_fouled 23 = .ok (.aload_n 0, 1) := dK_d_232.2.2.2.2.2.1
theorem dX11_fouled_24 : decode cX11_fouled 24 = .ok (.bipush (-2), 2) := dK_d_232.2.2.2.2.2.2.1
theorem dX11_fouled_26 : decode cX11_fouled 26 = .ok (.invokevirtual 238, 3) := dK_d_232.2.2.2.2.2.2.2.1
theorem dK_d_233 : dk_P cX11_fouled [(29, (.lreturn, 1)), (30, (.aload_n 0, 1)), (31, (.iload_n 1, 1)), (32, (.invokevirtual 217, 3)), (35, (.aload_n 0, 1)), (36, (.iload_n 1, 1)), (37, (.bipush (-8), 2)), (39, (.invokevirtual 333, 3))] := dk_of 29 (by decide +kernel)
theorem dX11_fouled_29 : decode cX11_fouled 29 = .ok (.lreturn, 1) := dK_d_233.1
theorem dX11_fouled_30 : decode cX11_fouled 30 = .ok (.aload_n 0, 1) := dK_d_233.2.1
theorem dX11_fouled_31 : decode cX11_fouled 31 = .ok (.iload_n 1, 1) := dK_d_233.2.2.1
theorem dX11_fouled_32 : decode cX11_fouled 32 = .ok (.invokevirtual 217, 3) := dK_d_233.2.2.2.1
theorem dX11_fouled_35 : decode cX11_fouled 35 = .ok (.aload_n 0, 1) := dK_d_233.2.2.2.2.1
theorem dX11_fouled_36 : decode cX11_fouled 36 = .ok (.iload_n 1, 1) := dK_d_233.2.2.2.2.2.1
theorem dX11_fouled_37 : decode cX11_fouled 37 = .ok (.bipush (-8), 2) := dK_d_233.2.2.2.2.2.2.1
theorem dX11_fouled_39 : decode cX11_fouled 39 = .ok (.invokevirtual 333, 3) := dK_d_233.2.2.2.2.2.2.2.1
theorem dK_d_234 : dk_P cX11_fouled [(42, (.isub, 1)), (43, (.istore_n 3, 1)), (44, (.iload_n 3, 1)), (45, (.ifCond .ne 8, 3)), (48, (.iload_n 2, 1)), (49, (.i2l, 1)), (50, (.goto 17, 3)), (53, (.aload_n 0, 1))] := dk_of 42 (by decide +kernel)
theorem dX11_fouled_42 : decode cX11_fouled 42 = .ok (.isub, 1) := dK_d_234.1
theorem dX11_fouled_43 : decode cX11_fouled 43 = .ok (.istore_n 3, 1) := dK_d_234.2.1
theorem dX11_fouled_44 : decode cX11_fouled 44 = .ok (.iload_n 3, 1) := dK_d_234.2.2.1
theorem dX11_fouled_45 : decode cX11_fouled 45 = .ok (.ifCond .ne 8, 3) := dK_d_234.2.2.2.1
theorem dX11_fouled_48 : decode cX11_fouled 48 = .ok (.iload_n 2, 1) := dK_d_234.2.2.2.2.1
theorem dX11_fouled_49 : decode cX11_fouled 49 = .ok (.i2l, 1) := dK_d_234.2.2.2.2.2.1
theorem dX11_fouled_50 : decode cX11_fouled 50 = .ok (.goto 17, 3) := dK_d_234.2.2.2.2.2.2.1
theorem dX11_fouled_53 : decode cX11_fouled 53 = .ok (.aload_n 0, 1) := dK_d_234.2.2.2.2.2.2.2.1
theorem dK_d_235 : dk_P cX11_fouled [(54, (.iload_n 1, 1)), (55, (.bipush (-9), 2)), (57, (.invokevirtual 333, 3)), (60, (.i2l, 1)), (61, (.iload_n 3, 1)), (62, (.i2l, 1)), (63, (.iload_n 2, 1)), (64, (.invokestatic 250, 3))] := dk_of 54 (by decide +kernel)
theorem dX11_fouled_54 : decode cX11_fouled 54 = .ok (.iload_n 1, 1) := dK_d_235.1
theorem dX11_fouled_55 : decode cX11_fouled 55 = .ok (.bipush (-9), 2) := dK_d_235.2.1
theorem dX11_fouled_57 : decode cX11_fouled 57 = .ok (.invokevirtual 333, 3) := dK_d_235.2.2.1
theorem dX11_fouled_60 : decode cX11_fouled 60 = .ok (.i2l, 1) := dK_d_235.2.2.2.1
theorem dX11_fouled_61 : decode cX11_fouled 61 = .ok (.iload_n 3, 1) := dK_d_235.2.2.2.2.1
theorem dX11_fouled_62 : decode cX11_fouled 62 = .ok (.i2l, 1) := dK_d_235.2.2.2.2.2.1
theorem dX11_fouled_63 : decode cX11_fouled 63 = .ok (.iload_n 2, 1) := dK_d_235.2.2.2.2.2.2.1
theorem dX11_fouled_64 : decode cX11_fouled 64 = .ok (.invokestatic 250, 3) := dK_d_235.2.2.2.2.2.2.2.1
theorem dK_d_236 : dk_P cX11_fouled [(67, (.lreturn, 1))] := dk_of 67 (by decide +kernel)
theorem dX11_fouled_67 : decode cX11_fouled 67 = .ok (.lreturn, 1) := dK_d_236.1
theorem dK_d_237 : dk_P cX11_better [(0, (.aload_n 0, 1)), (1, (.iload_n 1, 1)), (2, (.invokevirtual 207, 3)), (5, (.ifCond .ne 9, 3)), (8, (.aload_n 0, 1)), (9, (.iconst (-1), 1)), (10, (.invokevirtual 115, 3)), (13, (.ireturn, 1))] := dk_of 0 (by decide +kernel)
theorem dX11_better_0 : decode cX11_better 0 = .ok (.aload_n 0, 1) := dK_d_237.1
theorem dX11_better_1 : decode cX11_better 1 = .ok (.iload_n 1, 1) := dK_d_237.2.1
theorem dX11_better_2 : decode cX11_better 2 = .ok (.invokevirtual 207, 3) := dK_d_237.2.2.1
theorem dX11_better_5 : decode cX11_better 5 = .ok (.ifCond .ne 9, 3) := dK_d_237.2.2.2.1
theorem dX11_better_8 : decode cX11_better 8 = .ok (.aload_n 0, 1) := dK_d_237.2.2.2.2.1
theorem dX11_better_9 : decode cX11_better 9 = .ok (.iconst (-1), 1) := dK_d_237.2.2.2.2.2.1
theorem dX11_better_10 : decode cX11_better 10 = .ok (.invokevirtual 115, 3) := dK_d_237.2.2.2.2.2.2.1
theorem dX11_better_13 : decode cX11_better 13 = .ok (.ireturn, 1) := dK_d_237.2.2.2.2.2.2.2.1
theorem dK_d_238 : dk_P cX11_better [(14, (.iconst 0, 1)), (15, (.istore_n 2, 1)), (16, (.iconst 0, 1)), (17, (.istore_n 3, 1)), (18, (.iconst 0, 1)), (19, (.istore 4, 2)), (21, (.iload 4, 2)), (23, (.aload_n 0, 1))] := dk_of 14 (by decide +kernel)
theorem dX11_better_14 : decode cX11_better 14 = .ok (.iconst 0, 1) := dK_d_238.1
theorem dX11_better_15 : decode cX11_better 15 = .ok (.istore_n 2, 1) := dK_d_238.2.1
theorem dX11_better_16 : decode cX11_better 16 = .ok (.iconst 0, 1) := dK_d_238.2.2.1
theorem dX11_better_17 : decode cX11_better 17 = .ok (.istore_n 3, 1) := dK_d_238.2.2.2.1
theorem dX11_better_18 : decode cX11_better 18 = .ok (.iconst 0, 1) := dK_d_238.2.2.2.2.1
theorem dX11_better_19 : decode cX11_better 19 = .ok (.istore 4, 2) := dK_d_238.2.2.2.2.2.1
theorem dX11_better_21 : decode cX11_better 21 = .ok (.iload 4, 2) := dK_d_238.2.2.2.2.2.2.1
theorem dX11_better_23 : decode cX11_better 23 = .ok (.aload_n 0, 1) := dK_d_238.2.2.2.2.2.2.2.1
theorem dK_d_239 : dk_P cX11_better [(24, (.getfield 147, 3)), (27, (.if_icmp .ge 45, 3)), (30, (.aload_n 0, 1)), (31, (.getfield 37, 3)), (34, (.iload 4, 2)), (36, (.iaload, 1)), (37, (.iload_n 1, 1)), (38, (.if_icmp .ne 28, 3))] := dk_of 24 (by decide +kernel)
theorem dX11_better_24 : decode cX11_better 24 = .ok (.getfield 147, 3) := dK_d_239.1
theorem dX11_better_27 : decode cX11_better 27 = .ok (.if_icmp .ge 45, 3) := dK_d_239.2.1
theorem dX11_better_30 : decode cX11_better 30 = .ok (.aload_n 0, 1) := dK_d_239.2.2.1
theorem dX11_better_31 : decode cX11_better 31 = .ok (.getfield 37, 3) := dK_d_239.2.2.2.1
theorem dX11_better_34 : decode cX11_better 34 = .ok (.iload 4, 2) := dK_d_239.2.2.2.2.1
theorem dX11_better_36 : decode cX11_better 36 = .ok (.iaload, 1) := dK_d_239.2.2.2.2.2.1
theorem dX11_better_37 : decode cX11_better 37 = .ok (.iload_n 1, 1) := dK_d_239.2.2.2.2.2.2.1
theorem dX11_better_38 : decode cX11_better 38 = .ok (.if_icmp .ne 28, 3) := dK_d_239.2.2.2.2.2.2.2.1
theorem dK_d_240 : dk_P cX11_better [(41, (.aload_n 0, 1)), (42, (.getfield 40, 3)), (45, (.iload 4, 2)), (47, (.iaload, 1)), (48, (.iload_n 2, 1)), (49, (.if_icmp .gt 6, 3)), (52, (.goto 14, 3)), (55, (.aload_n 0, 1))] := dk_of 41 (by decide +kernel)
theorem dX11_better_41 : decode cX11_better 41 = .ok (.aload_n 0, 1) := dK_d_240.1
theorem dX11_better_42 : decode cX11_better 42 = .ok (.getfield 40, 3) := dK_d_240.2.1
theorem dX11_better_45 : decode cX11_better 45 = .ok (.iload 4, 2) := dK_d_240.2.2.1
theorem dX11_better_47 : decode cX11_better 47 = .ok (.iaload, 1) := dK_d_240.2.2.2.1
theorem dX11_better_48 : decode cX11_better 48 = .ok (.iload_n 2, 1) := dK_d_240.2.2.2.2.1
theorem dX11_better_49 : decode cX11_better 49 = .ok (.if_icmp .gt 6, 3) := dK_d_240.2.2.2.2.2.1
theorem dX11_better_52 : decode cX11_better 52 = .ok (.goto 14, 3) := dK_d_240.2.2.2.2.2.2.1
theorem dX11_better_55 : decode cX11_better 55 = .ok (.aload_n 0, 1) := dK_d_240.2.2.2.2.2.2.2.1
theorem dK_d_241 : dk_P cX11_better [(56, (.getfield 40, 3)), (59, (.iload 4, 2)), (61, (.iaload, 1)), (62, (.istore_n 2, 1)), (63, (.iinc 3 1, 3)), (66, (.iinc 4 1, 3)), (69, (.goto (-48), 3)), (72, (.iload_n 3, 1))] := dk_of 56 (by decide +kernel)
theorem dX11_better_56 : decode cX11_better 56 = .ok (.getfield 40, 3) := dK_d_241.1
theorem dX11_better_59 : decode cX11_better 59 = .ok (.iload 4, 2) := dK_d_241.2.1
theorem dX11_better_61 : decode cX11_better 61 = .ok (.iaload, 1) := dK_d_241.2.2.1
theorem dX11_better_62 : decode cX11_better 62 = .ok (.istore_n 2, 1) := dK_d_241.2.2.2.1
theorem dX11_better_63 : decode cX11_better 63 = .ok (.iinc 3 1, 3) := dK_d_241.2.2.2.2.1
theorem dX11_better_66 : decode cX11_better 66 = .ok (.iinc 4 1, 3) := dK_d_241.2.2.2.2.2.1
theorem dX11_better_69 : decode cX11_better 69 = .ok (.goto (-48), 3) := dK_d_241.2.2.2.2.2.2.1
theorem dX11_better_72 : decode cX11_better 72 = .ok (.iload_n 3, 1) := dK_d_241.2.2.2.2.2.2.2.1
theorem dK_d_242 : dk_P cX11_better [(73, (.ireturn, 1))] := dk_of 73 (by decide +kernel)
theorem dX11_better_73 : decode cX11_better 73 = .ok (.ireturn, 1) := dK_d_242.1
theorem dK_d_243 : dk_P cX11_half [(0, (.aload_n 0, 1)), (1, (.iload_n 1, 1)), (2, (.invokevirtual 207, 3)), (5, (.ifCond .ne 9, 3)), (8, (.aload_n 0, 1)), (9, (.iconst (-1), 1)), (10, (.invokevirtual 115, 3)), (13, (.ireturn, 1))] := dk_of 0 (by decide +kernel)
theorem dX11_half_0 : decode cX11_half 0 = .ok (.aload_n 0, 1) := dK_d_243.1
theorem dX11_half_1 : decode cX11_half 1 = .ok (.iload_n 1, 1) := dK_d_243.2.1
theorem dX11_half_2 : decode cX11_half 2 = .ok (.invokevirtual 207, 3) := dK_d_243.2.2.1
theorem dX11_half_5 : decode cX11_half 5 = .ok (.ifCond .ne 9, 3) := dK_d_243.2.2.2.1
theorem dX11_half_8 : decode cX11_half 8 = .ok (.aload_n 0, 1) := dK_d_243.2.2.2.2.1
theorem dX11_half_9 : decode cX11_half 9 = .ok (.iconst (-1), 1) := dK_d_243.2.2.2.2.2.1
theorem dX11_half_10 : decode cX11_half 10 = .ok (.invokevirtual 115, 3) := dK_d_243.2.2.2.2.2.2.1
theorem dX11_half_13 : decode cX11_half 13 = .ok (.ireturn, 1) := dK_d_243.2.2.2.2.2.2.2.1
theorem dK_d_244 : dk_P cX11_half [(14, (.iconst 0, 1)), (15, (.istore_n 2, 1)), (16, (.iconst 0, 1)), (17, (.istore_n 3, 1)), (18, (.iload_n 3, 1)), (19, (.aload_n 0, 1)), (20, (.getfield 147, 3)), (23, (.if_icmp .ge 100, 3))] := dk_of 14 (by decide +kernel)
theorem dX11_half_14 : decode cX11_half 14 = .ok (.iconst 0, 1) := dK_d_244.1
theorem dX11_half_15 : decode cX11_half 15 = .ok (.istore_n 2, 1) := dK_d_244.2.1
theorem dX11_half_16 : decode cX11_half 16 = .ok (.iconst 0, 1) := dK_d_244.2.2.1
theorem dX11_half_17 : decode cX11_half 17 = .ok (.istore_n 3, 1) := dK_d_244.2.2.2.1
theorem dX11_half_18 : decode cX11_half 18 = .ok (.iload_n 3, 1) := dK_d_244.2.2.2.2.1
theorem dX11_half_19 : decode cX11_half 19 = .ok (.aload_n 0, 1) := dK_d_244.2.2.2.2.2.1
theorem dX11_half_20 : decode cX11_half 20 = .ok (.getfield 147, 3) := dK_d_244.2.2.2.2.2.2.1
theorem dX11_half_23 : decode cX11_half 23 = .ok (.if_icmp .ge 100, 3) := dK_d_244.2.2.2.2.2.2.2.1
theorem dK_d_245 : dk_P cX11_half [(26, (.aload_n 0, 1)), (27, (.getfield 37, 3)), (30, (.iload_n 3, 1)), (31, (.iaload, 1)), (32, (.iload_n 1, 1)), (33, (.if_icmp .ne 84, 3)), (36, (.aload_n 0, 1)), (37, (.getfield 40, 3))] := dk_of 26 (by decide +kernel)
theorem dX11_half_26 : decode cX11_half 26 = .ok (.aload_n 0, 1) := dK_d_245.1
theorem dX11_half_27 : decode cX11_half 27 = .ok (.getfield 37, 3) := dK_d_245.2.1
theorem dX11_half_30 : decode cX11_half 30 = .ok (.iload_n 3, 1) := dK_d_245.2.2.1
theorem dX11_half_31 : decode cX11_half 31 = .ok (.iaload, 1) := dK_d_245.2.2.2.1
theorem dX11_half_32 : decode cX11_half 32 = .ok (.iload_n 1, 1) := dK_d_245.2.2.2.2.1
theorem dX11_half_33 : decode cX11_half 33 = .ok (.if_icmp .ne 84, 3) := dK_d_245.2.2.2.2.2.1
theorem dX11_half_36 : decode cX11_half 36 = .ok (.aload_n 0, 1) := dK_d_245.2.2.2.2.2.2.1
theorem dX11_half_37 : decode cX11_half 37 = .ok (.getfield 40, 3) := dK_d_245.2.2.2.2.2.2.2.1
theorem dK_d_246 : dk_P cX11_half [(40, (.iload_n 3, 1)), (41, (.iaload, 1)), (42, (.bipush (-8), 2)), (44, (.if_icmp .ne 6, 3)), (47, (.goto 70, 3)), (50, (.aload_n 0, 1)), (51, (.getfield 40, 3)), (54, (.iload_n 3, 1))] := dk_of 40 (by decide +kernel)
theorem dX11_half_40 : decode cX11_half 40 = .ok (.iload_n 3, 1) := dK_d_246.1
theorem dX11_half_41 : decode cX11_half 41 = .ok (.iaload, 1) := dK_d_246.2.1
theorem dX11_half_42 : decode cX11_half 42 = .ok (.bipush (-8), 2) := dK_d_246.2.2.1
theorem dX11_half_44 : decode cX11_half 44 = .ok (.if_icmp .ne 6, 3) := dK_d_246.2.2.2.1
theorem dX11_half_47 : decode cX11_half 47 = .ok (.goto 70, 3) := dK_d_246.2.2.2.2.1
theorem dX11_half_50 : decode cX11_half 50 = .ok (.aload_n 0, 1) := dK_d_246.2.2.2.2.2.1
theorem dX11_half_51 : decode cX11_half 51 = .ok (.getfield 40, 3) := dK_d_246.2.2.2.2.2.2.1
theorem dX11_half_54 : decode cX11_half 54 = .ok (.iload_n 3, 1) := dK_d_246.2.2.2.2.2.2.2.1
theorem dK_d_247 : dk_P cX11_half [(55, (.iaload, 1)), (56, (.invokestatic 204, 3)), (59, (.istore 4, 2)), (61, (.iload_n 2, 1)), (62, (.istore 5, 2)), (64, (.iload 5, 2)), (66, (.ifCond .le 39, 3)), (69, (.aload_n 0, 1))] := dk_of 55 (by decide +kernel)
theorem dX11_half_55 : decode cX11_half 55 = .ok (.iaload, 1) := dK_d_247.1
theorem dX11_half_56 : decode cX11_half 56 = .ok (.invokestatic 204, 3) := dK_d_247.2.1
theorem dX11_half_59 : decode cX11_half 59 = .ok (.istore 4, 2) := dK_d_247.2.2.1
theorem dX11_half_61 : decode cX11_half 61 = .ok (.iload_n 2, 1) := dK_d_247.2.2.2.1
theorem dX11_half_62 : decode cX11_half 62 = .ok (.istore 5, 2) := dK_d_247.2.2.2.2.1
theorem dX11_half_64 : decode cX11_half 64 = .ok (.iload 5, 2) := dK_d_247.2.2.2.2.2.1
theorem dX11_half_66 : decode cX11_half 66 = .ok (.ifCond .le 39, 3) := dK_d_247.2.2.2.2.2.2.1
theorem dX11_half_69 : decode cX11_half 69 = .ok (.aload_n 0, 1) := dK_d_247.2.2.2.2.2.2.2.1
theorem dK_d_248 : dk_P cX11_half [(70, (.getfield 92, 3)), (73, (.iload 5, 2)), (75, (.iconst 1, 1)), (76, (.isub, 1)), (77, (.iaload, 1)), (78, (.iload 4, 2)), (80, (.if_icmp .le 25, 3)), (83, (.aload_n 0, 1))] := dk_of 70 (by decide +kernel)
theorem dX11_half_70 : decode cX11_half 70 = .ok (.getfield 92, 3) := dK_d_248.1
theorem dX11_half_73 : decode cX11_half 73 = .ok (.iload 5, 2) := dK_d_248.2.1
theorem dX11_half_75 : decode cX11_half 75 = .ok (.iconst 1, 1) := dK_d_248.2.2.1
theorem dX11_half_76 : decode cX11_half 76 = .ok (.isub, 1) := dK_d_248.2.2.2.1
theorem dX11_half_77 : decode cX11_half 77 = .ok (.iaload, 1) := dK_d_248.2.2.2.2.1
theorem dX11_half_78 : decode cX11_half 78 = .ok (.iload 4, 2) := dK_d_248.2.2.2.2.2.1
theorem dX11_half_80 : decode cX11_half 80 = .ok (.if_icmp .le 25, 3) := dK_d_248.2.2.2.2.2.2.1
theorem dX11_half_83 : decode cX11_half 83 = .ok (.aload_n 0, 1) := dK_d_248.2.2.2.2.2.2.2.1
theorem dK_d_249 : dk_P cX11_half [(84, (.getfield 92, 3)), (87, (.iload 5, 2)), (89, (.aload_n 0, 1)), (90, (.getfield 92, 3)), (93, (.iload 5, 2)), (95, (.iconst 1, 1)), (96, (.isub, 1)), (97, (.iaload, 1))] := dk_of 84 (by decide +kernel)
theorem dX11_half_84 : decode cX11_half 84 = .ok (.getfield 92, 3) := dK_d_249.1
theorem dX11_half_87 : decode cX11_half 87 = .ok (.iload 5, 2) := dK_d_249.2.1
theorem dX11_half_89 : decode cX11_half 89 = .ok (.aload_n 0, 1) := dK_d_249.2.2.1
theorem dX11_half_90 : decode cX11_half 90 = .ok (.getfield 92, 3) := dK_d_249.2.2.2.1
theorem dX11_half_93 : decode cX11_half 93 = .ok (.iload 5, 2) := dK_d_249.2.2.2.2.1
theorem dX11_half_95 : decode cX11_half 95 = .ok (.iconst 1, 1) := dK_d_249.2.2.2.2.2.1
theorem dX11_half_96 : decode cX11_half 96 = .ok (.isub, 1) := dK_d_249.2.2.2.2.2.2.1
theorem dX11_half_97 : decode cX11_half 97 = .ok (.iaload, 1) := dK_d_249.2.2.2.2.2.2.2.1
theorem dK_d_250 : dk_P cX11_half [(98, (.iastore, 1)), (99, (.iinc 5 (-1), 3)), (102, (.goto (-38), 3)), (105, (.aload_n 0, 1)), (106, (.getfield 92, 3)), (109, (.iload 5, 2)), (111, (.iload 4, 2)), (113, (.iastore, 1))] := dk_of 98 (by decide +kernel)
theorem dX11_half_98 : decode cX11_half 98 = .ok (.iastore, 1) := dK_d_250.1
theorem dX11_half_99 : decode cX11_half 99 = .ok (.iinc 5 (-1), 3) := dK_d_250.2.1
theorem dX11_half_102 : decode cX11_half 102 = .ok (.goto (-38), 3) := dK_d_250.2.2.1
theorem dX11_half_105 : decode cX11_half 105 = .ok (.aload_n 0, 1) := dK_d_250.2.2.2.1
theorem dX11_half_106 : decode cX11_half 106 = .ok (.getfield 92, 3) := dK_d_250.2.2.2.2.1
theorem dX11_half_109 : decode cX11_half 109 = .ok (.iload 5, 2) := dK_d_250.2.2.2.2.2.1
theorem dX11_half_111 : decode cX11_half 111 = .ok (.iload 4, 2) := dK_d_250.2.2.2.2.2.2.1
theorem dX11_half_113 : decode cX11_half 113 = .ok (.iastore, 1) := dK_d_250.2.2.2.2.2.2.2.1
theorem dK_d_251 : dk_P cX11_half [(114, (.iinc 2 1, 3)), (117, (.iinc 3 1, 3)), (120, (.goto (-102), 3)), (123, (.iload_n 2, 1)), (124, (.ifCond .ne 8, 3)), (127, (.bipush (-9), 2)), (129, (.goto 13, 3)), (132, (.aload_n 0, 1))] := dk_of 114 (by decide +kernel)
theorem dX11_half_114 : decode cX11_half 114 = .ok (.iinc 2 1, 3) := dK_d_251.1
theorem dX11_half_117 : decode cX11_half 117 = .ok (.iinc 3 1, 3) := dK_d_251.2.1
theorem dX11_half_120 : decode cX11_half 120 = .ok (.goto (-102), 3) := dK_d_251.2.2.1
theorem dX11_half_123 : decode cX11_half 123 = .ok (.iload_n 2, 1) := dK_d_251.2.2.2.1
theorem dX11_half_124 : decode cX11_half 124 = .ok (.ifCond .ne 8, 3) := dK_d_251.2.2.2.2.1
theorem dX11_half_127 : decode cX11_half 127 = .ok (.bipush (-9), 2) := dK_d_251.2.2.2.2.2.1
theorem dX11_half_129 : decode cX11_half 129 = .ok (.goto 13, 3) := dK_d_251.2.2.2.2.2.2.1
theorem dX11_half_132 : decode cX11_half 132 = .ok (.aload_n 0, 1) := dK_d_251.2.2.2.2.2.2.2.1
theorem dK_d_252 : dk_P cX11_half [(133, (.getfield 92, 3)), (136, (.iload_n 2, 1)), (137, (.iconst 1, 1)), (138, (.isub, 1)), (139, (.iconst 2, 1)), (140, (.idiv, 1)), (141, (.iaload, 1)), (142, (.ireturn, 1))] := dk_of 133 (by decide +kernel)
theorem dX11_half_133 : decode cX11_half 133 = .ok (.getfield 92, 3) := dK_d_252.1
theorem dX11_half_136 : decode cX11_half 136 = .ok (.iload_n 2, 1) := dK_d_252.2.1
theorem dX11_half_137 : decode cX11_half 137 = .ok (.iconst 1, 1) := dK_d_252.2.2.1
theorem dX11_half_138 : decode cX11_half 138 = .ok (.isub, 1) := dK_d_252.2.2.2.1
theorem dX11_half_139 : decode cX11_half 139 = .ok (.iconst 2, 1) := dK_d_252.2.2.2.2.1
theorem dX11_half_140 : decode cX11_half 140 = .ok (.idiv, 1) := dK_d_252.2.2.2.2.2.1
theorem dX11_half_141 : decode cX11_half 141 = .ok (.iaload, 1) := dK_d_252.2.2.2.2.2.2.1
theorem dX11_half_142 : decode cX11_half 142 = .ok (.ireturn, 1) := dK_d_252.2.2.2.2.2.2.2.1
theorem dK_d_253 : dk_P cX11_safe [(0, (.aload_n 0, 1)), (1, (.iload_n 1, 1)), (2, (.invokevirtual 207, 3)), (5, (.ifCond .ne 9, 3)), (8, (.aload_n 0, 1)), (9, (.iconst (-1), 1)), (10, (.invokevirtual 115, 3)), (13, (.ireturn, 1))] := dk_of 0 (by decide +kernel)
theorem dX11_safe_0 : decode cX11_safe 0 = .ok (.aload_n 0, 1) := dK_d_253.1
theorem dX11_safe_1 : decode cX11_safe 1 = .ok (.iload_n 1, 1) := dK_d_253.2.1
theorem dX11_safe_2 : decode cX11_safe 2 = .ok (.invokevirtual 207, 3) := dK_d_253.2.2.1
theorem dX11_safe_5 : decode cX11_safe 5 = .ok (.ifCond .ne 9, 3) := dK_d_253.2.2.2.1
theorem dX11_safe_8 : decode cX11_safe 8 = .ok (.aload_n 0, 1) := dK_d_253.2.2.2.2.1
theorem dX11_safe_9 : decode cX11_safe 9 = .ok (.iconst (-1), 1) := dK_d_253.2.2.2.2.2.1
theorem dX11_safe_10 : decode cX11_safe 10 = .ok (.invokevirtual 115, 3) := dK_d_253.2.2.2.2.2.2.1
theorem dX11_safe_13 : decode cX11_safe 13 = .ok (.ireturn, 1) := dK_d_253.2.2.2.2.2.2.2.1
theorem dK_d_254 : dk_P cX11_safe [(14, (.iconst 0, 1)), (15, (.istore_n 2, 1)), (16, (.iload_n 2, 1)), (17, (.sipush 1000, 3)), (20, (.if_icmp .ge 73, 3)), (23, (.aload_n 0, 1)), (24, (.iconst 0, 1)), (25, (.aload_n 0, 1))] := dk_of 14 (by decide +kernel)
theorem dX11_safe_14 : decode cX11_safe 14 = .ok (.iconst 0, 1) := dK_d_254.1
theorem dX11_safe_15 : decode cX11_safe 15 = .ok (.istore_n 2, 1) := dK_d_254.2.1
theorem dX11_safe_16 : decode cX11_safe 16 = .ok (.iload_n 2, 1) := dK_d_254.2.2.1
theorem dX11_safe_17 : decode cX11_safe 17 = .ok (.sipush 1000, 3) := dK_d_254.2.2.2.1
theorem dX11_safe_20 : decode cX11_safe 20 = .ok (.if_icmp .ge 73, 3) := dK_d_254.2.2.2.2.1
theorem dX11_safe_23 : decode cX11_safe 23 = .ok (.aload_n 0, 1) := dK_d_254.2.2.2.2.2.1
theorem dX11_safe_24 : decode cX11_safe 24 = .ok (.iconst 0, 1) := dK_d_254.2.2.2.2.2.2.1
theorem dX11_safe_25 : decode cX11_safe 25 = .ok (.aload_n 0, 1) := dK_d_254.2.2.2.2.2.2.2.1
theorem dK_d_255 : dk_P cX11_safe [(26, (.getfield 147, 3)), (29, (.invokevirtual 213, 3)), (32, (.iconst 0, 1)), (33, (.istore_n 3, 1)), (34, (.iload_n 3, 1)), (35, (.aload_n 0, 1)), (36, (.getfield 105, 3)), (39, (.if_icmp .ge 30, 3))] := dk_of 26 (by decide +kernel)
theorem dX11_safe_26 : decode cX11_safe 26 = .ok (.getfield 147, 3) := dK_d_255.1
theorem dX11_safe_29 : decode cX11_safe 29 = .ok (.invokevirtual 213, 3) := dK_d_255.2.1
theorem dX11_safe_32 : decode cX11_safe 32 = .ok (.iconst 0, 1) := dK_d_255.2.2.1
theorem dX11_safe_33 : decode cX11_safe 33 = .ok (.istore_n 3, 1) := dK_d_255.2.2.2.1
theorem dX11_safe_34 : decode cX11_safe 34 = .ok (.iload_n 3, 1) := dK_d_255.2.2.2.2.1
theorem dX11_safe_35 : decode cX11_safe 35 = .ok (.aload_n 0, 1) := dK_d_255.2.2.2.2.2.1
theorem dX11_safe_36 : decode cX11_safe 36 = .ok (.getfield 105, 3) := dK_d_255.2.2.2.2.2.2.1
theorem dX11_safe_39 : decode cX11_safe 39 = .ok (.if_icmp .ge 30, 3) := dK_d_255.2.2.2.2.2.2.2.1
theorem dK_d_256 : dk_P cX11_safe [(42, (.aload_n 0, 1)), (43, (.iload_n 3, 1)), (44, (.iload_n 3, 1)), (45, (.iload_n 1, 1)), (46, (.if_icmp .ne 7, 3)), (49, (.iload_n 2, 1)), (50, (.goto 10, 3)), (53, (.aload_n 0, 1))] := dk_of 42 (by decide +kernel)
theorem dX11_safe_42 : decode cX11_safe 42 = .ok (.aload_n 0, 1) := dK_d_256.1
theorem dX11_safe_43 : decode cX11_safe 43 = .ok (.iload_n 3, 1) := dK_d_256.2.1
theorem dX11_safe_44 : decode cX11_safe 44 = .ok (.iload_n 3, 1) := dK_d_256.2.2.1
theorem dX11_safe_45 : decode cX11_safe 45 = .ok (.iload_n 1, 1) := dK_d_256.2.2.2.1
theorem dX11_safe_46 : decode cX11_safe 46 = .ok (.if_icmp .ne 7, 3) := dK_d_256.2.2.2.2.1
theorem dX11_safe_49 : decode cX11_safe 49 = .ok (.iload_n 2, 1) := dK_d_256.2.2.2.2.2.1
theorem dX11_safe_50 : decode cX11_safe 50 = .ok (.goto 10, 3) := dK_d_256.2.2.2.2.2.2.1
theorem dX11_safe_53 : decode cX11_safe 53 = .ok (.aload_n 0, 1) := dK_d_256.2.2.2.2.2.2.2.1
theorem dK_d_257 : dk_P cX11_safe [(54, (.iload_n 3, 1)), (55, (.iconst 0, 1)), (56, (.iconst 0, 1)), (57, (.invokevirtual 163, 3)), (60, (.invokevirtual 262, 3)), (63, (.iinc 3 1, 3)), (66, (.goto (-32), 3)), (69, (.aload_n 0, 1))] := dk_of 54 (by decide +kernel)
theorem dX11_safe_54 : decode cX11_safe 54 = .ok (.iload_n 3, 1) := dK_d_257.1
theorem dX11_safe_55 : decode cX11_safe 55 = .ok (.iconst 0, 1) := dK_d_257.2.1
theorem dX11_safe_56 : decode cX11_safe 56 = .ok (.iconst 0, 1) := dK_d_257.2.2.1
theorem dX11_safe_57 : decode cX11_safe 57 = .ok (.invokevirtual 163, 3) := dK_d_257.2.2.2.1
theorem dX11_safe_60 : decode cX11_safe 60 = .ok (.invokevirtual 262, 3) := dK_d_257.2.2.2.2.1
theorem dX11_safe_63 : decode cX11_safe 63 = .ok (.iinc 3 1, 3) := dK_d_257.2.2.2.2.2.1
theorem dX11_safe_66 : decode cX11_safe 66 = .ok (.goto (-32), 3) := dK_d_257.2.2.2.2.2.2.1
theorem dX11_safe_69 : decode cX11_safe 69 = .ok (.aload_n 0, 1) := dK_d_257.2.2.2.2.2.2.2.1
theorem dK_d_258 : dk_P cX11_safe [(70, (.invokevirtual 268, 3)), (73, (.aload_n 0, 1)), (74, (.iload_n 1, 1)), (75, (.invokevirtual 274, 3)), (78, (.aload_n 0, 1)), (79, (.invokevirtual 271, 3)), (82, (.if_icmp .ge 5, 3)), (85, (.iload_n 2, 1))] := dk_of 70 (by decide +kernel)
theorem dX11_safe_70 : decode cX11_safe 70 = .ok (.invokevirtual 268, 3) := dK_d_258.1
theorem dX11_safe_73 : decode cX11_safe 73 = .ok (.aload_n 0, 1) := dK_d_258.2.1
theorem dX11_safe_74 : decode cX11_safe 74 = .ok (.iload_n 1, 1) := dK_d_258.2.2.1
theorem dX11_safe_75 : decode cX11_safe 75 = .ok (.invokevirtual 274, 3) := dK_d_258.2.2.2.1
theorem dX11_safe_78 : decode cX11_safe 78 = .ok (.aload_n 0, 1) := dK_d_258.2.2.2.2.1
theorem dX11_safe_79 : decode cX11_safe 79 = .ok (.invokevirtual 271, 3) := dK_d_258.2.2.2.2.2.1
theorem dX11_safe_82 : decode cX11_safe 82 = .ok (.if_icmp .ge 5, 3) := dK_d_258.2.2.2.2.2.2.1
theorem dX11_safe_85 : decode cX11_safe 85 = .ok (.iload_n 2, 1) := dK_d_258.2.2.2.2.2.2.2.1
theorem dK_d_259 : dk_P cX11_safe [(86, (.ireturn, 1)), (87, (.iinc 2 1, 3)), (90, (.goto (-74), 3)), (93, (.bipush (-9), 2)), (95, (.ireturn, 1))] := dk_of 86 (by decide +kernel)
theorem dX11_safe_86 : decode cX11_safe 86 = .ok (.ireturn, 1) := dK_d_259.1
theorem dX11_safe_87 : decode cX11_safe 87 = .ok (.iinc 2 1, 3) := dK_d_259.2.1
theorem dX11_safe_90 : decode cX11_safe 90 = .ok (.goto (-74), 3) := dK_d_259.2.2.1
theorem dX11_safe_93 : decode cX11_safe 93 = .ok (.bipush (-9), 2) := dK_d_259.2.2.2.1
theorem dX11_safe_95 : decode cX11_safe 95 = .ok (.ireturn, 1) := dK_d_259.2.2.2.2.1
theorem dK_d_260 : dk_P cX11_mayStill [(0, (.aload_n 0, 1)), (1, (.invokevirtual 283, 3)), (4, (.istore_n 1, 1)), (5, (.aload_n 0, 1)), (6, (.invokevirtual 150, 3)), (9, (.ifCond .ge 15, 3)), (12, (.iload_n 1, 1)), (13, (.ifCond .ge 7, 3))] := dk_of 0 (by decide +kernel)
theorem dX11_mayStill_0 : decode cX11_mayStill 0 = .ok (.aload_n 0, 1) := dK_d_260.1
theorem dX11_mayStill_1 : decode cX11_mayStill 1 = .ok (.invokevirtual 283, 3) := dK_d_260.2.1
theorem dX11_mayStill_4 : decode cX11_mayStill 4 = .ok (.istore_n 1, 1) := dK_d_260.2.2.1
theorem dX11_mayStill_5 : decode cX11_mayStill 5 = .ok (.aload_n 0, 1) := dK_d_260.2.2.2.1
theorem dX11_mayStill_6 : decode cX11_mayStill 6 = .ok (.invokevirtual 150, 3) := dK_d_260.2.2.2.2.1
theorem dX11_mayStill_9 : decode cX11_mayStill 9 = .ok (.ifCond .ge 15, 3) := dK_d_260.2.2.2.2.2.1
theorem dX11_mayStill_12 : decode cX11_mayStill 12 = .ok (.iload_n 1, 1) := dK_d_260.2.2.2.2.2.2.1
theorem dX11_mayStill_13 : decode cX11_mayStill 13 = .ok (.ifCond .ge 7, 3) := dK_d_260.2.2.2.2.2.2.2.1
theorem dK_d_261 : dk_P cX11_mayStill [(16, (.iconst 0, 1)), (17, (.goto 6, 3)), (20, (.iconst 1, 1)), (21, (.iload_n 1, 1)), (22, (.ishl, 1)), (23, (.ireturn, 1)), (24, (.iconst 0, 1)), (25, (.istore_n 2, 1))] := dk_of 16 (by decide +kernel)
theorem dX11_mayStill_16 : decode cX11_mayStill 16 = .ok (.iconst 0, 1) := dK_d_261.1
theorem dX11_mayStill_17 : decode cX11_mayStill 17 = .ok (.goto 6, 3) := dK_d_261.2.1
theorem dX11_mayStill_20 : decode cX11_mayStill 20 = .ok (.iconst 1, 1) := dK_d_261.2.2.1
theorem dX11_mayStill_21 : decode cX11_mayStill 21 = .ok (.iload_n 1, 1) := dK_d_261.2.2.2.1
theorem dX11_mayStill_22 : decode cX11_mayStill 22 = .ok (.ishl, 1) := dK_d_261.2.2.2.2.1
theorem dX11_mayStill_23 : decode cX11_mayStill 23 = .ok (.ireturn, 1) := dK_d_261.2.2.2.2.2.1
theorem dX11_mayStill_24 : decode cX11_mayStill 24 = .ok (.iconst 0, 1) := dK_d_261.2.2.2.2.2.2.1
theorem dX11_mayStill_25 : decode cX11_mayStill 25 = .ok (.istore_n 2, 1) := dK_d_261.2.2.2.2.2.2.2.1
theorem dK_d_262 : dk_P cX11_mayStill [(26, (.iconst 0, 1)), (27, (.istore_n 3, 1)), (28, (.iload_n 3, 1)), (29, (.aload_n 0, 1)), (30, (.getfield 105, 3)), (33, (.if_icmp .ge 35, 3)), (36, (.iload_n 2, 1)), (37, (.aload_n 0, 1))] := dk_of 26 (by decide +kernel)
theorem dX11_mayStill_26 : decode cX11_mayStill 26 = .ok (.iconst 0, 1) := dK_d_262.1
theorem dX11_mayStill_27 : decode cX11_mayStill 27 = .ok (.istore_n 3, 1) := dK_d_262.2.1
theorem dX11_mayStill_28 : decode cX11_mayStill 28 = .ok (.iload_n 3, 1) := dK_d_262.2.2.1
theorem dX11_mayStill_29 : decode cX11_mayStill 29 = .ok (.aload_n 0, 1) := dK_d_262.2.2.2.1
theorem dX11_mayStill_30 : decode cX11_mayStill 30 = .ok (.getfield 105, 3) := dK_d_262.2.2.2.2.1
theorem dX11_mayStill_33 : decode cX11_mayStill 33 = .ok (.if_icmp .ge 35, 3) := dK_d_262.2.2.2.2.2.1
theorem dX11_mayStill_36 : decode cX11_mayStill 36 = .ok (.iload_n 2, 1) := dK_d_262.2.2.2.2.2.2.1
theorem dX11_mayStill_37 : decode cX11_mayStill 37 = .ok (.aload_n 0, 1) := dK_d_262.2.2.2.2.2.2.2.1
theorem dK_d_263 : dk_P cX11_mayStill [(38, (.iload_n 3, 1)), (39, (.aload_n 0, 1)), (40, (.iload_n 3, 1)), (41, (.iconst 0, 1)), (42, (.iconst 0, 1)), (43, (.invokevirtual 163, 3)), (46, (.iconst 1, 1)), (47, (.invokevirtual 277, 3))] := dk_of 38 (by decide +kernel)
theorem dX11_mayStill_38 : decode cX11_mayStill 38 = .ok (.iload_n 3, 1) := dK_d_263.1
theorem dX11_mayStill_39 : decode cX11_mayStill 39 = .ok (.aload_n 0, 1) := dK_d_263.2.1
theorem dX11_mayStill_40 : decode cX11_mayStill 40 = .ok (.iload_n 3, 1) := dK_d_263.2.2.1
theorem dX11_mayStill_41 : decode cX11_mayStill 41 = .ok (.iconst 0, 1) := dK_d_263.2.2.2.1
theorem dX11_mayStill_42 : decode cX11_mayStill 42 = .ok (.iconst 0, 1) := dK_d_263.2.2.2.2.1
theorem dX11_mayStill_43 : decode cX11_mayStill 43 = .ok (.invokevirtual 163, 3) := dK_d_263.2.2.2.2.2.1
theorem dX11_mayStill_46 : decode cX11_mayStill 46 = .ok (.iconst 1, 1) := dK_d_263.2.2.2.2.2.2.1
theorem dX11_mayStill_47 : decode cX11_mayStill 47 = .ok (.invokevirtual 277, 3) := dK_d_263.2.2.2.2.2.2.2.1
theorem dK_d_264 : dk_P cX11_mayStill [(50, (.ifCond .eq 9, 3)), (53, (.iconst 1, 1)), (54, (.iload_n 3, 1)), (55, (.ishl, 1)), (56, (.goto 4, 3)), (59, (.iconst 0, 1)), (60, (.ior, 1)), (61, (.istore_n 2, 1))] := dk_of 50 (by decide +kernel)
theorem dX11_mayStill_50 : decode cX11_mayStill 50 = .ok (.ifCond .eq 9, 3) := dK_d_264.1
theorem dX11_mayStill_53 : decode cX11_mayStill 53 = .ok (.iconst 1, 1) := dK_d_264.2.1
theorem dX11_mayStill_54 : decode cX11_mayStill 54 = .ok (.iload_n 3, 1) := dK_d_264.2.2.1
theorem dX11_mayStill_55 : decode cX11_mayStill 55 = .ok (.ishl, 1) := dK_d_264.2.2.2.1
theorem dX11_mayStill_56 : decode cX11_mayStill 56 = .ok (.goto 4, 3) := dK_d_264.2.2.2.2.1
theorem dX11_mayStill_59 : decode cX11_mayStill 59 = .ok (.iconst 0, 1) := dK_d_264.2.2.2.2.2.1
theorem dX11_mayStill_60 : decode cX11_mayStill 60 = .ok (.ior, 1) := dK_d_264.2.2.2.2.2.2.1
theorem dX11_mayStill_61 : decode cX11_mayStill 61 = .ok (.istore_n 2, 1) := dK_d_264.2.2.2.2.2.2.2.1
theorem dK_d_265 : dk_P cX11_mayStill [(62, (.iinc 3 1, 3)), (65, (.goto (-37), 3)), (68, (.iload_n 2, 1)), (69, (.ireturn, 1))] := dk_of 62 (by decide +kernel)
theorem dX11_mayStill_62 : decode cX11_mayStill 62 = .ok (.iinc 3 1, 3) := dK_d_265.1
theorem dX11_mayStill_65 : decode cX11_mayStill 65 = .ok (.goto (-37), 3) := dK_d_265.2.1
theorem dX11_mayStill_68 : decode cX11_mayStill 68 = .ok (.iload_n 2, 1) := dK_d_265.2.2.1
theorem dX11_mayStill_69 : decode cX11_mayStill 69 = .ok (.ireturn, 1) := dK_d_265.2.2.2.1
theorem dK_d_266 : dk_P cX11_drawnSlip [(0, (.aload_n 0, 1)), (1, (.aload_n 0, 1)), (2, (.getfield 336, 3)), (5, (.ldc_w 339, 3)), (8, (.imul, 1)), (9, (.sipush 12345, 3)), (12, (.iadd, 1)), (13, (.putfield 336, 3))] := dk_of 0 (by decide +kernel)
theorem dX11_drawnSlip_0 : decode cX11_drawnSlip 0 = .ok (.aload_n 0, 1) := dK_d_266.1
theorem dX11_drawnSlip_1 : decode cX11_drawnSlip 1 = .ok (.aload_n 0, 1) := dK_d_266.2.1
theorem dX11_drawnSlip_2 : decode cX11_drawnSlip 2 = .ok (.getfield 336, 3) := dK_d_266.2.2.1
theorem dX11_drawnSlip_5 : decode cX11_drawnSlip 5 = .ok (.ldc_w 339, 3) := dK_d_266.2.2.2.1
theorem dX11_drawnSlip_8 : decode cX11_drawnSlip 8 = .ok (.imul, 1) := dK_d_266.2.2.2.2.1
theorem dX11_drawnSlip_9 : decode cX11_drawnSlip 9 = .ok (.sipush 12345, 3) := dK_d_266.2.2.2.2.2.1
theorem dX11_drawnSlip_12 : decode cX11_drawnSlip 12 = .ok (.iadd, 1) := dK_d_266.2.2.2.2.2.2.1
theorem dX11_drawnSlip_13 : decode cX11_drawnSlip 13 = .ok (.putfield 336, 3) := dK_d_266.2.2.2.2.2.2.2.1
theorem dK_d_267 : dk_P cX11_drawnSlip [(16, (.aload_n 0, 1)), (17, (.getfield 336, 3)), (20, (.ldc_w 340, 3)), (23, (.iand, 1)), (24, (.ldc_w 341, 3)), (27, (.idiv, 1)), (28, (.iconst 4, 1)), (29, (.irem, 1))] := dk_of 16 (by decide +kernel)
theorem dX11_drawnSlip_16 : decode cX11_drawnSlip 16 = .ok (.aload_n 0, 1) := dK_d_267.1
theorem dX11_drawnSlip_17 : decode cX11_drawnSlip 17 = .ok (.getfield 336, 3) := dK_d_267.2.1
theorem dX11_drawnSlip_20 : decode cX11_drawnSlip 20 = .ok (.ldc_w 340, 3) := dK_d_267.2.2.1
theorem dX11_drawnSlip_23 : decode cX11_drawnSlip 23 = .ok (.iand, 1) := dK_d_267.2.2.2.1
theorem dX11_drawnSlip_24 : decode cX11_drawnSlip 24 = .ok (.ldc_w 341, 3) := dK_d_267.2.2.2.2.1
theorem dX11_drawnSlip_27 : decode cX11_drawnSlip 27 = .ok (.idiv, 1) := dK_d_267.2.2.2.2.2.1
theorem dX11_drawnSlip_28 : decode cX11_drawnSlip 28 = .ok (.iconst 4, 1) := dK_d_267.2.2.2.2.2.2.1
theorem dX11_drawnSlip_29 : decode cX11_drawnSlip 29 = .ok (.irem, 1) := dK_d_267.2.2.2.2.2.2.2.1
theorem dK_d_268 : dk_P cX11_drawnSlip [(30, (.istore_n 2, 1)), (31, (.iload_n 2, 1)), (32, (.ifCond .ne 12, 3)), (35, (.aload_n 0, 1)), (36, (.getfield 25, 3)), (39, (.iload_n 1, 1)), (40, (.iaload, 1)), (41, (.goto 19, 3))] := dk_of 30 (by decide +kernel)
theorem dX11_drawnSlip_30 : decode cX11_drawnSlip 30 = .ok (.istore_n 2, 1) := dK_d_268.1
theorem dX11_drawnSlip_31 : decode cX11_drawnSlip 31 = .ok (.iload_n 2, 1) := dK_d_268.2.1
theorem dX11_drawnSlip_32 : decode cX11_drawnSlip 32 = .ok (.ifCond .ne 12, 3) := dK_d_268.2.2.1
theorem dX11_drawnSlip_35 : decode cX11_drawnSlip 35 = .ok (.aload_n 0, 1) := dK_d_268.2.2.2.1
theorem dX11_drawnSlip_36 : decode cX11_drawnSlip 36 = .ok (.getfield 25, 3) := dK_d_268.2.2.2.2.1
theorem dX11_drawnSlip_39 : decode cX11_drawnSlip 39 = .ok (.iload_n 1, 1) := dK_d_268.2.2.2.2.2.1
theorem dX11_drawnSlip_40 : decode cX11_drawnSlip 40 = .ok (.iaload, 1) := dK_d_268.2.2.2.2.2.2.1
theorem dX11_drawnSlip_41 : decode cX11_drawnSlip 41 = .ok (.goto 19, 3) := dK_d_268.2.2.2.2.2.2.2.1
theorem dK_d_269 : dk_P cX11_drawnSlip [(44, (.iload_n 2, 1)), (45, (.iconst 3, 1)), (46, (.if_icmp .ne 13, 3)), (49, (.aload_n 0, 1)), (50, (.getfield 25, 3)), (53, (.iload_n 1, 1)), (54, (.iaload, 1)), (55, (.ineg, 1))] := dk_of 44 (by decide +kernel)
theorem dX11_drawnSlip_44 : decode cX11_drawnSlip 44 = .ok (.iload_n 2, 1) := dK_d_269.1
theorem dX11_drawnSlip_45 : decode cX11_drawnSlip 45 = .ok (.iconst 3, 1) := dK_d_269.2.1
theorem dX11_drawnSlip_46 : decode cX11_drawnSlip 46 = .ok (.if_icmp .ne 13, 3) := dK_d_269.2.2.1
theorem dX11_drawnSlip_49 : decode cX11_drawnSlip 49 = .ok (.aload_n 0, 1) := dK_d_269.2.2.2.1
theorem dX11_drawnSlip_50 : decode cX11_drawnSlip 50 = .ok (.getfield 25, 3) := dK_d_269.2.2.2.2.1
theorem dX11_drawnSlip_53 : decode cX11_drawnSlip 53 = .ok (.iload_n 1, 1) := dK_d_269.2.2.2.2.2.1
theorem dX11_drawnSlip_54 : decode cX11_drawnSlip 54 = .ok (.iaload, 1) := dK_d_269.2.2.2.2.2.2.1
theorem dX11_drawnSlip_55 : decode cX11_drawnSlip 55 = .ok (.ineg, 1) := dK_d_269.2.2.2.2.2.2.2.1
theorem dK_d_270 : dk_P cX11_drawnSlip [(56, (.goto 4, 3)), (59, (.iconst 0, 1)), (60, (.ireturn, 1))] := dk_of 56 (by decide +kernel)
theorem dX11_drawnSlip_56 : decode cX11_drawnSlip 56 = .ok (.goto 4, 3) := dK_d_270.1
theorem dX11_drawnSlip_59 : decode cX11_drawnSlip 59 = .ok (.iconst 0, 1) := dK_d_270.2.1
theorem dX11_drawnSlip_60 : decode cX11_drawnSlip 60 = .ok (.ireturn, 1) := dK_d_270.2.2.1
theorem dK_d_271 : dk_P cX11_triesByLot [(0, (.aload_n 0, 1)), (1, (.iload_n 1, 1)), (2, (.invokevirtual 223, 3)), (5, (.istore_n 2, 1)), (6, (.iconst 0, 1)), (7, (.istore_n 3, 1)), (8, (.iconst 0, 1)), (9, (.istore 4, 2))] := dk_of 0 (by decide +kernel)
theorem dX11_triesByLot_0 : decode cX11_triesByLot 0 = .ok (.aload_n 0, 1) := dK_d_271.1
theorem dX11_triesByLot_1 : decode cX11_triesByLot 1 = .ok (.iload_n 1, 1) := dK_d_271.2.1
theorem dX11_triesByLot_2 : decode cX11_triesByLot 2 = .ok (.invokevirtual 223, 3) := dK_d_271.2.2.1
theorem dX11_triesByLot_5 : decode cX11_triesByLot 5 = .ok (.istore_n 2, 1) := dK_d_271.2.2.2.1
theorem dX11_triesByLot_6 : decode cX11_triesByLot 6 = .ok (.iconst 0, 1) := dK_d_271.2.2.2.2.1
theorem dX11_triesByLot_7 : decode cX11_triesByLot 7 = .ok (.istore_n 3, 1) := dK_d_271.2.2.2.2.2.1
theorem dX11_triesByLot_8 : decode cX11_triesByLot 8 = .ok (.iconst 0, 1) := dK_d_271.2.2.2.2.2.2.1
theorem dX11_triesByLot_9 : decode cX11_triesByLot 9 = .ok (.istore 4, 2) := dK_d_271.2.2.2.2.2.2.2.1
theorem dK_d_272 : dk_P cX11_triesByLot [(11, (.iload 4, 2)), (13, (.aload_n 0, 1)), (14, (.getfield 95, 3)), (17, (.if_icmp .ge 74, 3)), (20, (.aload_n 0, 1)), (21, (.getfield 31, 3)), (24, (.iload_n 1, 1)), (25, (.iaload, 1))] := dk_of 11 (by decide +kernel)
theorem dX11_triesByLot_11 : decode cX11_triesByLot 11 = .ok (.iload 4, 2) := dK_d_272.1
theorem dX11_triesByLot_13 : decode cX11_triesByLot 13 = .ok (.aload_n 0, 1) := dK_d_272.2.1
theorem dX11_triesByLot_14 : decode cX11_triesByLot 14 = .ok (.getfield 95, 3) := dK_d_272.2.2.1
theorem dX11_triesByLot_17 : decode cX11_triesByLot 17 = .ok (.if_icmp .ge 74, 3) := dK_d_272.2.2.2.1
theorem dX11_triesByLot_20 : decode cX11_triesByLot 20 = .ok (.aload_n 0, 1) := dK_d_272.2.2.2.2.1
theorem dX11_triesByLot_21 : decode cX11_triesByLot 21 = .ok (.getfield 31, 3) := dK_d_272.2.2.2.2.2.1
theorem dX11_triesByLot_24 : decode cX11_triesByLot 24 = .ok (.iload_n 1, 1) := dK_d_272.2.2.2.2.2.2.1
theorem dX11_triesByLot_25 : decode cX11_triesByLot 25 = .ok (.iaload, 1) := dK_d_272.2.2.2.2.2.2.2.1
theorem dK_d_273 : dk_P cX11_triesByLot [(26, (.ifCond .le 51, 3)), (29, (.iload 4, 2)), (31, (.aload_n 0, 1)), (32, (.getfield 95, 3)), (35, (.aload_n 0, 1)), (36, (.getfield 31, 3)), (39, (.iload_n 1, 1)), (40, (.iaload, 1))] := dk_of 26 (by decide +kernel)
theorem dX11_triesByLot_26 : decode cX11_triesByLot 26 = .ok (.ifCond .le 51, 3) := dK_d_273.1
theorem dX11_triesByLot_29 : decode cX11_triesByLot 29 = .ok (.iload 4, 2) := dK_d_273.2.1
theorem dX11_triesByLot_31 : decode cX11_triesByLot 31 = .ok (.aload_n 0, 1) := dK_d_273.2.2.1
theorem dX11_triesByLot_32 : decode cX11_triesByLot 32 = .ok (.getfield 95, 3) := dK_d_273.2.2.2.1
theorem dX11_triesByLot_35 : decode cX11_triesByLot 35 = .ok (.aload_n 0, 1) := dK_d_273.2.2.2.2.1
theorem dX11_triesByLot_36 : decode cX11_triesByLot 36 = .ok (.getfield 31, 3) := dK_d_273.2.2.2.2.2.1
theorem dX11_triesByLot_39 : decode cX11_triesByLot 39 = .ok (.iload_n 1, 1) := dK_d_273.2.2.2.2.2.2.1
theorem dX11_triesByLot_40 : decode cX11_triesByLot 40 = .ok (.iaload, 1) := dK_d_273.2.2.2.2.2.2.2.1
theorem dK_d_274 : dk_P cX11_triesByLot [(41, (.isub, 1)), (42, (.if_icmp .ne 35, 3)), (45, (.iload_n 2, 1)), (46, (.aload_n 0, 1)), (47, (.iload_n 1, 1)), (48, (.invokevirtual 210, 3)), (51, (.isub, 1)), (52, (.iconst 2, 1))] := dk_of 41 (by decide +kernel)
theorem dX11_triesByLot_41 : decode cX11_triesByLot 41 = .ok (.isub, 1) := dK_d_274.1
theorem dX11_triesByLot_42 : decode cX11_triesByLot 42 = .ok (.if_icmp .ne 35, 3) := dK_d_274.2.1
theorem dX11_triesByLot_45 : decode cX11_triesByLot 45 = .ok (.iload_n 2, 1) := dK_d_274.2.2.1
theorem dX11_triesByLot_46 : decode cX11_triesByLot 46 = .ok (.aload_n 0, 1) := dK_d_274.2.2.2.1
theorem dX11_triesByLot_47 : decode cX11_triesByLot 47 = .ok (.iload_n 1, 1) := dK_d_274.2.2.2.2.1
theorem dX11_triesByLot_48 : decode cX11_triesByLot 48 = .ok (.invokevirtual 210, 3) := dK_d_274.2.2.2.2.2.1
theorem dX11_triesByLot_51 : decode cX11_triesByLot 51 = .ok (.isub, 1) := dK_d_274.2.2.2.2.2.2.1
theorem dX11_triesByLot_52 : decode cX11_triesByLot 52 = .ok (.iconst 2, 1) := dK_d_274.2.2.2.2.2.2.2.1
theorem dK_d_275 : dk_P cX11_triesByLot [(53, (.idiv, 1)), (54, (.istore 5, 2)), (56, (.iload_n 2, 1)), (57, (.iload 5, 2)), (59, (.isub, 1)), (60, (.istore_n 2, 1)), (61, (.iload 5, 2)), (63, (.ifCond .ge 9, 3))] := dk_of 53 (by decide +kernel)
theorem dX11_triesByLot_53 : decode cX11_triesByLot 53 = .ok (.idiv, 1) := dK_d_275.1
theorem dX11_triesByLot_54 : decode cX11_triesByLot 54 = .ok (.istore 5, 2) := dK_d_275.2.1
theorem dX11_triesByLot_56 : decode cX11_triesByLot 56 = .ok (.iload_n 2, 1) := dK_d_275.2.2.1
theorem dX11_triesByLot_57 : decode cX11_triesByLot 57 = .ok (.iload 5, 2) := dK_d_275.2.2.2.1
theorem dX11_triesByLot_59 : decode cX11_triesByLot 59 = .ok (.isub, 1) := dK_d_275.2.2.2.2.1
theorem dX11_triesByLot_60 : decode cX11_triesByLot 60 = .ok (.istore_n 2, 1) := dK_d_275.2.2.2.2.2.1
theorem dX11_triesByLot_61 : decode cX11_triesByLot 61 = .ok (.iload 5, 2) := dK_d_275.2.2.2.2.2.2.1
theorem dX11_triesByLot_63 : decode cX11_triesByLot 63 = .ok (.ifCond .ge 9, 3) := dK_d_275.2.2.2.2.2.2.2.1
theorem dK_d_276 : dk_P cX11_triesByLot [(66, (.iload 5, 2)), (68, (.ineg, 1)), (69, (.goto 5, 3)), (72, (.iload 5, 2)), (74, (.iconst 4, 1)), (75, (.idiv, 1)), (76, (.istore_n 3, 1)), (77, (.iload_n 2, 1))] := dk_of 66 (by decide +kernel)
theorem dX11_triesByLot_66 : decode cX11_triesByLot 66 = .ok (.iload 5, 2) := dK_d_276.1
theorem dX11_triesByLot_68 : decode cX11_triesByLot 68 = .ok (.ineg, 1) := dK_d_276.2.1
theorem dX11_triesByLot_69 : decode cX11_triesByLot 69 = .ok (.goto 5, 3) := dK_d_276.2.2.1
theorem dX11_triesByLot_72 : decode cX11_triesByLot 72 = .ok (.iload 5, 2) := dK_d_276.2.2.2.1
theorem dX11_triesByLot_74 : decode cX11_triesByLot 74 = .ok (.iconst 4, 1) := dK_d_276.2.2.2.2.1
theorem dX11_triesByLot_75 : decode cX11_triesByLot 75 = .ok (.idiv, 1) := dK_d_276.2.2.2.2.2.1
theorem dX11_triesByLot_76 : decode cX11_triesByLot 76 = .ok (.istore_n 3, 1) := dK_d_276.2.2.2.2.2.2.1
theorem dX11_triesByLot_77 : decode cX11_triesByLot 77 = .ok (.iload_n 2, 1) := dK_d_276.2.2.2.2.2.2.2.1
theorem dK_d_277 : dk_P cX11_triesByLot [(78, (.aload_n 0, 1)), (79, (.iload_n 1, 1)), (80, (.invokevirtual 342, 3)), (83, (.isub, 1)), (84, (.istore_n 2, 1)), (85, (.iinc 4 1, 3)), (88, (.goto (-77), 3)), (91, (.aload_n 0, 1))] := dk_of 78 (by decide +kernel)
theorem dX11_triesByLot_78 : decode cX11_triesByLot 78 = .ok (.aload_n 0, 1) := dK_d_277.1
theorem dX11_triesByLot_79 : decode cX11_triesByLot 79 = .ok (.iload_n 1, 1) := dK_d_277.2.1
theorem dX11_triesByLot_80 : decode cX11_triesByLot 80 = .ok (.invokevirtual 342, 3) := dK_d_277.2.2.1
theorem dX11_triesByLot_83 : decode cX11_triesByLot 83 = .ok (.isub, 1) := dK_d_277.2.2.2.1
theorem dX11_triesByLot_84 : decode cX11_triesByLot 84 = .ok (.istore_n 2, 1) := dK_d_277.2.2.2.2.1
theorem dX11_triesByLot_85 : decode cX11_triesByLot 85 = .ok (.iinc 4 1, 3) := dK_d_277.2.2.2.2.2.1
theorem dX11_triesByLot_88 : decode cX11_triesByLot 88 = .ok (.goto (-77), 3) := dK_d_277.2.2.2.2.2.2.1
theorem dX11_triesByLot_91 : decode cX11_triesByLot 91 = .ok (.aload_n 0, 1) := dK_d_277.2.2.2.2.2.2.2.1
theorem dK_d_278 : dk_P cX11_triesByLot [(92, (.iload_n 1, 1)), (93, (.iload_n 2, 1)), (94, (.ifCond .ge 8, 3)), (97, (.bipush (-9), 2)), (99, (.goto 10, 3)), (102, (.aload_n 0, 1)), (103, (.iload_n 1, 1)), (104, (.iload_n 2, 1))] := dk_of 92 (by decide +kernel)
theorem dX11_triesByLot_92 : decode cX11_triesByLot 92 = .ok (.iload_n 1, 1) := dK_d_278.1
theorem dX11_triesByLot_93 : decode cX11_triesByLot 93 = .ok (.iload_n 2, 1) := dK_d_278.2.1
theorem dX11_triesByLot_94 : decode cX11_triesByLot 94 = .ok (.ifCond .ge 8, 3) := dK_d_278.2.2.1
theorem dX11_triesByLot_97 : decode cX11_triesByLot 97 = .ok (.bipush (-9), 2) := dK_d_278.2.2.2.1
theorem dX11_triesByLot_99 : decode cX11_triesByLot 99 = .ok (.goto 10, 3) := dK_d_278.2.2.2.2.1
theorem dX11_triesByLot_102 : decode cX11_triesByLot 102 = .ok (.aload_n 0, 1) := dK_d_278.2.2.2.2.2.1
theorem dX11_triesByLot_103 : decode cX11_triesByLot 103 = .ok (.iload_n 1, 1) := dK_d_278.2.2.2.2.2.2.1
theorem dX11_triesByLot_104 : decode cX11_triesByLot 104 = .ok (.iload_n 2, 1) := dK_d_278.2.2.2.2.2.2.2.1
theorem dK_d_279 : dk_P cX11_triesByLot [(105, (.iload_n 3, 1)), (106, (.invokevirtual 163, 3)), (109, (.iload_n 2, 1)), (110, (.invokevirtual 153, 3)), (113, (.return_, 1))] := dk_of 105 (by decide +kernel)
theorem dX11_triesByLot_105 : decode cX11_triesByLot 105 = .ok (.iload_n 3, 1) := dK_d_279.1
theorem dX11_triesByLot_106 : decode cX11_triesByLot 106 = .ok (.invokevirtual 163, 3) := dK_d_279.2.1
theorem dX11_triesByLot_109 : decode cX11_triesByLot 109 = .ok (.iload_n 2, 1) := dK_d_279.2.2.1
theorem dX11_triesByLot_110 : decode cX11_triesByLot 110 = .ok (.invokevirtual 153, 3) := dK_d_279.2.2.2.1
theorem dX11_triesByLot_113 : decode cX11_triesByLot 113 = .ok (.return_, 1) := dK_d_279.2.2.2.2.1
theorem dK_d_280 : dk_P cX11_seeds [(0, (.aload_n 0, 1)), (1, (.iload_n 1, 1)), (2, (.invokevirtual 207, 3)), (5, (.ifCond .ne 7, 3)), (8, (.iconst (-1), 1)), (9, (.goto 10, 3)), (12, (.iload_n 2, 1)), (13, (.iconst 1, 1))] := dk_of 0 (by decide +kernel)
theorem dX11_seeds_0 : decode cX11_seeds 0 = .ok (.aload_n 0, 1) := dK_d_280.1
theorem dX11_seeds_1 : decode cX11_seeds 1 = .ok (.iload_n 1, 1) := dK_d_280.2.1
theorem dX11_seeds_2 : decode cX11_seeds 2 = .ok (.invokevirtual 207, 3) := dK_d_280.2.2.1
theorem dX11_seeds_5 : decode cX11_seeds 5 = .ok (.ifCond .ne 7, 3) := dK_d_280.2.2.2.1
theorem dX11_seeds_8 : decode cX11_seeds 8 = .ok (.iconst (-1), 1) := dK_d_280.2.2.2.2.1
theorem dX11_seeds_9 : decode cX11_seeds 9 = .ok (.goto 10, 3) := dK_d_280.2.2.2.2.2.1
theorem dX11_seeds_12 : decode cX11_seeds 12 = .ok (.iload_n 2, 1) := dK_d_280.2.2.2.2.2.2.1
theorem dX11_seeds_13 : decode cX11_seeds 13 = .ok (.iconst 1, 1) := dK_d_280.2.2.2.2.2.2.2.1
theorem dK_d_281 : dk_P cX11_seeds [(14, (.bipush 20, 2)), (16, (.invokestatic 108, 3)), (19, (.istore 5, 2)), (21, (.iload 5, 2)), (23, (.ifCond .ne 17, 3)), (26, (.iload 4, 2)), (28, (.iconst 0, 1)), (29, (.iconst 1, 1))] := dk_of 14 (by decide +kernel)
theorem dX11_seeds_14 : decode cX11_seeds 14 = .ok (.bipush 20, 2) := dK_d_281.1
theorem dX11_seeds_16 : decode cX11_seeds 16 = .ok (.invokestatic 108, 3) := dK_d_281.2.1
theorem dX11_seeds_19 : decode cX11_seeds 19 = .ok (.istore 5, 2) := dK_d_281.2.2.1
theorem dX11_seeds_21 : decode cX11_seeds 21 = .ok (.iload 5, 2) := dK_d_281.2.2.2.1
theorem dX11_seeds_23 : decode cX11_seeds 23 = .ok (.ifCond .ne 17, 3) := dK_d_281.2.2.2.2.1
theorem dX11_seeds_26 : decode cX11_seeds 26 = .ok (.iload 4, 2) := dK_d_281.2.2.2.2.2.1
theorem dX11_seeds_28 : decode cX11_seeds 28 = .ok (.iconst 0, 1) := dK_d_281.2.2.2.2.2.2.1
theorem dX11_seeds_29 : decode cX11_seeds 29 = .ok (.iconst 1, 1) := dK_d_281.2.2.2.2.2.2.2.1
theorem dK_d_282 : dk_P cX11_seeds [(30, (.invokestatic 126, 3)), (33, (.ifCond .ne 7, 3)), (36, (.bipush (-2), 2)), (38, (.istore 5, 2)), (40, (.iload 5, 2)), (42, (.ifCond .eq 10, 3)), (45, (.aload_n 0, 1)), (46, (.iload 5, 2))] := dk_of 30 (by decide +kernel)
theorem dX11_seeds_30 : decode cX11_seeds 30 = .ok (.invokestatic 126, 3) := dK_d_282.1
theorem dX11_seeds_33 : decode cX11_seeds 33 = .ok (.ifCond .ne 7, 3) := dK_d_282.2.1
theorem dX11_seeds_36 : decode cX11_seeds 36 = .ok (.bipush (-2), 2) := dK_d_282.2.2.1
theorem dX11_seeds_38 : decode cX11_seeds 38 = .ok (.istore 5, 2) := dK_d_282.2.2.2.1
theorem dX11_seeds_40 : decode cX11_seeds 40 = .ok (.iload 5, 2) := dK_d_282.2.2.2.2.1
theorem dX11_seeds_42 : decode cX11_seeds 42 = .ok (.ifCond .eq 10, 3) := dK_d_282.2.2.2.2.2.1
theorem dX11_seeds_45 : decode cX11_seeds 45 = .ok (.aload_n 0, 1) := dK_d_282.2.2.2.2.2.2.1
theorem dX11_seeds_46 : decode cX11_seeds 46 = .ok (.iload 5, 2) := dK_d_282.2.2.2.2.2.2.2.1
theorem dK_d_283 : dk_P cX11_seeds [(48, (.invokevirtual 115, 3)), (51, (.ireturn, 1)), (52, (.aload_n 0, 1)), (53, (.getfield 147, 3)), (56, (.istore 6, 2)), (58, (.iconst 0, 1)), (59, (.istore 7, 2)), (61, (.iconst 0, 1))] := dk_of 48 (by decide +kernel)
theorem dX11_seeds_48 : decode cX11_seeds 48 = .ok (.invokevirtual 115, 3) := dK_d_283.1
theorem dX11_seeds_51 : decode cX11_seeds 51 = .ok (.ireturn, 1) := dK_d_283.2.1
theorem dX11_seeds_52 : decode cX11_seeds 52 = .ok (.aload_n 0, 1) := dK_d_283.2.2.1
theorem dX11_seeds_53 : decode cX11_seeds 53 = .ok (.getfield 147, 3) := dK_d_283.2.2.2.1
theorem dX11_seeds_56 : decode cX11_seeds 56 = .ok (.istore 6, 2) := dK_d_283.2.2.2.2.1
theorem dX11_seeds_58 : decode cX11_seeds 58 = .ok (.iconst 0, 1) := dK_d_283.2.2.2.2.2.1
theorem dX11_seeds_59 : decode cX11_seeds 59 = .ok (.istore 7, 2) := dK_d_283.2.2.2.2.2.2.1
theorem dX11_seeds_61 : decode cX11_seeds 61 = .ok (.iconst 0, 1) := dK_d_283.2.2.2.2.2.2.2.1
theorem dK_d_284 : dk_P cX11_seeds [(62, (.istore 8, 2)), (64, (.aload_n 0, 1)), (65, (.iload_n 3, 1)), (66, (.putfield 336, 3)), (69, (.iconst 0, 1)), (70, (.istore 9, 2)), (72, (.iload 9, 2)), (74, (.iload_n 2, 1))] := dk_of 62 (by decide +kernel)
theorem dX11_seeds_62 : decode cX11_seeds 62 = .ok (.istore 8, 2) := dK_d_284.1
theorem dX11_seeds_64 : decode cX11_seeds 64 = .ok (.aload_n 0, 1) := dK_d_284.2.1
theorem dX11_seeds_65 : decode cX11_seeds 65 = .ok (.iload_n 3, 1) := dK_d_284.2.2.1
theorem dX11_seeds_66 : decode cX11_seeds 66 = .ok (.putfield 336, 3) := dK_d_284.2.2.2.1
theorem dX11_seeds_69 : decode cX11_seeds 69 = .ok (.iconst 0, 1) := dK_d_284.2.2.2.2.1
theorem dX11_seeds_70 : decode cX11_seeds 70 = .ok (.istore 9, 2) := dK_d_284.2.2.2.2.2.1
theorem dX11_seeds_72 : decode cX11_seeds 72 = .ok (.iload 9, 2) := dK_d_284.2.2.2.2.2.2.1
theorem dX11_seeds_74 : decode cX11_seeds 74 = .ok (.iload_n 2, 1) := dK_d_284.2.2.2.2.2.2.2.1
theorem dK_d_285 : dk_P cX11_seeds [(75, (.if_icmp .ge 115, 3)), (78, (.aload_n 0, 1)), (79, (.iload 6, 2)), (81, (.putfield 147, 3)), (84, (.aload_n 0, 1)), (85, (.invokevirtual 150, 3)), (88, (.istore 10, 2)), (90, (.iload 10, 2))] := dk_of 75 (by decide +kernel)
theorem dX11_seeds_75 : decode cX11_seeds 75 = .ok (.if_icmp .ge 115, 3) := dK_d_285.1
theorem dX11_seeds_78 : decode cX11_seeds 78 = .ok (.aload_n 0, 1) := dK_d_285.2.1
theorem dX11_seeds_79 : decode cX11_seeds 79 = .ok (.iload 6, 2) := dK_d_285.2.2.1
theorem dX11_seeds_81 : decode cX11_seeds 81 = .ok (.putfield 147, 3) := dK_d_285.2.2.2.1
theorem dX11_seeds_84 : decode cX11_seeds 84 = .ok (.aload_n 0, 1) := dK_d_285.2.2.2.2.1
theorem dX11_seeds_85 : decode cX11_seeds 85 = .ok (.invokevirtual 150, 3) := dK_d_285.2.2.2.2.2.1
theorem dX11_seeds_88 : decode cX11_seeds 88 = .ok (.istore 10, 2) := dK_d_285.2.2.2.2.2.2.1
theorem dX11_seeds_90 : decode cX11_seeds 90 = .ok (.iload 10, 2) := dK_d_285.2.2.2.2.2.2.2.1
theorem dK_d_286 : dk_P cX11_seeds [(92, (.ifCond .lt 18, 3)), (95, (.aload_n 0, 1)), (96, (.iload 10, 2)), (98, (.invokevirtual 345, 3)), (101, (.aload_n 0, 1)), (102, (.invokevirtual 150, 3)), (105, (.istore 10, 2)), (107, (.goto (-17), 3))] := dk_of 92 (by decide +kernel)
theorem dX11_seeds_92 : decode cX11_seeds 92 = .ok (.ifCond .lt 18, 3) := dK_d_286.1
theorem dX11_seeds_95 : decode cX11_seeds 95 = .ok (.aload_n 0, 1) := dK_d_286.2.1
theorem dX11_seeds_96 : decode cX11_seeds 96 = .ok (.iload 10, 2) := dK_d_286.2.2.1
theorem dX11_seeds_98 : decode cX11_seeds 98 = .ok (.invokevirtual 345, 3) := dK_d_286.2.2.2.1
theorem dX11_seeds_101 : decode cX11_seeds 101 = .ok (.aload_n 0, 1) := dK_d_286.2.2.2.2.1
theorem dX11_seeds_102 : decode cX11_seeds 102 = .ok (.invokevirtual 150, 3) := dK_d_286.2.2.2.2.2.1
theorem dX11_seeds_105 : decode cX11_seeds 105 = .ok (.istore 10, 2) := dK_d_286.2.2.2.2.2.2.1
theorem dX11_seeds_107 : decode cX11_seeds 107 = .ok (.goto (-17), 3) := dK_d_286.2.2.2.2.2.2.2.1
theorem dK_d_287 : dk_P cX11_seeds [(110, (.iload 7, 2)), (112, (.aload_n 0, 1)), (113, (.invokevirtual 283, 3)), (116, (.iload_n 1, 1)), (117, (.if_icmp .ne 7, 3)), (120, (.iconst 1, 1)), (121, (.goto 4, 3)), (124, (.iconst 0, 1))] := dk_of 110 (by decide +kernel)
theorem dX11_seeds_110 : decode cX11_seeds 110 = .ok (.iload 7, 2) := dK_d_287.1
theorem dX11_seeds_112 : decode cX11_seeds 112 = .ok (.aload_n 0, 1) := dK_d_287.2.1
theorem dX11_seeds_113 : decode cX11_seeds 113 = .ok (.invokevirtual 283, 3) := dK_d_287.2.2.1
theorem dX11_seeds_116 : decode cX11_seeds 116 = .ok (.iload_n 1, 1) := dK_d_287.2.2.2.1
theorem dX11_seeds_117 : decode cX11_seeds 117 = .ok (.if_icmp .ne 7, 3) := dK_d_287.2.2.2.2.1
theorem dX11_seeds_120 : decode cX11_seeds 120 = .ok (.iconst 1, 1) := dK_d_287.2.2.2.2.2.1
theorem dX11_seeds_121 : decode cX11_seeds 121 = .ok (.goto 4, 3) := dK_d_287.2.2.2.2.2.2.1
theorem dX11_seeds_124 : decode cX11_seeds 124 = .ok (.iconst 0, 1) := dK_d_287.2.2.2.2.2.2.2.1
theorem dK_d_288 : dk_P cX11_seeds [(125, (.iadd, 1)), (126, (.istore 7, 2)), (128, (.iload 6, 2)), (130, (.istore 10, 2)), (132, (.iload 10, 2)), (134, (.aload_n 0, 1)), (135, (.getfield 147, 3)), (138, (.if_icmp .ge 46, 3))] := dk_of 125 (by decide +kernel)
theorem dX11_seeds_125 : decode cX11_seeds 125 = .ok (.iadd, 1) := dK_d_288.1
theorem dX11_seeds_126 : decode cX11_seeds 126 = .ok (.istore 7, 2) := dK_d_288.2.1
theorem dX11_seeds_128 : decode cX11_seeds 128 = .ok (.iload 6, 2) := dK_d_288.2.2.1
theorem dX11_seeds_130 : decode cX11_seeds 130 = .ok (.istore 10, 2) := dK_d_288.2.2.2.1
theorem dX11_seeds_132 : decode cX11_seeds 132 = .ok (.iload 10, 2) := dK_d_288.2.2.2.2.1
theorem dX11_seeds_134 : decode cX11_seeds 134 = .ok (.aload_n 0, 1) := dK_d_288.2.2.2.2.2.1
theorem dX11_seeds_135 : decode cX11_seeds 135 = .ok (.getfield 147, 3) := dK_d_288.2.2.2.2.2.2.1
theorem dX11_seeds_138 : decode cX11_seeds 138 = .ok (.if_icmp .ge 46, 3) := dK_d_288.2.2.2.2.2.2.2.1
theorem dK_d_289 : dk_P cX11_seeds [(141, (.iload 8, 2)), (143, (.aload_n 0, 1)), (144, (.getfield 37, 3)), (147, (.iload 10, 2)), (149, (.iaload, 1)), (150, (.iload_n 1, 1)), (151, (.if_icmp .ne 23, 3)), (154, (.aload_n 0, 1))] := dk_of 141 (by decide +kernel)
theorem dX11_seeds_141 : decode cX11_seeds 141 = .ok (.iload 8, 2) := dK_d_289.1
theorem dX11_seeds_143 : decode cX11_seeds 143 = .ok (.aload_n 0, 1) := dK_d_289.2.1
theorem dX11_seeds_144 : decode cX11_seeds 144 = .ok (.getfield 37, 3) := dK_d_289.2.2.1
theorem dX11_seeds_147 : decode cX11_seeds 147 = .ok (.iload 10, 2) := dK_d_289.2.2.2.1
theorem dX11_seeds_149 : decode cX11_seeds 149 = .ok (.iaload, 1) := dK_d_289.2.2.2.2.1
theorem dX11_seeds_150 : decode cX11_seeds 150 = .ok (.iload_n 1, 1) := dK_d_289.2.2.2.2.2.1
theorem dX11_seeds_151 : decode cX11_seeds 151 = .ok (.if_icmp .ne 23, 3) := dK_d_289.2.2.2.2.2.2.1
theorem dX11_seeds_154 : decode cX11_seeds 154 = .ok (.aload_n 0, 1) := dK_d_289.2.2.2.2.2.2.2.1
theorem dK_d_290 : dk_P cX11_seeds [(155, (.getfield 40, 3)), (158, (.iload 10, 2)), (160, (.iaload, 1)), (161, (.ifCond .le 13, 3)), (164, (.aload_n 0, 1)), (165, (.getfield 40, 3)), (168, (.iload 10, 2)), (170, (.iaload, 1))] := dk_of 155 (by decide +kernel)
theorem dX11_seeds_155 : decode cX11_seeds 155 = .ok (.getfield 40, 3) := dK_d_290.1
theorem dX11_seeds_158 : decode cX11_seeds 158 = .ok (.iload 10, 2) := dK_d_290.2.1
theorem dX11_seeds_160 : decode cX11_seeds 160 = .ok (.iaload, 1) := dK_d_290.2.2.1
theorem dX11_seeds_161 : decode cX11_seeds 161 = .ok (.ifCond .le 13, 3) := dK_d_290.2.2.2.1
theorem dX11_seeds_164 : decode cX11_seeds 164 = .ok (.aload_n 0, 1) := dK_d_290.2.2.2.2.1
theorem dX11_seeds_165 : decode cX11_seeds 165 = .ok (.getfield 40, 3) := dK_d_290.2.2.2.2.2.1
theorem dX11_seeds_168 : decode cX11_seeds 168 = .ok (.iload 10, 2) := dK_d_290.2.2.2.2.2.2.1
theorem dX11_seeds_170 : decode cX11_seeds 170 = .ok (.iaload, 1) := dK_d_290.2.2.2.2.2.2.2.1
theorem dK_d_291 : dk_P cX11_seeds [(171, (.goto 4, 3)), (174, (.iconst 0, 1)), (175, (.iadd, 1)), (176, (.istore 8, 2)), (178, (.iinc 10 1, 3)), (181, (.goto (-49), 3)), (184, (.iinc 9 1, 3)), (187, (.goto (-115), 3))] := dk_of 171 (by decide +kernel)
theorem dX11_seeds_171 : decode cX11_seeds 171 = .ok (.goto 4, 3) := dK_d_291.1
theorem dX11_seeds_174 : decode cX11_seeds 174 = .ok (.iconst 0, 1) := dK_d_291.2.1
theorem dX11_seeds_175 : decode cX11_seeds 175 = .ok (.iadd, 1) := dK_d_291.2.2.1
theorem dX11_seeds_176 : decode cX11_seeds 176 = .ok (.istore 8, 2) := dK_d_291.2.2.2.1
theorem dX11_seeds_178 : decode cX11_seeds 178 = .ok (.iinc 10 1, 3) := dK_d_291.2.2.2.2.1
theorem dX11_seeds_181 : decode cX11_seeds 181 = .ok (.goto (-49), 3) := dK_d_291.2.2.2.2.2.1
theorem dX11_seeds_184 : decode cX11_seeds 184 = .ok (.iinc 9 1, 3) := dK_d_291.2.2.2.2.2.2.1
theorem dX11_seeds_187 : decode cX11_seeds 187 = .ok (.goto (-115), 3) := dK_d_291.2.2.2.2.2.2.2.1
theorem dK_d_292 : dk_P cX11_seeds [(190, (.aload_n 0, 1)), (191, (.iload 6, 2)), (193, (.putfield 147, 3)), (196, (.iload 4, 2)), (198, (.ifCond .ne 8, 3)), (201, (.iload 7, 2)), (203, (.goto 5, 3)), (206, (.iload 8, 2))] := dk_of 190 (by decide +kernel)
theorem dX11_seeds_190 : decode cX11_seeds 190 = .ok (.aload_n 0, 1) := dK_d_292.1
theorem dX11_seeds_191 : decode cX11_seeds 191 = .ok (.iload 6, 2) := dK_d_292.2.1
theorem dX11_seeds_193 : decode cX11_seeds 193 = .ok (.putfield 147, 3) := dK_d_292.2.2.1
theorem dX11_seeds_196 : decode cX11_seeds 196 = .ok (.iload 4, 2) := dK_d_292.2.2.2.1
theorem dX11_seeds_198 : decode cX11_seeds 198 = .ok (.ifCond .ne 8, 3) := dK_d_292.2.2.2.2.1
theorem dX11_seeds_201 : decode cX11_seeds 201 = .ok (.iload 7, 2) := dK_d_292.2.2.2.2.2.1
theorem dX11_seeds_203 : decode cX11_seeds 203 = .ok (.goto 5, 3) := dK_d_292.2.2.2.2.2.2.1
theorem dX11_seeds_206 : decode cX11_seeds 206 = .ok (.iload 8, 2) := dK_d_292.2.2.2.2.2.2.2.1
theorem dK_d_293 : dk_P cX11_seeds [(208, (.ireturn, 1))] := dk_of 208 (by decide +kernel)
theorem dX11_seeds_208 : decode cX11_seeds 208 = .ok (.ireturn, 1) := dK_d_293.1
theorem dK_d_294 : dk_P cX11_triesAs [(0, (.iconst 0, 1)), (1, (.istore_n 2, 1)), (2, (.iconst 0, 1)), (3, (.istore_n 3, 1)), (4, (.iload_n 3, 1)), (5, (.aload_n 0, 1)), (6, (.getfield 147, 3)), (9, (.if_icmp .ge 27, 3))] := dk_of 0 (by decide +kernel)
theorem dX11_triesAs_0 : decode cX11_triesAs 0 = .ok (.iconst 0, 1) := dK_d_294.1
theorem dX11_triesAs_1 : decode cX11_triesAs 1 = .ok (.istore_n 2, 1) := dK_d_294.2.1
theorem dX11_triesAs_2 : decode cX11_triesAs 2 = .ok (.iconst 0, 1) := dK_d_294.2.2.1
theorem dX11_triesAs_3 : decode cX11_triesAs 3 = .ok (.istore_n 3, 1) := dK_d_294.2.2.2.1
theorem dX11_triesAs_4 : decode cX11_triesAs 4 = .ok (.iload_n 3, 1) := dK_d_294.2.2.2.2.1
theorem dX11_triesAs_5 : decode cX11_triesAs 5 = .ok (.aload_n 0, 1) := dK_d_294.2.2.2.2.2.1
theorem dX11_triesAs_6 : decode cX11_triesAs 6 = .ok (.getfield 147, 3) := dK_d_294.2.2.2.2.2.2.1
theorem dX11_triesAs_9 : decode cX11_triesAs 9 = .ok (.if_icmp .ge 27, 3) := dK_d_294.2.2.2.2.2.2.2.1
theorem dK_d_295 : dk_P cX11_triesAs [(12, (.iload_n 2, 1)), (13, (.aload_n 0, 1)), (14, (.getfield 40, 3)), (17, (.iload_n 3, 1)), (18, (.iaload, 1)), (19, (.iload_n 1, 1)), (20, (.if_icmp .ne 7, 3)), (23, (.iconst 1, 1))] := dk_of 12 (by decide +kernel)
theorem dX11_triesAs_12 : decode cX11_triesAs 12 = .ok (.iload_n 2, 1) := dK_d_295.1
theorem dX11_triesAs_13 : decode cX11_triesAs 13 = .ok (.aload_n 0, 1) := dK_d_295.2.1
theorem dX11_triesAs_14 : decode cX11_triesAs 14 = .ok (.getfield 40, 3) := dK_d_295.2.2.1
theorem dX11_triesAs_17 : decode cX11_triesAs 17 = .ok (.iload_n 3, 1) := dK_d_295.2.2.2.1
theorem dX11_triesAs_18 : decode cX11_triesAs 18 = .ok (.iaload, 1) := dK_d_295.2.2.2.2.1
theorem dX11_triesAs_19 : decode cX11_triesAs 19 = .ok (.iload_n 1, 1) := dK_d_295.2.2.2.2.2.1
theorem dX11_triesAs_20 : decode cX11_triesAs 20 = .ok (.if_icmp .ne 7, 3) := dK_d_295.2.2.2.2.2.2.1
theorem dX11_triesAs_23 : decode cX11_triesAs 23 = .ok (.iconst 1, 1) := dK_d_295.2.2.2.2.2.2.2.1
theorem dK_d_296 : dk_P cX11_triesAs [(24, (.goto 4, 3)), (27, (.iconst 0, 1)), (28, (.iadd, 1)), (29, (.istore_n 2, 1)), (30, (.iinc 3 1, 3)), (33, (.goto (-29), 3)), (36, (.iload_n 2, 1)), (37, (.ireturn, 1))] := dk_of 24 (by decide +kernel)
theorem dX11_triesAs_24 : decode cX11_triesAs 24 = .ok (.goto 4, 3) := dK_d_296.1
theorem dX11_triesAs_27 : decode cX11_triesAs 27 = .ok (.iconst 0, 1) := dK_d_296.2.1
theorem dX11_triesAs_28 : decode cX11_triesAs 28 = .ok (.iadd, 1) := dK_d_296.2.2.1
theorem dX11_triesAs_29 : decode cX11_triesAs 29 = .ok (.istore_n 2, 1) := dK_d_296.2.2.2.1
theorem dX11_triesAs_30 : decode cX11_triesAs 30 = .ok (.iinc 3 1, 3) := dK_d_296.2.2.2.2.1
theorem dX11_triesAs_33 : decode cX11_triesAs 33 = .ok (.goto (-29), 3) := dK_d_296.2.2.2.2.2.1
theorem dX11_triesAs_36 : decode cX11_triesAs 36 = .ok (.iload_n 2, 1) := dK_d_296.2.2.2.2.2.2.1
theorem dX11_triesAs_37 : decode cX11_triesAs 37 = .ok (.ireturn, 1) := dK_d_296.2.2.2.2.2.2.2.1
theorem dK_d_297 : dk_P cX11_count [(0, (.iload_n 1, 1)), (1, (.bipush 11, 2)), (3, (.bipush 16, 2)), (5, (.invokestatic 126, 3)), (8, (.ifCond .eq 13, 3)), (11, (.aload_n 0, 1)), (12, (.getfield 7, 3)), (15, (.iload_n 1, 1))] := dk_of 0 (by decide +kernel)
theorem dX11_count_0 : decode cX11_count 0 = .ok (.iload_n 1, 1) := dK_d_297.1
theorem dX11_count_1 : decode cX11_count 1 = .ok (.bipush 11, 2) := dK_d_297.2.1
theorem dX11_count_3 : decode cX11_count 3 = .ok (.bipush 16, 2) := dK_d_297.2.2.1
theorem dX11_count_5 : decode cX11_count 5 = .ok (.invokestatic 126, 3) := dK_d_297.2.2.2.1
theorem dX11_count_8 : decode cX11_count 8 = .ok (.ifCond .eq 13, 3) := dK_d_297.2.2.2.2.1
theorem dX11_count_11 : decode cX11_count 11 = .ok (.aload_n 0, 1) := dK_d_297.2.2.2.2.2.1
theorem dX11_count_12 : decode cX11_count 12 = .ok (.getfield 7, 3) := dK_d_297.2.2.2.2.2.2.1
theorem dX11_count_15 : decode cX11_count 15 = .ok (.iload_n 1, 1) := dK_d_297.2.2.2.2.2.2.2.1
theorem dK_d_298 : dk_P cX11_count [(16, (.bipush 10, 2)), (18, (.isub, 1)), (19, (.iaload, 1)), (20, (.ireturn, 1)), (21, (.iload_n 1, 1)), (22, (.tableswitch 99 0 8 #[50, 55, 60, 65, 70, 75, 82, 89, 94], 50)), (72, (.aload_n 0, 1)), (73, (.getfield 105, 3))] := dk_of 16 (by decide +kernel)
theorem dX11_count_16 : decode cX11_count 16 = .ok (.bipush 10, 2) := dK_d_298.1
theorem dX11_count_18 : decode cX11_count 18 = .ok (.isub, 1) := dK_d_298.2.1
theorem dX11_count_19 : decode cX11_count 19 = .ok (.iaload, 1) := dK_d_298.2.2.1
theorem dX11_count_20 : decode cX11_count 20 = .ok (.ireturn, 1) := dK_d_298.2.2.2.1
theorem dX11_count_21 : decode cX11_count 21 = .ok (.iload_n 1, 1) := dK_d_298.2.2.2.2.1
theorem dX11_count_22 : decode cX11_count 22 = .ok (.tableswitch 99 0 8 #[50, 55, 60, 65, 70, 75, 82, 89, 94], 50) := dK_d_298.2.2.2.2.2.1
theorem dX11_count_72 : decode cX11_count 72 = .ok (.aload_n 0, 1) := dK_d_298.2.2.2.2.2.2.1
theorem dX11_count_73 : decode cX11_count 73 = .ok (.getfield 105, 3) := dK_d_298.2.2.2.2.2.2.2.1
theorem dK_d_299 : dk_P cX11_count [(76, (.ireturn, 1)), (77, (.aload_n 0, 1)), (78, (.invokevirtual 301, 3)), (81, (.ireturn, 1)), (82, (.aload_n 0, 1)), (83, (.getfield 147, 3)), (86, (.ireturn, 1)), (87, (.aload_n 0, 1))] := dk_of 76 (by decide +kernel)
theorem dX11_count_76 : decode cX11_count 76 = .ok (.ireturn, 1) := dK_d_299.1
theorem dX11_count_77 : decode cX11_count 77 = .ok (.aload_n 0, 1) := dK_d_299.2.1
theorem dX11_count_78 : decode cX11_count 78 = .ok (.invokevirtual 301, 3) := dK_d_299.2.2.1
theorem dX11_count_81 : decode cX11_count 81 = .ok (.ireturn, 1) := dK_d_299.2.2.2.1
theorem dX11_count_82 : decode cX11_count 82 = .ok (.aload_n 0, 1) := dK_d_299.2.2.2.2.1
theorem dX11_count_83 : decode cX11_count 83 = .ok (.getfield 147, 3) := dK_d_299.2.2.2.2.2.1
theorem dX11_count_86 : decode cX11_count 86 = .ok (.ireturn, 1) := dK_d_299.2.2.2.2.2.2.1
theorem dX11_count_87 : decode cX11_count 87 = .ok (.aload_n 0, 1) := dK_d_299.2.2.2.2.2.2.2.1
theorem dK_d_300 : dk_P cX11_count [(88, (.getfield 95, 3)), (91, (.ireturn, 1)), (92, (.aload_n 0, 1)), (93, (.getfield 99, 3)), (96, (.ireturn, 1)), (97, (.aload_n 0, 1)), (98, (.bipush (-9), 2)), (100, (.invokevirtual 349, 3))] := dk_of 88 (by decide +kernel)
theorem dX11_count_88 : decode cX11_count 88 = .ok (.getfield 95, 3) := dK_d_300.1
theorem dX11_count_91 : decode cX11_count 91 = .ok (.ireturn, 1) := dK_d_300.2.1
theorem dX11_count_92 : decode cX11_count 92 = .ok (.aload_n 0, 1) := dK_d_300.2.2.1
theorem dX11_count_93 : decode cX11_count 93 = .ok (.getfield 99, 3) := dK_d_300.2.2.2.1
theorem dX11_count_96 : decode cX11_count 96 = .ok (.ireturn, 1) := dK_d_300.2.2.2.2.1
theorem dX11_count_97 : decode cX11_count 97 = .ok (.aload_n 0, 1) := dK_d_300.2.2.2.2.2.1
theorem dX11_count_98 : decode cX11_count 98 = .ok (.bipush (-9), 2) := dK_d_300.2.2.2.2.2.2.1
theorem dX11_count_100 : decode cX11_count 100 = .ok (.invokevirtual 349, 3) := dK_d_300.2.2.2.2.2.2.2.1
theorem dK_d_301 : dk_P cX11_count [(103, (.ireturn, 1)), (104, (.aload_n 0, 1)), (105, (.bipush (-8), 2)), (107, (.invokevirtual 349, 3)), (110, (.ireturn, 1)), (111, (.aload_n 0, 1)), (112, (.getfield 112, 3)), (115, (.ireturn, 1))] := dk_of 103 (by decide +kernel)
theorem dX11_count_103 : decode cX11_count 103 = .ok (.ireturn, 1) := dK_d_301.1
theorem dX11_count_104 : decode cX11_count 104 = .ok (.aload_n 0, 1) := dK_d_301.2.1
theorem dX11_count_105 : decode cX11_count 105 = .ok (.bipush (-8), 2) := dK_d_301.2.2.1
theorem dX11_count_107 : decode cX11_count 107 = .ok (.invokevirtual 349, 3) := dK_d_301.2.2.2.1
theorem dX11_count_110 : decode cX11_count 110 = .ok (.ireturn, 1) := dK_d_301.2.2.2.2.1
theorem dX11_count_111 : decode cX11_count 111 = .ok (.aload_n 0, 1) := dK_d_301.2.2.2.2.2.1
theorem dX11_count_112 : decode cX11_count 112 = .ok (.getfield 112, 3) := dK_d_301.2.2.2.2.2.2.1
theorem dX11_count_115 : decode cX11_count 115 = .ok (.ireturn, 1) := dK_d_301.2.2.2.2.2.2.2.1
theorem dK_d_302 : dk_P cX11_count [(116, (.aload_n 0, 1)), (117, (.getfield 295, 3)), (120, (.ireturn, 1)), (121, (.bipush (-9), 2)), (123, (.ireturn, 1))] := dk_of 116 (by decide +kernel)
theorem dX11_count_116 : decode cX11_count 116 = .ok (.aload_n 0, 1) := dK_d_302.1
theorem dX11_count_117 : decode cX11_count 117 = .ok (.getfield 295, 3) := dK_d_302.2.1
theorem dX11_count_120 : decode cX11_count 120 = .ok (.ireturn, 1) := dK_d_302.2.2.1
theorem dX11_count_121 : decode cX11_count 121 = .ok (.bipush (-9), 2) := dK_d_302.2.2.2.1
theorem dX11_count_123 : decode cX11_count 123 = .ok (.ireturn, 1) := dK_d_302.2.2.2.2.1
