theorem dK_a_0 : dk_P cX10_init [(0, (.aload_n 0, 1)), (1, (.invokespecial 1, 3)), (4, (.aload_n 0, 1)), (5, (.bipush 6, 2)), (7, (.anewarray 9, 3)), (10, (.putfield 11, 3)), (13, (.aload_n 0, 1)), (14, (.bipush 96, 2))] := dk_of 0 (by decide +kernel)
theorem dX10_init_0 : decode cX10_init 0 = .ok (.aload_n 0, 1) := dK_a_0.1
theorem dX10_init_1 : decode cX10_init 1 = .ok (.invokespecial 1, 3) := dK_a_0.2.1
theorem dX10_init_4 : decode cX10_init 4 = .ok (.aload_n 0, 1) := dK_a_0.2.2.1
theorem dX10_init_5 : decode cX10_init 5 = .ok (.bipush 6, 2) := dK_a_0.2.2.2.1
theorem dX10_init_7 : decode cX10_init 7 = .ok (.anewarray 9, 3) := dK_a_0.2.2.2.2.1
theorem dX10_init_10 : decode cX10_init 10 = .ok (.putfield 11, 3) := dK_a_0.2.2.2.2.2.1
theorem dX10_init_13 : decode cX10_init 13 = .ok (.aload_n 0, 1) := dK_a_0.2.2.2.2.2.2.1
theorem dX10_init_14 : decode cX10_init 14 = .ok (.bipush 96, 2) := dK_a_0.2.2.2.2.2.2.2.1
theorem dK_a_1 : dk_P cX10_init [(16, (.newarray .int, 2)), (18, (.putfield 15, 3)), (21, (.aload_n 0, 1)), (22, (.bipush 12, 2)), (24, (.newarray .int, 2)), (26, (.putfield 19, 3)), (29, (.aload_n 0, 1)), (30, (.bipush 7, 2))] := dk_of 16 (by decide +kernel)
theorem dX10_init_16 : decode cX10_init 16 = .ok (.newarray .int, 2) := dK_a_1.1
theorem dX10_init_18 : decode cX10_init 18 = .ok (.putfield 15, 3) := dK_a_1.2.1
theorem dX10_init_21 : decode cX10_init 21 = .ok (.aload_n 0, 1) := dK_a_1.2.2.1
theorem dX10_init_22 : decode cX10_init 22 = .ok (.bipush 12, 2) := dK_a_1.2.2.2.1
theorem dX10_init_24 : decode cX10_init 24 = .ok (.newarray .int, 2) := dK_a_1.2.2.2.2.1
theorem dX10_init_26 : decode cX10_init 26 = .ok (.putfield 19, 3) := dK_a_1.2.2.2.2.2.1
theorem dX10_init_29 : decode cX10_init 29 = .ok (.aload_n 0, 1) := dK_a_1.2.2.2.2.2.2.1
theorem dX10_init_30 : decode cX10_init 30 = .ok (.bipush 7, 2) := dK_a_1.2.2.2.2.2.2.2.1
theorem dK_a_2 : dk_P cX10_init [(32, (.newarray .int, 2)), (34, (.putfield 22, 3)), (37, (.aload_n 0, 1)), (38, (.new 25, 3)), (41, (.dup, 1)), (42, (.invokespecial 27, 3)), (45, (.putfield 28, 3)), (48, (.aload_n 0, 1))] := dk_of 32 (by decide +kernel)
theorem dX10_init_32 : decode cX10_init 32 = .ok (.newarray .int, 2) := dK_a_2.1
theorem dX10_init_34 : decode cX10_init 34 = .ok (.putfield 22, 3) := dK_a_2.2.1
theorem dX10_init_37 : decode cX10_init 37 = .ok (.aload_n 0, 1) := dK_a_2.2.2.1
theorem dX10_init_38 : decode cX10_init 38 = .ok (.new 25, 3) := dK_a_2.2.2.2.1
theorem dX10_init_41 : decode cX10_init 41 = .ok (.dup, 1) := dK_a_2.2.2.2.2.1
theorem dX10_init_42 : decode cX10_init 42 = .ok (.invokespecial 27, 3) := dK_a_2.2.2.2.2.2.1
theorem dX10_init_45 : decode cX10_init 45 = .ok (.putfield 28, 3) := dK_a_2.2.2.2.2.2.2.1
theorem dX10_init_48 : decode cX10_init 48 = .ok (.aload_n 0, 1) := dK_a_2.2.2.2.2.2.2.2.1
theorem dK_a_3 : dk_P cX10_init [(49, (.new 32, 3)), (52, (.dup, 1)), (53, (.invokespecial 34, 3)), (56, (.putfield 35, 3)), (59, (.aload_n 0, 1)), (60, (.sipush 1000, 3)), (63, (.newarray .int, 2)), (65, (.putfield 39, 3))] := dk_of 49 (by decide +kernel)
theorem dX10_init_49 : decode cX10_init 49 = .ok (.new 32, 3) := dK_a_3.1
theorem dX10_init_52 : decode cX10_init 52 = .ok (.dup, 1) := dK_a_3.2.1
theorem dX10_init_53 : decode cX10_init 53 = .ok (.invokespecial 34, 3) := dK_a_3.2.2.1
theorem dX10_init_56 : decode cX10_init 56 = .ok (.putfield 35, 3) := dK_a_3.2.2.2.1
theorem dX10_init_59 : decode cX10_init 59 = .ok (.aload_n 0, 1) := dK_a_3.2.2.2.2.1
theorem dX10_init_60 : decode cX10_init 60 = .ok (.sipush 1000, 3) := dK_a_3.2.2.2.2.2.1
theorem dX10_init_63 : decode cX10_init 63 = .ok (.newarray .int, 2) := dK_a_3.2.2.2.2.2.2.1
theorem dX10_init_65 : decode cX10_init 65 = .ok (.putfield 39, 3) := dK_a_3.2.2.2.2.2.2.2.1
theorem dK_a_4 : dk_P cX10_init [(68, (.aload_n 0, 1)), (69, (.sipush 1000, 3)), (72, (.newarray .int, 2)), (74, (.putfield 42, 3)), (77, (.aload_n 0, 1)), (78, (.bipush 9, 2)), (80, (.newarray .int, 2)), (82, (.putfield 45, 3))] := dk_of 68 (by decide +kernel)
theorem dX10_init_68 : decode cX10_init 68 = .ok (.aload_n 0, 1) := dK_a_4.1
theorem dX10_init_69 : decode cX10_init 69 = .ok (.sipush 1000, 3) := dK_a_4.2.1
theorem dX10_init_72 : decode cX10_init 72 = .ok (.newarray .int, 2) := dK_a_4.2.2.1
theorem dX10_init_74 : decode cX10_init 74 = .ok (.putfield 42, 3) := dK_a_4.2.2.2.1
theorem dX10_init_77 : decode cX10_init 77 = .ok (.aload_n 0, 1) := dK_a_4.2.2.2.2.1
theorem dX10_init_78 : decode cX10_init 78 = .ok (.bipush 9, 2) := dK_a_4.2.2.2.2.2.1
theorem dX10_init_80 : decode cX10_init 80 = .ok (.newarray .int, 2) := dK_a_4.2.2.2.2.2.2.1
theorem dX10_init_82 : decode cX10_init 82 = .ok (.putfield 45, 3) := dK_a_4.2.2.2.2.2.2.2.1
theorem dK_a_5 : dk_P cX10_init [(85, (.aload_n 0, 1)), (86, (.iconst 4, 1)), (87, (.newarray .int, 2)), (89, (.putfield 48, 3)), (92, (.new 9, 3)), (95, (.dup, 1)), (96, (.invokespecial 51, 3)), (99, (.astore_n 1, 1))] := dk_of 85 (by decide +kernel)
theorem dX10_init_85 : decode cX10_init 85 = .ok (.aload_n 0, 1) := dK_a_5.1
theorem dX10_init_86 : decode cX10_init 86 = .ok (.iconst 4, 1) := dK_a_5.2.1
theorem dX10_init_87 : decode cX10_init 87 = .ok (.newarray .int, 2) := dK_a_5.2.2.1
theorem dX10_init_89 : decode cX10_init 89 = .ok (.putfield 48, 3) := dK_a_5.2.2.2.1
theorem dX10_init_92 : decode cX10_init 92 = .ok (.new 9, 3) := dK_a_5.2.2.2.2.1
theorem dX10_init_95 : decode cX10_init 95 = .ok (.dup, 1) := dK_a_5.2.2.2.2.2.1
theorem dX10_init_96 : decode cX10_init 96 = .ok (.invokespecial 51, 3) := dK_a_5.2.2.2.2.2.2.1
theorem dX10_init_99 : decode cX10_init 99 = .ok (.astore_n 1, 1) := dK_a_5.2.2.2.2.2.2.2.1
theorem dK_a_6 : dk_P cX10_init [(100, (.aload_n 0, 1)), (101, (.getfield 11, 3)), (104, (.iconst 0, 1)), (105, (.aload_n 1, 1)), (106, (.aastore, 1)), (107, (.aload_n 0, 1)), (108, (.getfield 11, 3)), (111, (.iconst 1, 1))] := dk_of 100 (by decide +kernel)
theorem dX10_init_100 : decode cX10_init 100 = .ok (.aload_n 0, 1) := dK_a_6.1
theorem dX10_init_101 : decode cX10_init 101 = .ok (.getfield 11, 3) := dK_a_6.2.1
theorem dX10_init_104 : decode cX10_init 104 = .ok (.iconst 0, 1) := dK_a_6.2.2.1
theorem dX10_init_105 : decode cX10_init 105 = .ok (.aload_n 1, 1) := dK_a_6.2.2.2.1
theorem dX10_init_106 : decode cX10_init 106 = .ok (.aastore, 1) := dK_a_6.2.2.2.2.1
theorem dX10_init_107 : decode cX10_init 107 = .ok (.aload_n 0, 1) := dK_a_6.2.2.2.2.2.1
theorem dX10_init_108 : decode cX10_init 108 = .ok (.getfield 11, 3) := dK_a_6.2.2.2.2.2.2.1
theorem dX10_init_111 : decode cX10_init 111 = .ok (.iconst 1, 1) := dK_a_6.2.2.2.2.2.2.2.1
theorem dK_a_7 : dk_P cX10_init [(112, (.new 52, 3)), (115, (.dup, 1)), (116, (.invokespecial 54, 3)), (119, (.aastore, 1)), (120, (.aload_n 0, 1)), (121, (.getfield 11, 3)), (124, (.iconst 2, 1)), (125, (.new 55, 3))] := dk_of 112 (by decide +kernel)
theorem dX10_init_112 : decode cX10_init 112 = .ok (.new 52, 3) := dK_a_7.1
theorem dX10_init_115 : decode cX10_init 115 = .ok (.dup, 1) := dK_a_7.2.1
theorem dX10_init_116 : decode cX10_init 116 = .ok (.invokespecial 54, 3) := dK_a_7.2.2.1
theorem dX10_init_119 : decode cX10_init 119 = .ok (.aastore, 1) := dK_a_7.2.2.2.1
theorem dX10_init_120 : decode cX10_init 120 = .ok (.aload_n 0, 1) := dK_a_7.2.2.2.2.1
theorem dX10_init_121 : decode cX10_init 121 = .ok (.getfield 11, 3) := dK_a_7.2.2.2.2.2.1
theorem dX10_init_124 : decode cX10_init 124 = .ok (.iconst 2, 1) := dK_a_7.2.2.2.2.2.2.1
theorem dX10_init_125 : decode cX10_init 125 = .ok (.new 55, 3) := dK_a_7.2.2.2.2.2.2.2.1
theorem dK_a_8 : dk_P cX10_init [(128, (.dup, 1)), (129, (.invokespecial 57, 3)), (132, (.aastore, 1)), (133, (.aload_n 0, 1)), (134, (.getfield 11, 3)), (137, (.iconst 3, 1)), (138, (.new 58, 3)), (141, (.dup, 1))] := dk_of 128 (by decide +kernel)
theorem dX10_init_128 : decode cX10_init 128 = .ok (.dup, 1) := dK_a_8.1
theorem dX10_init_129 : decode cX10_init 129 = .ok (.invokespecial 57, 3) := dK_a_8.2.1
theorem dX10_init_132 : decode cX10_init 132 = .ok (.aastore, 1) := dK_a_8.2.2.1
theorem dX10_init_133 : decode cX10_init 133 = .ok (.aload_n 0, 1) := dK_a_8.2.2.2.1
theorem dX10_init_134 : decode cX10_init 134 = .ok (.getfield 11, 3) := dK_a_8.2.2.2.2.1
theorem dX10_init_137 : decode cX10_init 137 = .ok (.iconst 3, 1) := dK_a_8.2.2.2.2.2.1
theorem dX10_init_138 : decode cX10_init 138 = .ok (.new 58, 3) := dK_a_8.2.2.2.2.2.2.1
theorem dX10_init_141 : decode cX10_init 141 = .ok (.dup, 1) := dK_a_8.2.2.2.2.2.2.2.1
theorem dK_a_9 : dk_P cX10_init [(142, (.invokespecial 60, 3)), (145, (.aastore, 1)), (146, (.aload_n 0, 1)), (147, (.getfield 11, 3)), (150, (.iconst 4, 1)), (151, (.new 61, 3)), (154, (.dup, 1)), (155, (.invokespecial 63, 3))] := dk_of 142 (by decide +kernel)
theorem dX10_init_142 : decode cX10_init 142 = .ok (.invokespecial 60, 3) := dK_a_9.1
theorem dX10_init_145 : decode cX10_init 145 = .ok (.aastore, 1) := dK_a_9.2.1
theorem dX10_init_146 : decode cX10_init 146 = .ok (.aload_n 0, 1) := dK_a_9.2.2.1
theorem dX10_init_147 : decode cX10_init 147 = .ok (.getfield 11, 3) := dK_a_9.2.2.2.1
theorem dX10_init_150 : decode cX10_init 150 = .ok (.iconst 4, 1) := dK_a_9.2.2.2.2.1
theorem dX10_init_151 : decode cX10_init 151 = .ok (.new 61, 3) := dK_a_9.2.2.2.2.2.1
theorem dX10_init_154 : decode cX10_init 154 = .ok (.dup, 1) := dK_a_9.2.2.2.2.2.2.1
theorem dX10_init_155 : decode cX10_init 155 = .ok (.invokespecial 63, 3) := dK_a_9.2.2.2.2.2.2.2.1
theorem dK_a_10 : dk_P cX10_init [(158, (.aastore, 1)), (159, (.aload_n 0, 1)), (160, (.getfield 11, 3)), (163, (.iconst 5, 1)), (164, (.new 64, 3)), (167, (.dup, 1)), (168, (.invokespecial 66, 3)), (171, (.aastore, 1))] := dk_of 158 (by decide +kernel)
theorem dX10_init_158 : decode cX10_init 158 = .ok (.aastore, 1) := dK_a_10.1
theorem dX10_init_159 : decode cX10_init 159 = .ok (.aload_n 0, 1) := dK_a_10.2.1
theorem dX10_init_160 : decode cX10_init 160 = .ok (.getfield 11, 3) := dK_a_10.2.2.1
theorem dX10_init_163 : decode cX10_init 163 = .ok (.iconst 5, 1) := dK_a_10.2.2.2.1
theorem dX10_init_164 : decode cX10_init 164 = .ok (.new 64, 3) := dK_a_10.2.2.2.2.1
theorem dX10_init_167 : decode cX10_init 167 = .ok (.dup, 1) := dK_a_10.2.2.2.2.2.1
theorem dX10_init_168 : decode cX10_init 168 = .ok (.invokespecial 66, 3) := dK_a_10.2.2.2.2.2.2.1
theorem dX10_init_171 : decode cX10_init 171 = .ok (.aastore, 1) := dK_a_10.2.2.2.2.2.2.2.1
theorem dK_a_11 : dk_P cX10_init [(172, (.aload_n 0, 1)), (173, (.new 67, 3)), (176, (.dup, 1)), (177, (.aload_n 1, 1)), (178, (.invokespecial 69, 3)), (181, (.putfield 72, 3)), (184, (.aload_n 0, 1)), (185, (.new 67, 3))] := dk_of 172 (by decide +kernel)
theorem dX10_init_172 : decode cX10_init 172 = .ok (.aload_n 0, 1) := dK_a_11.1
theorem dX10_init_173 : decode cX10_init 173 = .ok (.new 67, 3) := dK_a_11.2.1
theorem dX10_init_176 : decode cX10_init 176 = .ok (.dup, 1) := dK_a_11.2.2.1
theorem dX10_init_177 : decode cX10_init 177 = .ok (.aload_n 1, 1) := dK_a_11.2.2.2.1
theorem dX10_init_178 : decode cX10_init 178 = .ok (.invokespecial 69, 3) := dK_a_11.2.2.2.2.1
theorem dX10_init_181 : decode cX10_init 181 = .ok (.putfield 72, 3) := dK_a_11.2.2.2.2.2.1
theorem dX10_init_184 : decode cX10_init 184 = .ok (.aload_n 0, 1) := dK_a_11.2.2.2.2.2.2.1
theorem dX10_init_185 : decode cX10_init 185 = .ok (.new 67, 3) := dK_a_11.2.2.2.2.2.2.2.1
theorem dK_a_12 : dk_P cX10_init [(188, (.dup, 1)), (189, (.aload_n 1, 1)), (190, (.invokespecial 69, 3)), (193, (.putfield 76, 3)), (196, (.aload_n 0, 1)), (197, (.new 67, 3)), (200, (.dup, 1)), (201, (.aload_n 1, 1))] := dk_of 188 (by decide +kernel)
theorem dX10_init_188 : decode cX10_init 188 = .ok (.dup, 1) := dK_a_12.1
theorem dX10_init_189 : decode cX10_init 189 = .ok (.aload_n 1, 1) := dK_a_12.2.1
theorem dX10_init_190 : decode cX10_init 190 = .ok (.invokespecial 69, 3) := dK_a_12.2.2.1
theorem dX10_init_193 : decode cX10_init 193 = .ok (.putfield 76, 3) := dK_a_12.2.2.2.1
theorem dX10_init_196 : decode cX10_init 196 = .ok (.aload_n 0, 1) := dK_a_12.2.2.2.2.1
theorem dX10_init_197 : decode cX10_init 197 = .ok (.new 67, 3) := dK_a_12.2.2.2.2.2.1
theorem dX10_init_200 : decode cX10_init 200 = .ok (.dup, 1) := dK_a_12.2.2.2.2.2.2.1
theorem dX10_init_201 : decode cX10_init 201 = .ok (.aload_n 1, 1) := dK_a_12.2.2.2.2.2.2.2.1
theorem dK_a_13 : dk_P cX10_init [(202, (.invokespecial 69, 3)), (205, (.putfield 79, 3)), (208, (.aload_n 0, 1)), (209, (.new 82, 3)), (212, (.dup, 1)), (213, (.aload_n 1, 1)), (214, (.invokespecial 84, 3)), (217, (.putfield 85, 3))] := dk_of 202 (by decide +kernel)
theorem dX10_init_202 : decode cX10_init 202 = .ok (.invokespecial 69, 3) := dK_a_13.1
theorem dX10_init_205 : decode cX10_init 205 = .ok (.putfield 79, 3) := dK_a_13.2.1
theorem dX10_init_208 : decode cX10_init 208 = .ok (.aload_n 0, 1) := dK_a_13.2.2.1
theorem dX10_init_209 : decode cX10_init 209 = .ok (.new 82, 3) := dK_a_13.2.2.2.1
theorem dX10_init_212 : decode cX10_init 212 = .ok (.dup, 1) := dK_a_13.2.2.2.2.1
theorem dX10_init_213 : decode cX10_init 213 = .ok (.aload_n 1, 1) := dK_a_13.2.2.2.2.2.1
theorem dX10_init_214 : decode cX10_init 214 = .ok (.invokespecial 84, 3) := dK_a_13.2.2.2.2.2.2.1
theorem dX10_init_217 : decode cX10_init 217 = .ok (.putfield 85, 3) := dK_a_13.2.2.2.2.2.2.2.1
theorem dK_a_14 : dk_P cX10_init [(220, (.return_, 1))] := dk_of 220 (by decide +kernel)
theorem dX10_init_220 : decode cX10_init 220 = .ok (.return_, 1) := dK_a_14.1
theorem dK_a_15 : dk_P cX10_refuse [(0, (.iload_n 1, 1)), (1, (.ifCond .ge 24, 3)), (4, (.iload_n 1, 1)), (5, (.ineg, 1)), (6, (.aload_n 0, 1)), (7, (.getfield 22, 3)), (10, (.arraylength, 1)), (11, (.if_icmp .ge 14, 3))] := dk_of 0 (by decide +kernel)
theorem dX10_refuse_0 : decode cX10_refuse 0 = .ok (.iload_n 1, 1) := dK_a_15.1
theorem dX10_refuse_1 : decode cX10_refuse 1 = .ok (.ifCond .ge 24, 3) := dK_a_15.2.1
theorem dX10_refuse_4 : decode cX10_refuse 4 = .ok (.iload_n 1, 1) := dK_a_15.2.2.1
theorem dX10_refuse_5 : decode cX10_refuse 5 = .ok (.ineg, 1) := dK_a_15.2.2.2.1
theorem dX10_refuse_6 : decode cX10_refuse 6 = .ok (.aload_n 0, 1) := dK_a_15.2.2.2.2.1
theorem dX10_refuse_7 : decode cX10_refuse 7 = .ok (.getfield 22, 3) := dK_a_15.2.2.2.2.2.1
theorem dX10_refuse_10 : decode cX10_refuse 10 = .ok (.arraylength, 1) := dK_a_15.2.2.2.2.2.2.1
theorem dX10_refuse_11 : decode cX10_refuse 11 = .ok (.if_icmp .ge 14, 3) := dK_a_15.2.2.2.2.2.2.2.1
theorem dK_a_16 : dk_P cX10_refuse [(14, (.aload_n 0, 1)), (15, (.getfield 22, 3)), (18, (.iload_n 1, 1)), (19, (.ineg, 1)), (20, (.dup2, 1)), (21, (.iaload, 1)), (22, (.iconst 1, 1)), (23, (.iadd, 1))] := dk_of 14 (by decide +kernel)
theorem dX10_refuse_14 : decode cX10_refuse 14 = .ok (.aload_n 0, 1) := dK_a_16.1
theorem dX10_refuse_15 : decode cX10_refuse 15 = .ok (.getfield 22, 3) := dK_a_16.2.1
theorem dX10_refuse_18 : decode cX10_refuse 18 = .ok (.iload_n 1, 1) := dK_a_16.2.2.1
theorem dX10_refuse_19 : decode cX10_refuse 19 = .ok (.ineg, 1) := dK_a_16.2.2.2.1
theorem dX10_refuse_20 : decode cX10_refuse 20 = .ok (.dup2, 1) := dK_a_16.2.2.2.2.1
theorem dX10_refuse_21 : decode cX10_refuse 21 = .ok (.iaload, 1) := dK_a_16.2.2.2.2.2.1
theorem dX10_refuse_22 : decode cX10_refuse 22 = .ok (.iconst 1, 1) := dK_a_16.2.2.2.2.2.2.1
theorem dX10_refuse_23 : decode cX10_refuse 23 = .ok (.iadd, 1) := dK_a_16.2.2.2.2.2.2.2.1
theorem dK_a_17 : dk_P cX10_refuse [(24, (.iastore, 1)), (25, (.iload_n 1, 1)), (26, (.ireturn, 1))] := dk_of 24 (by decide +kernel)
theorem dX10_refuse_24 : decode cX10_refuse 24 = .ok (.iastore, 1) := dK_a_17.1
theorem dX10_refuse_25 : decode cX10_refuse 25 = .ok (.iload_n 1, 1) := dK_a_17.2.1
theorem dX10_refuse_26 : decode cX10_refuse 26 = .ok (.ireturn, 1) := dK_a_17.2.2.1
theorem dK_a_18 : dk_P cX10_first [(0, (.iload_n 0, 1)), (1, (.ifCond .eq 7, 3)), (4, (.iload_n 0, 1)), (5, (.goto 4, 3)), (8, (.iload_n 1, 1)), (9, (.ireturn, 1))] := dk_of 0 (by decide +kernel)
theorem dX10_first_0 : decode cX10_first 0 = .ok (.iload_n 0, 1) := dK_a_18.1
theorem dX10_first_1 : decode cX10_first 1 = .ok (.ifCond .eq 7, 3) := dK_a_18.2.1
theorem dX10_first_4 : decode cX10_first 4 = .ok (.iload_n 0, 1) := dK_a_18.2.2.1
theorem dX10_first_5 : decode cX10_first 5 = .ok (.goto 4, 3) := dK_a_18.2.2.2.1
theorem dX10_first_8 : decode cX10_first 8 = .ok (.iload_n 1, 1) := dK_a_18.2.2.2.2.1
theorem dX10_first_9 : decode cX10_first 9 = .ok (.ireturn, 1) := dK_a_18.2.2.2.2.2.1
theorem dK_a_19 : dk_P cX10_nobody [(0, (.iload_n 1, 1)), (1, (.ifCond .lt 14, 3)), (4, (.iload_n 1, 1)), (5, (.aload_n 0, 1)), (6, (.getfield 72, 3)), (9, (.getfield 89, 3)), (12, (.if_icmp .lt 7, 3)), (15, (.iconst (-1), 1))] := dk_of 0 (by decide +kernel)
theorem dX10_nobody_0 : decode cX10_nobody 0 = .ok (.iload_n 1, 1) := dK_a_19.1
theorem dX10_nobody_1 : decode cX10_nobody 1 = .ok (.ifCond .lt 14, 3) := dK_a_19.2.1
theorem dX10_nobody_4 : decode cX10_nobody 4 = .ok (.iload_n 1, 1) := dK_a_19.2.2.1
theorem dX10_nobody_5 : decode cX10_nobody 5 = .ok (.aload_n 0, 1) := dK_a_19.2.2.2.1
theorem dX10_nobody_6 : decode cX10_nobody 6 = .ok (.getfield 72, 3) := dK_a_19.2.2.2.2.1
theorem dX10_nobody_9 : decode cX10_nobody 9 = .ok (.getfield 89, 3) := dK_a_19.2.2.2.2.2.1
theorem dX10_nobody_12 : decode cX10_nobody 12 = .ok (.if_icmp .lt 7, 3) := dK_a_19.2.2.2.2.2.2.1
theorem dX10_nobody_15 : decode cX10_nobody 15 = .ok (.iconst (-1), 1) := dK_a_19.2.2.2.2.2.2.2.1
theorem dK_a_20 : dk_P cX10_nobody [(16, (.goto 4, 3)), (19, (.iconst 0, 1)), (20, (.ireturn, 1))] := dk_of 16 (by decide +kernel)
theorem dX10_nobody_16 : decode cX10_nobody 16 = .ok (.goto 4, 3) := dK_a_20.1
theorem dX10_nobody_19 : decode cX10_nobody 19 = .ok (.iconst 0, 1) := dK_a_20.2.1
theorem dX10_nobody_20 : decode cX10_nobody 20 = .ok (.ireturn, 1) := dK_a_20.2.2.1
theorem dK_a_21 : dk_P cX10_nobodyOfTwo [(0, (.iload_n 1, 1)), (1, (.iload_n 2, 1)), (2, (.if_icmp .ne 7, 3)), (5, (.iconst (-1), 1)), (6, (.goto 16, 3)), (9, (.aload_n 0, 1)), (10, (.iload_n 1, 1)), (11, (.invokevirtual 93, 3))] := dk_of 0 (by decide +kernel)
theorem dX10_nobodyOfTwo_0 : decode cX10_nobodyOfTwo 0 = .ok (.iload_n 1, 1) := dK_a_21.1
theorem dX10_nobodyOfTwo_1 : decode cX10_nobodyOfTwo 1 = .ok (.iload_n 2, 1) := dK_a_21.2.1
theorem dX10_nobodyOfTwo_2 : decode cX10_nobodyOfTwo 2 = .ok (.if_icmp .ne 7, 3) := dK_a_21.2.2.1
theorem dX10_nobodyOfTwo_5 : decode cX10_nobodyOfTwo 5 = .ok (.iconst (-1), 1) := dK_a_21.2.2.2.1
theorem dX10_nobodyOfTwo_6 : decode cX10_nobodyOfTwo 6 = .ok (.goto 16, 3) := dK_a_21.2.2.2.2.1
theorem dX10_nobodyOfTwo_9 : decode cX10_nobodyOfTwo 9 = .ok (.aload_n 0, 1) := dK_a_21.2.2.2.2.2.1
theorem dX10_nobodyOfTwo_10 : decode cX10_nobodyOfTwo 10 = .ok (.iload_n 1, 1) := dK_a_21.2.2.2.2.2.2.1
theorem dX10_nobodyOfTwo_11 : decode cX10_nobodyOfTwo 11 = .ok (.invokevirtual 93, 3) := dK_a_21.2.2.2.2.2.2.2.1
theorem dK_a_22 : dk_P cX10_nobodyOfTwo [(14, (.aload_n 0, 1)), (15, (.iload_n 2, 1)), (16, (.invokevirtual 93, 3)), (19, (.invokestatic 97, 3)), (22, (.ireturn, 1))] := dk_of 14 (by decide +kernel)
theorem dX10_nobodyOfTwo_14 : decode cX10_nobodyOfTwo 14 = .ok (.aload_n 0, 1) := dK_a_22.1
theorem dX10_nobodyOfTwo_15 : decode cX10_nobodyOfTwo 15 = .ok (.iload_n 2, 1) := dK_a_22.2.1
theorem dX10_nobodyOfTwo_16 : decode cX10_nobodyOfTwo 16 = .ok (.invokevirtual 93, 3) := dK_a_22.2.2.1
theorem dX10_nobodyOfTwo_19 : decode cX10_nobodyOfTwo 19 = .ok (.invokestatic 97, 3) := dK_a_22.2.2.2.1
theorem dX10_nobodyOfTwo_22 : decode cX10_nobodyOfTwo 22 = .ok (.ireturn, 1) := dK_a_22.2.2.2.2.1
theorem dK_a_23 : dk_P cX10_noSuch [(0, (.iload_n 0, 1)), (1, (.ifCond .lt 8, 3)), (4, (.iload_n 0, 1)), (5, (.iload_n 1, 1)), (6, (.if_icmp .le 8, 3)), (9, (.bipush (-2), 2)), (11, (.goto 4, 3)), (14, (.iconst 0, 1))] := dk_of 0 (by decide +kernel)
theorem dX10_noSuch_0 : decode cX10_noSuch 0 = .ok (.iload_n 0, 1) := dK_a_23.1
theorem dX10_noSuch_1 : decode cX10_noSuch 1 = .ok (.ifCond .lt 8, 3) := dK_a_23.2.1
theorem dX10_noSuch_4 : decode cX10_noSuch 4 = .ok (.iload_n 0, 1) := dK_a_23.2.2.1
theorem dX10_noSuch_5 : decode cX10_noSuch 5 = .ok (.iload_n 1, 1) := dK_a_23.2.2.2.1
theorem dX10_noSuch_6 : decode cX10_noSuch 6 = .ok (.if_icmp .le 8, 3) := dK_a_23.2.2.2.2.1
theorem dX10_noSuch_9 : decode cX10_noSuch 9 = .ok (.bipush (-2), 2) := dK_a_23.2.2.2.2.2.1
theorem dX10_noSuch_11 : decode cX10_noSuch 11 = .ok (.goto 4, 3) := dK_a_23.2.2.2.2.2.2.1
theorem dX10_noSuch_14 : decode cX10_noSuch 14 = .ok (.iconst 0, 1) := dK_a_23.2.2.2.2.2.2.2.1
theorem dK_a_24 : dk_P cX10_noSuch [(15, (.ireturn, 1))] := dk_of 15 (by decide +kernel)
theorem dX10_noSuch_15 : decode cX10_noSuch 15 = .ok (.ireturn, 1) := dK_a_24.1
theorem dK_a_25 : dk_P cX10_outside [(0, (.iload_n 0, 1)), (1, (.iload_n 1, 1)), (2, (.if_icmp .ge 8, 3)), (5, (.bipush (-4), 2)), (7, (.goto 14, 3)), (10, (.iload_n 0, 1)), (11, (.iload_n 2, 1)), (12, (.if_icmp .le 8, 3))] := dk_of 0 (by decide +kernel)
theorem dX10_outside_0 : decode cX10_outside 0 = .ok (.iload_n 0, 1) := dK_a_25.1
theorem dX10_outside_1 : decode cX10_outside 1 = .ok (.iload_n 1, 1) := dK_a_25.2.1
theorem dX10_outside_2 : decode cX10_outside 2 = .ok (.if_icmp .ge 8, 3) := dK_a_25.2.2.1
theorem dX10_outside_5 : decode cX10_outside 5 = .ok (.bipush (-4), 2) := dK_a_25.2.2.2.1
theorem dX10_outside_7 : decode cX10_outside 7 = .ok (.goto 14, 3) := dK_a_25.2.2.2.2.1
theorem dX10_outside_10 : decode cX10_outside 10 = .ok (.iload_n 0, 1) := dK_a_25.2.2.2.2.2.1
theorem dX10_outside_11 : decode cX10_outside 11 = .ok (.iload_n 2, 1) := dK_a_25.2.2.2.2.2.2.1
theorem dX10_outside_12 : decode cX10_outside 12 = .ok (.if_icmp .le 8, 3) := dK_a_25.2.2.2.2.2.2.2.1
theorem dK_a_26 : dk_P cX10_outside [(15, (.bipush (-6), 2)), (17, (.goto 4, 3)), (20, (.iconst 0, 1)), (21, (.ireturn, 1))] := dk_of 15 (by decide +kernel)
theorem dX10_outside_15 : decode cX10_outside 15 = .ok (.bipush (-6), 2) := dK_a_26.1
theorem dX10_outside_17 : decode cX10_outside 17 = .ok (.goto 4, 3) := dK_a_26.2.1
theorem dX10_outside_20 : decode cX10_outside 20 = .ok (.iconst 0, 1) := dK_a_26.2.2.1
theorem dX10_outside_21 : decode cX10_outside 21 = .ok (.ireturn, 1) := dK_a_26.2.2.2.1
theorem dK_a_27 : dk_P cX10_noPart [(0, (.iload_n 0, 1)), (1, (.iconst 1, 1)), (2, (.invokestatic 101, 3)), (5, (.ireturn, 1))] := dk_of 0 (by decide +kernel)
theorem dX10_noPart_0 : decode cX10_noPart 0 = .ok (.iload_n 0, 1) := dK_a_27.1
theorem dX10_noPart_1 : decode cX10_noPart 1 = .ok (.iconst 1, 1) := dK_a_27.2.1
theorem dX10_noPart_2 : decode cX10_noPart 2 = .ok (.invokestatic 101, 3) := dK_a_27.2.2.1
theorem dX10_noPart_5 : decode cX10_noPart 5 = .ok (.ireturn, 1) := dK_a_27.2.2.2.1
theorem dK_a_28 : dk_P cX10_outsideTwo [(0, (.iload_n 0, 1)), (1, (.bipush (-4), 2)), (3, (.if_icmp .eq 9, 3)), (6, (.iload_n 1, 1)), (7, (.bipush (-4), 2)), (9, (.if_icmp .ne 8, 3)), (12, (.bipush (-4), 2)), (14, (.goto 8, 3))] := dk_of 0 (by decide +kernel)
theorem dX10_outsideTwo_0 : decode cX10_outsideTwo 0 = .ok (.iload_n 0, 1) := dK_a_28.1
theorem dX10_outsideTwo_1 : decode cX10_outsideTwo 1 = .ok (.bipush (-4), 2) := dK_a_28.2.1
theorem dX10_outsideTwo_3 : decode cX10_outsideTwo 3 = .ok (.if_icmp .eq 9, 3) := dK_a_28.2.2.1
theorem dX10_outsideTwo_6 : decode cX10_outsideTwo 6 = .ok (.iload_n 1, 1) := dK_a_28.2.2.2.1
theorem dX10_outsideTwo_7 : decode cX10_outsideTwo 7 = .ok (.bipush (-4), 2) := dK_a_28.2.2.2.2.1
theorem dX10_outsideTwo_9 : decode cX10_outsideTwo 9 = .ok (.if_icmp .ne 8, 3) := dK_a_28.2.2.2.2.2.1
theorem dX10_outsideTwo_12 : decode cX10_outsideTwo 12 = .ok (.bipush (-4), 2) := dK_a_28.2.2.2.2.2.2.1
theorem dX10_outsideTwo_14 : decode cX10_outsideTwo 14 = .ok (.goto 8, 3) := dK_a_28.2.2.2.2.2.2.2.1
theorem dK_a_29 : dk_P cX10_outsideTwo [(17, (.iload_n 0, 1)), (18, (.iload_n 1, 1)), (19, (.invokestatic 97, 3)), (22, (.ireturn, 1))] := dk_of 17 (by decide +kernel)
theorem dX10_outsideTwo_17 : decode cX10_outsideTwo 17 = .ok (.iload_n 0, 1) := dK_a_29.1
theorem dX10_outsideTwo_18 : decode cX10_outsideTwo 18 = .ok (.iload_n 1, 1) := dK_a_29.2.1
theorem dX10_outsideTwo_19 : decode cX10_outsideTwo 19 = .ok (.invokestatic 97, 3) := dK_a_29.2.2.1
theorem dX10_outsideTwo_22 : decode cX10_outsideTwo 22 = .ok (.ireturn, 1) := dK_a_29.2.2.2.1
theorem dK_a_30 : dk_P cX10_feed [(0, (.iload_n 1, 1)), (1, (.iconst 0, 1)), (2, (.sipush 255, 3)), (5, (.invokestatic 104, 3)), (8, (.aload_n 0, 1)), (9, (.getfield 108, 3)), (12, (.iconst 0, 1)), (13, (.bipush 95, 2))] := dk_of 0 (by decide +kernel)
theorem dX10_feed_0 : decode cX10_feed 0 = .ok (.iload_n 1, 1) := dK_a_30.1
theorem dX10_feed_1 : decode cX10_feed 1 = .ok (.iconst 0, 1) := dK_a_30.2.1
theorem dX10_feed_2 : decode cX10_feed 2 = .ok (.sipush 255, 3) := dK_a_30.2.2.1
theorem dX10_feed_5 : decode cX10_feed 5 = .ok (.invokestatic 104, 3) := dK_a_30.2.2.2.1
theorem dX10_feed_8 : decode cX10_feed 8 = .ok (.aload_n 0, 1) := dK_a_30.2.2.2.2.1
theorem dX10_feed_9 : decode cX10_feed 9 = .ok (.getfield 108, 3) := dK_a_30.2.2.2.2.2.1
theorem dX10_feed_12 : decode cX10_feed 12 = .ok (.iconst 0, 1) := dK_a_30.2.2.2.2.2.2.1
theorem dX10_feed_13 : decode cX10_feed 13 = .ok (.bipush 95, 2) := dK_a_30.2.2.2.2.2.2.2.1
theorem dK_a_31 : dk_P cX10_feed [(15, (.invokestatic 104, 3)), (18, (.invokestatic 97, 3)), (21, (.istore_n 2, 1)), (22, (.iload_n 2, 1)), (23, (.ifCond .eq 9, 3)), (26, (.aload_n 0, 1)), (27, (.iload_n 2, 1)), (28, (.invokevirtual 111, 3))] := dk_of 15 (by decide +kernel)
theorem dX10_feed_15 : decode cX10_feed 15 = .ok (.invokestatic 104, 3) := dK_a_31.1
theorem dX10_feed_18 : decode cX10_feed 18 = .ok (.invokestatic 97, 3) := dK_a_31.2.1
theorem dX10_feed_21 : decode cX10_feed 21 = .ok (.istore_n 2, 1) := dK_a_31.2.2.1
theorem dX10_feed_22 : decode cX10_feed 22 = .ok (.iload_n 2, 1) := dK_a_31.2.2.2.1
theorem dX10_feed_23 : decode cX10_feed 23 = .ok (.ifCond .eq 9, 3) := dK_a_31.2.2.2.2.1
theorem dX10_feed_26 : decode cX10_feed 26 = .ok (.aload_n 0, 1) := dK_a_31.2.2.2.2.2.1
theorem dX10_feed_27 : decode cX10_feed 27 = .ok (.iload_n 2, 1) := dK_a_31.2.2.2.2.2.2.1
theorem dX10_feed_28 : decode cX10_feed 28 = .ok (.invokevirtual 111, 3) := dK_a_31.2.2.2.2.2.2.2.1
theorem dK_a_32 : dk_P cX10_feed [(31, (.ireturn, 1)), (32, (.aload_n 0, 1)), (33, (.getfield 15, 3)), (36, (.aload_n 0, 1)), (37, (.getfield 108, 3)), (40, (.iload_n 1, 1)), (41, (.iastore, 1)), (42, (.aload_n 0, 1))] := dk_of 31 (by decide +kernel)
theorem dX10_feed_31 : decode cX10_feed 31 = .ok (.ireturn, 1) := dK_a_32.1
theorem dX10_feed_32 : decode cX10_feed 32 = .ok (.aload_n 0, 1) := dK_a_32.2.1
theorem dX10_feed_33 : decode cX10_feed 33 = .ok (.getfield 15, 3) := dK_a_32.2.2.1
theorem dX10_feed_36 : decode cX10_feed 36 = .ok (.aload_n 0, 1) := dK_a_32.2.2.2.1
theorem dX10_feed_37 : decode cX10_feed 37 = .ok (.getfield 108, 3) := dK_a_32.2.2.2.2.1
theorem dX10_feed_40 : decode cX10_feed 40 = .ok (.iload_n 1, 1) := dK_a_32.2.2.2.2.2.1
theorem dX10_feed_41 : decode cX10_feed 41 = .ok (.iastore, 1) := dK_a_32.2.2.2.2.2.2.1
theorem dX10_feed_42 : decode cX10_feed 42 = .ok (.aload_n 0, 1) := dK_a_32.2.2.2.2.2.2.2.1
theorem dK_a_33 : dk_P cX10_feed [(43, (.dup, 1)), (44, (.getfield 108, 3)), (47, (.iconst 1, 1)), (48, (.iadd, 1)), (49, (.putfield 108, 3)), (52, (.aload_n 0, 1)), (53, (.getfield 108, 3)), (56, (.ireturn, 1))] := dk_of 43 (by decide +kernel)
theorem dX10_feed_43 : decode cX10_feed 43 = .ok (.dup, 1) := dK_a_33.1
theorem dX10_feed_44 : decode cX10_feed 44 = .ok (.getfield 108, 3) := dK_a_33.2.1
theorem dX10_feed_47 : decode cX10_feed 47 = .ok (.iconst 1, 1) := dK_a_33.2.2.1
theorem dX10_feed_48 : decode cX10_feed 48 = .ok (.iadd, 1) := dK_a_33.2.2.2.1
theorem dX10_feed_49 : decode cX10_feed 49 = .ok (.putfield 108, 3) := dK_a_33.2.2.2.2.1
theorem dX10_feed_52 : decode cX10_feed 52 = .ok (.aload_n 0, 1) := dK_a_33.2.2.2.2.2.1
theorem dX10_feed_53 : decode cX10_feed 53 = .ok (.getfield 108, 3) := dK_a_33.2.2.2.2.2.2.1
theorem dX10_feed_56 : decode cX10_feed 56 = .ok (.ireturn, 1) := dK_a_33.2.2.2.2.2.2.2.1
theorem dK_a_34 : dk_P cX10_ground [(0, (.aload_n 0, 1)), (1, (.invokevirtual 114, 3)), (4, (.istore_n 1, 1)), (5, (.iload_n 1, 1)), (6, (.iconst (-1), 1)), (7, (.if_icmp .eq 11, 3)), (10, (.sipush (-1000), 3)), (13, (.iload_n 1, 1))] := dk_of 0 (by decide +kernel)
theorem dX10_ground_0 : decode cX10_ground 0 = .ok (.aload_n 0, 1) := dK_a_34.1
theorem dX10_ground_1 : decode cX10_ground 1 = .ok (.invokevirtual 114, 3) := dK_a_34.2.1
theorem dX10_ground_4 : decode cX10_ground 4 = .ok (.istore_n 1, 1) := dK_a_34.2.2.1
theorem dX10_ground_5 : decode cX10_ground 5 = .ok (.iload_n 1, 1) := dK_a_34.2.2.2.1
theorem dX10_ground_6 : decode cX10_ground 6 = .ok (.iconst (-1), 1) := dK_a_34.2.2.2.2.1
theorem dX10_ground_7 : decode cX10_ground 7 = .ok (.if_icmp .eq 11, 3) := dK_a_34.2.2.2.2.2.1
theorem dX10_ground_10 : decode cX10_ground 10 = .ok (.sipush (-1000), 3) := dK_a_34.2.2.2.2.2.2.1
theorem dX10_ground_13 : decode cX10_ground 13 = .ok (.iload_n 1, 1) := dK_a_34.2.2.2.2.2.2.2.1
theorem dK_a_35 : dk_P cX10_ground [(14, (.isub, 1)), (15, (.goto 7, 3)), (18, (.aload_n 0, 1)), (19, (.invokevirtual 118, 3)), (22, (.istore_n 2, 1)), (23, (.aload_n 0, 1)), (24, (.iconst 0, 1)), (25, (.putfield 108, 3))] := dk_of 14 (by decide +kernel)
theorem dX10_ground_14 : decode cX10_ground 14 = .ok (.isub, 1) := dK_a_35.1
theorem dX10_ground_15 : decode cX10_ground 15 = .ok (.goto 7, 3) := dK_a_35.2.1
theorem dX10_ground_18 : decode cX10_ground 18 = .ok (.aload_n 0, 1) := dK_a_35.2.2.1
theorem dX10_ground_19 : decode cX10_ground 19 = .ok (.invokevirtual 118, 3) := dK_a_35.2.2.2.1
theorem dX10_ground_22 : decode cX10_ground 22 = .ok (.istore_n 2, 1) := dK_a_35.2.2.2.2.1
theorem dX10_ground_23 : decode cX10_ground 23 = .ok (.aload_n 0, 1) := dK_a_35.2.2.2.2.2.1
theorem dX10_ground_24 : decode cX10_ground 24 = .ok (.iconst 0, 1) := dK_a_35.2.2.2.2.2.2.1
theorem dX10_ground_25 : decode cX10_ground 25 = .ok (.putfield 108, 3) := dK_a_35.2.2.2.2.2.2.2.1
theorem dK_a_36 : dk_P cX10_ground [(28, (.iload_n 2, 1)), (29, (.ifCond .lt 14, 3)), (32, (.aload_n 0, 1)), (33, (.getfield 72, 3)), (36, (.aload_n 0, 1)), (37, (.getfield 76, 3)), (40, (.invokevirtual 121, 3)), (43, (.iload_n 2, 1))] := dk_of 28 (by decide +kernel)
theorem dX10_ground_28 : decode cX10_ground 28 = .ok (.iload_n 2, 1) := dK_a_36.1
theorem dX10_ground_29 : decode cX10_ground 29 = .ok (.ifCond .lt 14, 3) := dK_a_36.2.1
theorem dX10_ground_32 : decode cX10_ground 32 = .ok (.aload_n 0, 1) := dK_a_36.2.2.1
theorem dX10_ground_33 : decode cX10_ground 33 = .ok (.getfield 72, 3) := dK_a_36.2.2.2.1
theorem dX10_ground_36 : decode cX10_ground 36 = .ok (.aload_n 0, 1) := dK_a_36.2.2.2.2.1
theorem dX10_ground_37 : decode cX10_ground 37 = .ok (.getfield 76, 3) := dK_a_36.2.2.2.2.2.1
theorem dX10_ground_40 : decode cX10_ground 40 = .ok (.invokevirtual 121, 3) := dK_a_36.2.2.2.2.2.2.1
theorem dX10_ground_43 : decode cX10_ground 43 = .ok (.iload_n 2, 1) := dK_a_36.2.2.2.2.2.2.2.1
theorem dK_a_37 : dk_P cX10_ground [(44, (.ireturn, 1))] := dk_of 44 (by decide +kernel)
theorem dX10_ground_44 : decode cX10_ground 44 = .ok (.ireturn, 1) := dK_a_37.1
theorem dK_a_38 : dk_P cX10_digitsBehind [(0, (.iload_n 0, 1)), (1, (.tableswitch 96 102 119 #[94, 89, 96, 96, 91, 96, 96, 96, 87, 96, 94, 96, 96, 96, 87, 96, 96, 89], 87)), (88, (.iconst 2, 1)), (89, (.ireturn, 1)), (90, (.iconst 1, 1)), (91, (.ireturn, 1)), (92, (.bipush 13, 2)), (94, (.ireturn, 1))] := dk_of 0 (by decide +kernel)
theorem dX10_digitsBehind_0 : decode cX10_digitsBehind 0 = .ok (.iload_n 0, 1) := dK_a_38.1
theorem dX10_digitsBehind_1 : decode cX10_digitsBehind 1 = .ok (.tableswitch 96 102 119 #[94, 89, 96, 96, 91, 96, 96, 96, 87, 96, 94, 96, 96, 96, 87, 96, 96, 89], 87) := dK_a_38.2.1
theorem dX10_digitsBehind_88 : decode cX10_digitsBehind 88 = .ok (.iconst 2, 1) := dK_a_38.2.2.1
theorem dX10_digitsBehind_89 : decode cX10_digitsBehind 89 = .ok (.ireturn, 1) := dK_a_38.2.2.2.1
theorem dX10_digitsBehind_90 : decode cX10_digitsBehind 90 = .ok (.iconst 1, 1) := dK_a_38.2.2.2.2.1
theorem dX10_digitsBehind_91 : decode cX10_digitsBehind 91 = .ok (.ireturn, 1) := dK_a_38.2.2.2.2.2.1
theorem dX10_digitsBehind_92 : decode cX10_digitsBehind 92 = .ok (.bipush 13, 2) := dK_a_38.2.2.2.2.2.2.1
theorem dX10_digitsBehind_94 : decode cX10_digitsBehind 94 = .ok (.ireturn, 1) := dK_a_38.2.2.2.2.2.2.2.1
theorem dK_a_39 : dk_P cX10_digitsBehind [(95, (.iconst 0, 1)), (96, (.ireturn, 1)), (97, (.iconst (-1), 1)), (98, (.ireturn, 1))] := dk_of 95 (by decide +kernel)
theorem dX10_digitsBehind_95 : decode cX10_digitsBehind 95 = .ok (.iconst 0, 1) := dK_a_39.1
theorem dX10_digitsBehind_96 : decode cX10_digitsBehind 96 = .ok (.ireturn, 1) := dK_a_39.2.1
theorem dX10_digitsBehind_97 : decode cX10_digitsBehind 97 = .ok (.iconst (-1), 1) := dK_a_39.2.2.1
theorem dX10_digitsBehind_98 : decode cX10_digitsBehind 98 = .ok (.ireturn, 1) := dK_a_39.2.2.2.1
theorem dK_a_40 : dk_P cX10_firstBadLetter [(0, (.iconst 0, 1)), (1, (.istore_n 1, 1)), (2, (.iconst 0, 1)), (3, (.istore_n 2, 1)), (4, (.iconst 0, 1)), (5, (.istore_n 3, 1)), (6, (.iconst 0, 1)), (7, (.istore 4, 2))] := dk_of 0 (by decide +kernel)
theorem dX10_firstBadLetter_0 : decode cX10_firstBadLetter 0 = .ok (.iconst 0, 1) := dK_a_40.1
theorem dX10_firstBadLetter_1 : decode cX10_firstBadLetter 1 = .ok (.istore_n 1, 1) := dK_a_40.2.1
theorem dX10_firstBadLetter_2 : decode cX10_firstBadLetter 2 = .ok (.iconst 0, 1) := dK_a_40.2.2.1
theorem dX10_firstBadLetter_3 : decode cX10_firstBadLetter 3 = .ok (.istore_n 2, 1) := dK_a_40.2.2.2.1
theorem dX10_firstBadLetter_4 : decode cX10_firstBadLetter 4 = .ok (.iconst 0, 1) := dK_a_40.2.2.2.2.1
theorem dX10_firstBadLetter_5 : decode cX10_firstBadLetter 5 = .ok (.istore_n 3, 1) := dK_a_40.2.2.2.2.2.1
theorem dX10_firstBadLetter_6 : decode cX10_firstBadLetter 6 = .ok (.iconst 0, 1) := dK_a_40.2.2.2.2.2.2.1
theorem dX10_firstBadLetter_7 : decode cX10_firstBadLetter 7 = .ok (.istore 4, 2) := dK_a_40.2.2.2.2.2.2.2.1
theorem dK_a_41 : dk_P cX10_firstBadLetter [(9, (.iload 4, 2)), (11, (.aload_n 0, 1)), (12, (.getfield 108, 3)), (15, (.if_icmp .ge 118, 3)), (18, (.aload_n 0, 1)), (19, (.getfield 15, 3)), (22, (.iload 4, 2)), (24, (.iaload, 1))] := dk_of 9 (by decide +kernel)
theorem dX10_firstBadLetter_9 : decode cX10_firstBadLetter 9 = .ok (.iload 4, 2) := dK_a_41.1
theorem dX10_firstBadLetter_11 : decode cX10_firstBadLetter 11 = .ok (.aload_n 0, 1) := dK_a_41.2.1
theorem dX10_firstBadLetter_12 : decode cX10_firstBadLetter 12 = .ok (.getfield 108, 3) := dK_a_41.2.2.1
theorem dX10_firstBadLetter_15 : decode cX10_firstBadLetter 15 = .ok (.if_icmp .ge 118, 3) := dK_a_41.2.2.2.1
theorem dX10_firstBadLetter_18 : decode cX10_firstBadLetter 18 = .ok (.aload_n 0, 1) := dK_a_41.2.2.2.2.1
theorem dX10_firstBadLetter_19 : decode cX10_firstBadLetter 19 = .ok (.getfield 15, 3) := dK_a_41.2.2.2.2.2.1
theorem dX10_firstBadLetter_22 : decode cX10_firstBadLetter 22 = .ok (.iload 4, 2) := dK_a_41.2.2.2.2.2.2.1
theorem dX10_firstBadLetter_24 : decode cX10_firstBadLetter 24 = .ok (.iaload, 1) := dK_a_41.2.2.2.2.2.2.2.1
theorem dK_a_42 : dk_P cX10_firstBadLetter [(25, (.istore 5, 2)), (27, (.iload_n 1, 1)), (28, (.ifCond .ne 34, 3)), (31, (.iload 5, 2)), (33, (.invokestatic 125, 3)), (36, (.istore_n 3, 1)), (37, (.iload_n 3, 1)), (38, (.ifCond .ge 6, 3))] := dk_of 25 (by decide +kernel)
theorem dX10_firstBadLetter_25 : decode cX10_firstBadLetter 25 = .ok (.istore 5, 2) := dK_a_42.1
theorem dX10_firstBadLetter_27 : decode cX10_firstBadLetter 27 = .ok (.iload_n 1, 1) := dK_a_42.2.1
theorem dX10_firstBadLetter_28 : decode cX10_firstBadLetter 28 = .ok (.ifCond .ne 34, 3) := dK_a_42.2.2.1
theorem dX10_firstBadLetter_31 : decode cX10_firstBadLetter 31 = .ok (.iload 5, 2) := dK_a_42.2.2.2.1
theorem dX10_firstBadLetter_33 : decode cX10_firstBadLetter 33 = .ok (.invokestatic 125, 3) := dK_a_42.2.2.2.2.1
theorem dX10_firstBadLetter_36 : decode cX10_firstBadLetter 36 = .ok (.istore_n 3, 1) := dK_a_42.2.2.2.2.2.1
theorem dX10_firstBadLetter_37 : decode cX10_firstBadLetter 37 = .ok (.iload_n 3, 1) := dK_a_42.2.2.2.2.2.2.1
theorem dX10_firstBadLetter_38 : decode cX10_firstBadLetter 38 = .ok (.ifCond .ge 6, 3) := dK_a_42.2.2.2.2.2.2.2.1
theorem dK_a_43 : dk_P cX10_firstBadLetter [(41, (.iload 4, 2)), (43, (.ireturn, 1)), (44, (.iload 5, 2)), (46, (.bipush 119, 2)), (48, (.if_icmp .ne 7, 3)), (51, (.iconst 1, 1)), (52, (.goto 4, 3)), (55, (.iconst 0, 1))] := dk_of 41 (by decide +kernel)
theorem dX10_firstBadLetter_41 : decode cX10_firstBadLetter 41 = .ok (.iload 4, 2) := dK_a_43.1
theorem dX10_firstBadLetter_43 : decode cX10_firstBadLetter 43 = .ok (.ireturn, 1) := dK_a_43.2.1
theorem dX10_firstBadLetter_44 : decode cX10_firstBadLetter 44 = .ok (.iload 5, 2) := dK_a_43.2.2.1
theorem dX10_firstBadLetter_46 : decode cX10_firstBadLetter 46 = .ok (.bipush 119, 2) := dK_a_43.2.2.2.1
theorem dX10_firstBadLetter_48 : decode cX10_firstBadLetter 48 = .ok (.if_icmp .ne 7, 3) := dK_a_43.2.2.2.2.1
theorem dX10_firstBadLetter_51 : decode cX10_firstBadLetter 51 = .ok (.iconst 1, 1) := dK_a_43.2.2.2.2.2.1
theorem dX10_firstBadLetter_52 : decode cX10_firstBadLetter 52 = .ok (.goto 4, 3) := dK_a_43.2.2.2.2.2.2.1
theorem dX10_firstBadLetter_55 : decode cX10_firstBadLetter 55 = .ok (.iconst 0, 1) := dK_a_43.2.2.2.2.2.2.2.1
theorem dK_a_44 : dk_P cX10_firstBadLetter [(56, (.istore_n 2, 1)), (57, (.iconst 1, 1)), (58, (.istore_n 1, 1)), (59, (.goto 68, 3)), (62, (.iload_n 2, 1)), (63, (.ifCond .eq 25, 3)), (66, (.iload 5, 2)), (68, (.bipush 43, 2))] := dk_of 56 (by decide +kernel)
theorem dX10_firstBadLetter_56 : decode cX10_firstBadLetter 56 = .ok (.istore_n 2, 1) := dK_a_44.1
theorem dX10_firstBadLetter_57 : decode cX10_firstBadLetter 57 = .ok (.iconst 1, 1) := dK_a_44.2.1
theorem dX10_firstBadLetter_58 : decode cX10_firstBadLetter 58 = .ok (.istore_n 1, 1) := dK_a_44.2.2.1
theorem dX10_firstBadLetter_59 : decode cX10_firstBadLetter 59 = .ok (.goto 68, 3) := dK_a_44.2.2.2.1
theorem dX10_firstBadLetter_62 : decode cX10_firstBadLetter 62 = .ok (.iload_n 2, 1) := dK_a_44.2.2.2.2.1
theorem dX10_firstBadLetter_63 : decode cX10_firstBadLetter 63 = .ok (.ifCond .eq 25, 3) := dK_a_44.2.2.2.2.2.1
theorem dX10_firstBadLetter_66 : decode cX10_firstBadLetter 66 = .ok (.iload 5, 2) := dK_a_44.2.2.2.2.2.2.1
theorem dX10_firstBadLetter_68 : decode cX10_firstBadLetter 68 = .ok (.bipush 43, 2) := dK_a_44.2.2.2.2.2.2.2.1
theorem dK_a_45 : dk_P cX10_firstBadLetter [(70, (.if_icmp .eq 13, 3)), (73, (.iload 5, 2)), (75, (.bipush 45, 2)), (77, (.if_icmp .eq 6, 3)), (80, (.iload 4, 2)), (82, (.ireturn, 1)), (83, (.iconst 0, 1)), (84, (.istore_n 2, 1))] := dk_of 70 (by decide +kernel)
theorem dX10_firstBadLetter_70 : decode cX10_firstBadLetter 70 = .ok (.if_icmp .eq 13, 3) := dK_a_45.1
theorem dX10_firstBadLetter_73 : decode cX10_firstBadLetter 73 = .ok (.iload 5, 2) := dK_a_45.2.1
theorem dX10_firstBadLetter_75 : decode cX10_firstBadLetter 75 = .ok (.bipush 45, 2) := dK_a_45.2.2.1
theorem dX10_firstBadLetter_77 : decode cX10_firstBadLetter 77 = .ok (.if_icmp .eq 6, 3) := dK_a_45.2.2.2.1
theorem dX10_firstBadLetter_80 : decode cX10_firstBadLetter 80 = .ok (.iload 4, 2) := dK_a_45.2.2.2.2.1
theorem dX10_firstBadLetter_82 : decode cX10_firstBadLetter 82 = .ok (.ireturn, 1) := dK_a_45.2.2.2.2.2.1
theorem dX10_firstBadLetter_83 : decode cX10_firstBadLetter 83 = .ok (.iconst 0, 1) := dK_a_45.2.2.2.2.2.2.1
theorem dX10_firstBadLetter_84 : decode cX10_firstBadLetter 84 = .ok (.istore_n 2, 1) := dK_a_45.2.2.2.2.2.2.2.1
theorem dK_a_46 : dk_P cX10_firstBadLetter [(85, (.goto 42, 3)), (88, (.iload_n 3, 1)), (89, (.ifCond .le 26, 3)), (92, (.iload 5, 2)), (94, (.bipush 48, 2)), (96, (.if_icmp .lt 10, 3)), (99, (.iload 5, 2)), (101, (.bipush 57, 2))] := dk_of 85 (by decide +kernel)
theorem dX10_firstBadLetter_85 : decode cX10_firstBadLetter 85 = .ok (.goto 42, 3) := dK_a_46.1
theorem dX10_firstBadLetter_88 : decode cX10_firstBadLetter 88 = .ok (.iload_n 3, 1) := dK_a_46.2.1
theorem dX10_firstBadLetter_89 : decode cX10_firstBadLetter 89 = .ok (.ifCond .le 26, 3) := dK_a_46.2.2.1
theorem dX10_firstBadLetter_92 : decode cX10_firstBadLetter 92 = .ok (.iload 5, 2) := dK_a_46.2.2.2.1
theorem dX10_firstBadLetter_94 : decode cX10_firstBadLetter 94 = .ok (.bipush 48, 2) := dK_a_46.2.2.2.2.1
theorem dX10_firstBadLetter_96 : decode cX10_firstBadLetter 96 = .ok (.if_icmp .lt 10, 3) := dK_a_46.2.2.2.2.2.1
theorem dX10_firstBadLetter_99 : decode cX10_firstBadLetter 99 = .ok (.iload 5, 2) := dK_a_46.2.2.2.2.2.2.1
theorem dX10_firstBadLetter_101 : decode cX10_firstBadLetter 101 = .ok (.bipush 57, 2) := dK_a_46.2.2.2.2.2.2.2.1
theorem dK_a_47 : dk_P cX10_firstBadLetter [(103, (.if_icmp .le 6, 3)), (106, (.iload 4, 2)), (108, (.ireturn, 1)), (109, (.iinc 3 (-1), 3)), (112, (.goto 15, 3)), (115, (.iload 5, 2)), (117, (.bipush 59, 2)), (119, (.if_icmp .eq 6, 3))] := dk_of 103 (by decide +kernel)
theorem dX10_firstBadLetter_103 : decode cX10_firstBadLetter 103 = .ok (.if_icmp .le 6, 3) := dK_a_47.1
theorem dX10_firstBadLetter_106 : decode cX10_firstBadLetter 106 = .ok (.iload 4, 2) := dK_a_47.2.1
theorem dX10_firstBadLetter_108 : decode cX10_firstBadLetter 108 = .ok (.ireturn, 1) := dK_a_47.2.2.1
theorem dX10_firstBadLetter_109 : decode cX10_firstBadLetter 109 = .ok (.iinc 3 (-1), 3) := dK_a_47.2.2.2.1
theorem dX10_firstBadLetter_112 : decode cX10_firstBadLetter 112 = .ok (.goto 15, 3) := dK_a_47.2.2.2.2.1
theorem dX10_firstBadLetter_115 : decode cX10_firstBadLetter 115 = .ok (.iload 5, 2) := dK_a_47.2.2.2.2.2.1
theorem dX10_firstBadLetter_117 : decode cX10_firstBadLetter 117 = .ok (.bipush 59, 2) := dK_a_47.2.2.2.2.2.2.1
theorem dX10_firstBadLetter_119 : decode cX10_firstBadLetter 119 = .ok (.if_icmp .eq 6, 3) := dK_a_47.2.2.2.2.2.2.2.1
theorem dK_a_48 : dk_P cX10_firstBadLetter [(122, (.iload 4, 2)), (124, (.ireturn, 1)), (125, (.iconst 0, 1)), (126, (.istore_n 1, 1)), (127, (.iinc 4 1, 3)), (130, (.goto (-121), 3)), (133, (.iload_n 1, 1)), (134, (.ifCond .ne 10, 3))] := dk_of 122 (by decide +kernel)
theorem dX10_firstBadLetter_122 : decode cX10_firstBadLetter 122 = .ok (.iload 4, 2) := dK_a_48.1
theorem dX10_firstBadLetter_124 : decode cX10_firstBadLetter 124 = .ok (.ireturn, 1) := dK_a_48.2.1
theorem dX10_firstBadLetter_125 : decode cX10_firstBadLetter 125 = .ok (.iconst 0, 1) := dK_a_48.2.2.1
theorem dX10_firstBadLetter_126 : decode cX10_firstBadLetter 126 = .ok (.istore_n 1, 1) := dK_a_48.2.2.2.1
theorem dX10_firstBadLetter_127 : decode cX10_firstBadLetter 127 = .ok (.iinc 4 1, 3) := dK_a_48.2.2.2.2.1
theorem dX10_firstBadLetter_130 : decode cX10_firstBadLetter 130 = .ok (.goto (-121), 3) := dK_a_48.2.2.2.2.2.1
theorem dX10_firstBadLetter_133 : decode cX10_firstBadLetter 133 = .ok (.iload_n 1, 1) := dK_a_48.2.2.2.2.2.2.1
theorem dX10_firstBadLetter_134 : decode cX10_firstBadLetter 134 = .ok (.ifCond .ne 10, 3) := dK_a_48.2.2.2.2.2.2.2.1
theorem dK_a_49 : dk_P cX10_firstBadLetter [(137, (.aload_n 0, 1)), (138, (.getfield 108, 3)), (141, (.ifCond .ne 10, 3)), (144, (.aload_n 0, 1)), (145, (.getfield 108, 3)), (148, (.goto 4, 3)), (151, (.iconst (-1), 1)), (152, (.ireturn, 1))] := dk_of 137 (by decide +kernel)
theorem dX10_firstBadLetter_137 : decode cX10_firstBadLetter 137 = .ok (.aload_n 0, 1) := dK_a_49.1
theorem dX10_firstBadLetter_138 : decode cX10_firstBadLetter 138 = .ok (.getfield 108, 3) := dK_a_49.2.1
theorem dX10_firstBadLetter_141 : decode cX10_firstBadLetter 141 = .ok (.ifCond .ne 10, 3) := dK_a_49.2.2.1
theorem dX10_firstBadLetter_144 : decode cX10_firstBadLetter 144 = .ok (.aload_n 0, 1) := dK_a_49.2.2.2.1
theorem dX10_firstBadLetter_145 : decode cX10_firstBadLetter 145 = .ok (.getfield 108, 3) := dK_a_49.2.2.2.2.1
theorem dX10_firstBadLetter_148 : decode cX10_firstBadLetter 148 = .ok (.goto 4, 3) := dK_a_49.2.2.2.2.2.1
theorem dX10_firstBadLetter_151 : decode cX10_firstBadLetter 151 = .ok (.iconst (-1), 1) := dK_a_49.2.2.2.2.2.2.1
theorem dX10_firstBadLetter_152 : decode cX10_firstBadLetter 152 = .ok (.ireturn, 1) := dK_a_49.2.2.2.2.2.2.2.1
theorem dK_a_50 : dk_P cX10_span [(0, (.iload_n 0, 1)), (1, (.invokestatic 125, 3)), (4, (.istore_n 1, 1)), (5, (.iload_n 1, 1)), (6, (.ifCond .ge 7, 3)), (9, (.iconst 0, 1)), (10, (.goto 4, 3)), (13, (.iload_n 1, 1))] := dk_of 0 (by decide +kernel)
theorem dX10_span_0 : decode cX10_span 0 = .ok (.iload_n 0, 1) := dK_a_50.1
theorem dX10_span_1 : decode cX10_span 1 = .ok (.invokestatic 125, 3) := dK_a_50.2.1
theorem dX10_span_4 : decode cX10_span 4 = .ok (.istore_n 1, 1) := dK_a_50.2.2.1
theorem dX10_span_5 : decode cX10_span 5 = .ok (.iload_n 1, 1) := dK_a_50.2.2.2.1
theorem dX10_span_6 : decode cX10_span 6 = .ok (.ifCond .ge 7, 3) := dK_a_50.2.2.2.2.1
theorem dX10_span_9 : decode cX10_span 9 = .ok (.iconst 0, 1) := dK_a_50.2.2.2.2.2.1
theorem dX10_span_10 : decode cX10_span 10 = .ok (.goto 4, 3) := dK_a_50.2.2.2.2.2.2.1
theorem dX10_span_13 : decode cX10_span 13 = .ok (.iload_n 1, 1) := dK_a_50.2.2.2.2.2.2.2.1
theorem dK_a_51 : dk_P cX10_span [(14, (.iload_n 0, 1)), (15, (.bipush 119, 2)), (17, (.if_icmp .ne 7, 3)), (20, (.iconst 3, 1)), (21, (.goto 4, 3)), (24, (.iconst 2, 1)), (25, (.iadd, 1)), (26, (.ireturn, 1))] := dk_of 14 (by decide +kernel)
theorem dX10_span_14 : decode cX10_span 14 = .ok (.iload_n 0, 1) := dK_a_51.1
theorem dX10_span_15 : decode cX10_span 15 = .ok (.bipush 119, 2) := dK_a_51.2.1
theorem dX10_span_17 : decode cX10_span 17 = .ok (.if_icmp .ne 7, 3) := dK_a_51.2.2.1
theorem dX10_span_20 : decode cX10_span 20 = .ok (.iconst 3, 1) := dK_a_51.2.2.2.1
theorem dX10_span_21 : decode cX10_span 21 = .ok (.goto 4, 3) := dK_a_51.2.2.2.2.1
theorem dX10_span_24 : decode cX10_span 24 = .ok (.iconst 2, 1) := dK_a_51.2.2.2.2.2.1
theorem dX10_span_25 : decode cX10_span 25 = .ok (.iadd, 1) := dK_a_51.2.2.2.2.2.2.1
theorem dX10_span_26 : decode cX10_span 26 = .ok (.ireturn, 1) := dK_a_51.2.2.2.2.2.2.2.1
theorem dK_a_52 : dk_P cX10_statementsInMind [(0, (.aload_n 0, 1)), (1, (.getfield 76, 3)), (4, (.aload_n 0, 1)), (5, (.getfield 72, 3)), (8, (.invokevirtual 121, 3)), (11, (.iconst 0, 1)), (12, (.istore_n 1, 1)), (13, (.iconst 0, 1))] := dk_of 0 (by decide +kernel)
theorem dX10_statementsInMind_0 : decode cX10_statementsInMind 0 = .ok (.aload_n 0, 1) := dK_a_52.1
theorem dX10_statementsInMind_1 : decode cX10_statementsInMind 1 = .ok (.getfield 76, 3) := dK_a_52.2.1
theorem dX10_statementsInMind_4 : decode cX10_statementsInMind 4 = .ok (.aload_n 0, 1) := dK_a_52.2.2.1
theorem dX10_statementsInMind_5 : decode cX10_statementsInMind 5 = .ok (.getfield 72, 3) := dK_a_52.2.2.2.1
theorem dX10_statementsInMind_8 : decode cX10_statementsInMind 8 = .ok (.invokevirtual 121, 3) := dK_a_52.2.2.2.2.1
theorem dX10_statementsInMind_11 : decode cX10_statementsInMind 11 = .ok (.iconst 0, 1) := dK_a_52.2.2.2.2.2.1
theorem dX10_statementsInMind_12 : decode cX10_statementsInMind 12 = .ok (.istore_n 1, 1) := dK_a_52.2.2.2.2.2.2.1
theorem dX10_statementsInMind_13 : decode cX10_statementsInMind 13 = .ok (.iconst 0, 1) := dK_a_52.2.2.2.2.2.2.2.1
theorem dK_a_53 : dk_P cX10_statementsInMind [(14, (.istore_n 2, 1)), (15, (.iload_n 2, 1)), (16, (.aload_n 0, 1)), (17, (.getfield 108, 3)), (20, (.if_icmp .ge 35, 3)), (23, (.aload_n 0, 1)), (24, (.iload_n 2, 1)), (25, (.invokevirtual 128, 3))] := dk_of 14 (by decide +kernel)
theorem dX10_statementsInMind_14 : decode cX10_statementsInMind 14 = .ok (.istore_n 2, 1) := dK_a_53.1
theorem dX10_statementsInMind_15 : decode cX10_statementsInMind 15 = .ok (.iload_n 2, 1) := dK_a_53.2.1
theorem dX10_statementsInMind_16 : decode cX10_statementsInMind 16 = .ok (.aload_n 0, 1) := dK_a_53.2.2.1
theorem dX10_statementsInMind_17 : decode cX10_statementsInMind 17 = .ok (.getfield 108, 3) := dK_a_53.2.2.2.1
theorem dX10_statementsInMind_20 : decode cX10_statementsInMind 20 = .ok (.if_icmp .ge 35, 3) := dK_a_53.2.2.2.2.1
theorem dX10_statementsInMind_23 : decode cX10_statementsInMind 23 = .ok (.aload_n 0, 1) := dK_a_53.2.2.2.2.2.1
theorem dX10_statementsInMind_24 : decode cX10_statementsInMind 24 = .ok (.iload_n 2, 1) := dK_a_53.2.2.2.2.2.2.1
theorem dX10_statementsInMind_25 : decode cX10_statementsInMind 25 = .ok (.invokevirtual 128, 3) := dK_a_53.2.2.2.2.2.2.2.1
theorem dK_a_54 : dk_P cX10_statementsInMind [(28, (.ifCond .ne 9, 3)), (31, (.sipush (-2000), 3)), (34, (.iload_n 2, 1)), (35, (.isub, 1)), (36, (.ireturn, 1)), (37, (.iinc 1 1, 3)), (40, (.iload_n 2, 1)), (41, (.aload_n 0, 1))] := dk_of 28 (by decide +kernel)
theorem dX10_statementsInMind_28 : decode cX10_statementsInMind 28 = .ok (.ifCond .ne 9, 3) := dK_a_54.1
theorem dX10_statementsInMind_31 : decode cX10_statementsInMind 31 = .ok (.sipush (-2000), 3) := dK_a_54.2.1
theorem dX10_statementsInMind_34 : decode cX10_statementsInMind 34 = .ok (.iload_n 2, 1) := dK_a_54.2.2.1
theorem dX10_statementsInMind_35 : decode cX10_statementsInMind 35 = .ok (.isub, 1) := dK_a_54.2.2.2.1
theorem dX10_statementsInMind_36 : decode cX10_statementsInMind 36 = .ok (.ireturn, 1) := dK_a_54.2.2.2.2.1
theorem dX10_statementsInMind_37 : decode cX10_statementsInMind 37 = .ok (.iinc 1 1, 3) := dK_a_54.2.2.2.2.2.1
theorem dX10_statementsInMind_40 : decode cX10_statementsInMind 40 = .ok (.iload_n 2, 1) := dK_a_54.2.2.2.2.2.2.1
theorem dX10_statementsInMind_41 : decode cX10_statementsInMind 41 = .ok (.aload_n 0, 1) := dK_a_54.2.2.2.2.2.2.2.1
theorem dK_a_55 : dk_P cX10_statementsInMind [(42, (.getfield 15, 3)), (45, (.iload_n 2, 1)), (46, (.iaload, 1)), (47, (.invokestatic 132, 3)), (50, (.iadd, 1)), (51, (.istore_n 2, 1)), (52, (.goto (-37), 3)), (55, (.iload_n 1, 1))] := dk_of 42 (by decide +kernel)
theorem dX10_statementsInMind_42 : decode cX10_statementsInMind 42 = .ok (.getfield 15, 3) := dK_a_55.1
theorem dX10_statementsInMind_45 : decode cX10_statementsInMind 45 = .ok (.iload_n 2, 1) := dK_a_55.2.1
theorem dX10_statementsInMind_46 : decode cX10_statementsInMind 46 = .ok (.iaload, 1) := dK_a_55.2.2.1
theorem dX10_statementsInMind_47 : decode cX10_statementsInMind 47 = .ok (.invokestatic 132, 3) := dK_a_55.2.2.2.1
theorem dX10_statementsInMind_50 : decode cX10_statementsInMind 50 = .ok (.iadd, 1) := dK_a_55.2.2.2.2.1
theorem dX10_statementsInMind_51 : decode cX10_statementsInMind 51 = .ok (.istore_n 2, 1) := dK_a_55.2.2.2.2.2.1
theorem dX10_statementsInMind_52 : decode cX10_statementsInMind 52 = .ok (.goto (-37), 3) := dK_a_55.2.2.2.2.2.2.1
theorem dX10_statementsInMind_55 : decode cX10_statementsInMind 55 = .ok (.iload_n 1, 1) := dK_a_55.2.2.2.2.2.2.2.1
theorem dK_a_56 : dk_P cX10_statementsInMind [(56, (.ireturn, 1))] := dk_of 56 (by decide +kernel)
theorem dX10_statementsInMind_56 : decode cX10_statementsInMind 56 = .ok (.ireturn, 1) := dK_a_56.1
theorem dK_a_57 : dk_P cX10_comes [(0, (.aload_n 0, 1)), (1, (.getfield 15, 3)), (4, (.iload_n 1, 1)), (5, (.iaload, 1)), (6, (.tableswitch 165 102 119 #[151, 119, 165, 165, 132, 165, 165, 165, 86, 165, 158, 165, 165, 165, 138, 165, 165, 99], 86)), (92, (.aload_n 0, 1)), (93, (.aload_n 0, 1)), (94, (.iload_n 1, 1))] := dk_of 0 (by decide +kernel)
theorem dX10_comes_0 : decode cX10_comes 0 = .ok (.aload_n 0, 1) := dK_a_57.1
theorem dX10_comes_1 : decode cX10_comes 1 = .ok (.getfield 15, 3) := dK_a_57.2.1
theorem dX10_comes_4 : decode cX10_comes 4 = .ok (.iload_n 1, 1) := dK_a_57.2.2.1
theorem dX10_comes_5 : decode cX10_comes 5 = .ok (.iaload, 1) := dK_a_57.2.2.2.1
theorem dX10_comes_6 : decode cX10_comes 6 = .ok (.tableswitch 165 102 119 #[151, 119, 165, 165, 132, 165, 165, 165, 86, 165, 158, 165, 165, 165, 138, 165, 165, 99], 86) := dK_a_57.2.2.2.2.1
theorem dX10_comes_92 : decode cX10_comes 92 = .ok (.aload_n 0, 1) := dK_a_57.2.2.2.2.2.1
theorem dX10_comes_93 : decode cX10_comes 93 = .ok (.aload_n 0, 1) := dK_a_57.2.2.2.2.2.2.1
theorem dX10_comes_94 : decode cX10_comes 94 = .ok (.iload_n 1, 1) := dK_a_57.2.2.2.2.2.2.2.1
theorem dK_a_58 : dk_P cX10_comes [(95, (.iconst 1, 1)), (96, (.iadd, 1)), (97, (.iconst 2, 1)), (98, (.invokevirtual 135, 3)), (101, (.invokevirtual 138, 3)), (104, (.ireturn, 1)), (105, (.aload_n 0, 1)), (106, (.aload_n 0, 1))] := dk_of 95 (by decide +kernel)
theorem dX10_comes_95 : decode cX10_comes 95 = .ok (.iconst 1, 1) := dK_a_58.1
theorem dX10_comes_96 : decode cX10_comes 96 = .ok (.iadd, 1) := dK_a_58.2.1
theorem dX10_comes_97 : decode cX10_comes 97 = .ok (.iconst 2, 1) := dK_a_58.2.2.1
theorem dX10_comes_98 : decode cX10_comes 98 = .ok (.invokevirtual 135, 3) := dK_a_58.2.2.2.1
theorem dX10_comes_101 : decode cX10_comes 101 = .ok (.invokevirtual 138, 3) := dK_a_58.2.2.2.2.1
theorem dX10_comes_104 : decode cX10_comes 104 = .ok (.ireturn, 1) := dK_a_58.2.2.2.2.2.1
theorem dX10_comes_105 : decode cX10_comes 105 = .ok (.aload_n 0, 1) := dK_a_58.2.2.2.2.2.2.1
theorem dX10_comes_106 : decode cX10_comes 106 = .ok (.aload_n 0, 1) := dK_a_58.2.2.2.2.2.2.2.1
theorem dK_a_59 : dk_P cX10_comes [(107, (.iload_n 1, 1)), (108, (.iconst 1, 1)), (109, (.iadd, 1)), (110, (.invokevirtual 141, 3)), (113, (.aload_n 0, 1)), (114, (.iload_n 1, 1)), (115, (.iconst 2, 1)), (116, (.iadd, 1))] := dk_of 107 (by decide +kernel)
theorem dX10_comes_107 : decode cX10_comes 107 = .ok (.iload_n 1, 1) := dK_a_59.1
theorem dX10_comes_108 : decode cX10_comes 108 = .ok (.iconst 1, 1) := dK_a_59.2.1
theorem dX10_comes_109 : decode cX10_comes 109 = .ok (.iadd, 1) := dK_a_59.2.2.1
theorem dX10_comes_110 : decode cX10_comes 110 = .ok (.invokevirtual 141, 3) := dK_a_59.2.2.2.1
theorem dX10_comes_113 : decode cX10_comes 113 = .ok (.aload_n 0, 1) := dK_a_59.2.2.2.2.1
theorem dX10_comes_114 : decode cX10_comes 114 = .ok (.iload_n 1, 1) := dK_a_59.2.2.2.2.2.1
theorem dX10_comes_115 : decode cX10_comes 115 = .ok (.iconst 2, 1) := dK_a_59.2.2.2.2.2.2.1
theorem dX10_comes_116 : decode cX10_comes 116 = .ok (.iadd, 1) := dK_a_59.2.2.2.2.2.2.2.1
theorem dK_a_60 : dk_P cX10_comes [(117, (.iconst 1, 1)), (118, (.invokevirtual 135, 3)), (121, (.invokevirtual 144, 3)), (124, (.ireturn, 1)), (125, (.aload_n 0, 1)), (126, (.aload_n 0, 1)), (127, (.iload_n 1, 1)), (128, (.iconst 1, 1))] := dk_of 117 (by decide +kernel)
theorem dX10_comes_117 : decode cX10_comes 117 = .ok (.iconst 1, 1) := dK_a_60.1
theorem dX10_comes_118 : decode cX10_comes 118 = .ok (.invokevirtual 135, 3) := dK_a_60.2.1
theorem dX10_comes_121 : decode cX10_comes 121 = .ok (.invokevirtual 144, 3) := dK_a_60.2.2.1
theorem dX10_comes_124 : decode cX10_comes 124 = .ok (.ireturn, 1) := dK_a_60.2.2.2.1
theorem dX10_comes_125 : decode cX10_comes 125 = .ok (.aload_n 0, 1) := dK_a_60.2.2.2.2.1
theorem dX10_comes_126 : decode cX10_comes 126 = .ok (.aload_n 0, 1) := dK_a_60.2.2.2.2.2.1
theorem dX10_comes_127 : decode cX10_comes 127 = .ok (.iload_n 1, 1) := dK_a_60.2.2.2.2.2.2.1
theorem dX10_comes_128 : decode cX10_comes 128 = .ok (.iconst 1, 1) := dK_a_60.2.2.2.2.2.2.2.1
theorem dK_a_61 : dk_P cX10_comes [(129, (.iadd, 1)), (130, (.iconst 1, 1)), (131, (.invokevirtual 135, 3)), (134, (.invokevirtual 148, 3)), (137, (.ireturn, 1)), (138, (.aload_n 0, 1)), (139, (.iload_n 1, 1)), (140, (.invokevirtual 151, 3))] := dk_of 129 (by decide +kernel)
theorem dX10_comes_129 : decode cX10_comes 129 = .ok (.iadd, 1) := dK_a_61.1
theorem dX10_comes_130 : decode cX10_comes 130 = .ok (.iconst 1, 1) := dK_a_61.2.1
theorem dX10_comes_131 : decode cX10_comes 131 = .ok (.invokevirtual 135, 3) := dK_a_61.2.2.1
theorem dX10_comes_134 : decode cX10_comes 134 = .ok (.invokevirtual 148, 3) := dK_a_61.2.2.2.1
theorem dX10_comes_137 : decode cX10_comes 137 = .ok (.ireturn, 1) := dK_a_61.2.2.2.2.1
theorem dX10_comes_138 : decode cX10_comes 138 = .ok (.aload_n 0, 1) := dK_a_61.2.2.2.2.2.1
theorem dX10_comes_139 : decode cX10_comes 139 = .ok (.iload_n 1, 1) := dK_a_61.2.2.2.2.2.2.1
theorem dX10_comes_140 : decode cX10_comes 140 = .ok (.invokevirtual 151, 3) := dK_a_61.2.2.2.2.2.2.2.1
theorem dK_a_62 : dk_P cX10_comes [(143, (.ireturn, 1)), (144, (.aload_n 0, 1)), (145, (.aload_n 0, 1)), (146, (.iload_n 1, 1)), (147, (.iconst 1, 1)), (148, (.iadd, 1)), (149, (.iconst 2, 1)), (150, (.invokevirtual 135, 3))] := dk_of 143 (by decide +kernel)
theorem dX10_comes_143 : decode cX10_comes 143 = .ok (.ireturn, 1) := dK_a_62.1
theorem dX10_comes_144 : decode cX10_comes 144 = .ok (.aload_n 0, 1) := dK_a_62.2.1
theorem dX10_comes_145 : decode cX10_comes 145 = .ok (.aload_n 0, 1) := dK_a_62.2.2.1
theorem dX10_comes_146 : decode cX10_comes 146 = .ok (.iload_n 1, 1) := dK_a_62.2.2.2.1
theorem dX10_comes_147 : decode cX10_comes 147 = .ok (.iconst 1, 1) := dK_a_62.2.2.2.2.1
theorem dX10_comes_148 : decode cX10_comes 148 = .ok (.iadd, 1) := dK_a_62.2.2.2.2.2.1
theorem dX10_comes_149 : decode cX10_comes 149 = .ok (.iconst 2, 1) := dK_a_62.2.2.2.2.2.2.1
theorem dX10_comes_150 : decode cX10_comes 150 = .ok (.invokevirtual 135, 3) := dK_a_62.2.2.2.2.2.2.2.1
theorem dK_a_63 : dk_P cX10_comes [(153, (.invokevirtual 154, 3)), (156, (.ireturn, 1)), (157, (.aload_n 0, 1)), (158, (.bipush (-9), 2)), (160, (.invokevirtual 154, 3)), (163, (.ireturn, 1)), (164, (.aload_n 0, 1)), (165, (.bipush (-8), 2))] := dk_of 153 (by decide +kernel)
theorem dX10_comes_153 : decode cX10_comes 153 = .ok (.invokevirtual 154, 3) := dK_a_63.1
theorem dX10_comes_156 : decode cX10_comes 156 = .ok (.ireturn, 1) := dK_a_63.2.1
theorem dX10_comes_157 : decode cX10_comes 157 = .ok (.aload_n 0, 1) := dK_a_63.2.2.1
theorem dX10_comes_158 : decode cX10_comes 158 = .ok (.bipush (-9), 2) := dK_a_63.2.2.2.1
theorem dX10_comes_160 : decode cX10_comes 160 = .ok (.invokevirtual 154, 3) := dK_a_63.2.2.2.2.1
theorem dX10_comes_163 : decode cX10_comes 163 = .ok (.ireturn, 1) := dK_a_63.2.2.2.2.2.1
theorem dX10_comes_164 : decode cX10_comes 164 = .ok (.aload_n 0, 1) := dK_a_63.2.2.2.2.2.2.1
theorem dX10_comes_165 : decode cX10_comes 165 = .ok (.bipush (-8), 2) := dK_a_63.2.2.2.2.2.2.2.1
theorem dK_a_64 : dk_P cX10_comes [(167, (.invokevirtual 154, 3)), (170, (.ireturn, 1)), (171, (.iconst 0, 1)), (172, (.ireturn, 1))] := dk_of 167 (by decide +kernel)
theorem dX10_comes_167 : decode cX10_comes 167 = .ok (.invokevirtual 154, 3) := dK_a_64.1
theorem dX10_comes_170 : decode cX10_comes 170 = .ok (.ireturn, 1) := dK_a_64.2.1
theorem dX10_comes_171 : decode cX10_comes 171 = .ok (.iconst 0, 1) := dK_a_64.2.2.1
theorem dX10_comes_172 : decode cX10_comes 172 = .ok (.ireturn, 1) := dK_a_64.2.2.2.1
theorem dK_a_65 : dk_P cX10_isMinus [(0, (.iload_n 1, 1)), (1, (.aload_n 0, 1)), (2, (.getfield 108, 3)), (5, (.if_icmp .ge 18, 3)), (8, (.aload_n 0, 1)), (9, (.getfield 15, 3)), (12, (.iload_n 1, 1)), (13, (.iaload, 1))] := dk_of 0 (by decide +kernel)
theorem dX10_isMinus_0 : decode cX10_isMinus 0 = .ok (.iload_n 1, 1) := dK_a_65.1
theorem dX10_isMinus_1 : decode cX10_isMinus 1 = .ok (.aload_n 0, 1) := dK_a_65.2.1
theorem dX10_isMinus_2 : decode cX10_isMinus 2 = .ok (.getfield 108, 3) := dK_a_65.2.2.1
theorem dX10_isMinus_5 : decode cX10_isMinus 5 = .ok (.if_icmp .ge 18, 3) := dK_a_65.2.2.2.1
theorem dX10_isMinus_8 : decode cX10_isMinus 8 = .ok (.aload_n 0, 1) := dK_a_65.2.2.2.2.1
theorem dX10_isMinus_9 : decode cX10_isMinus 9 = .ok (.getfield 15, 3) := dK_a_65.2.2.2.2.2.1
theorem dX10_isMinus_12 : decode cX10_isMinus 12 = .ok (.iload_n 1, 1) := dK_a_65.2.2.2.2.2.2.1
theorem dX10_isMinus_13 : decode cX10_isMinus 13 = .ok (.iaload, 1) := dK_a_65.2.2.2.2.2.2.2.1
theorem dK_a_66 : dk_P cX10_isMinus [(14, (.bipush 45, 2)), (16, (.if_icmp .ne 7, 3)), (19, (.iconst 1, 1)), (20, (.goto 4, 3)), (23, (.iconst 0, 1)), (24, (.ireturn, 1))] := dk_of 14 (by decide +kernel)
theorem dX10_isMinus_14 : decode cX10_isMinus 14 = .ok (.bipush 45, 2) := dK_a_66.1
theorem dX10_isMinus_16 : decode cX10_isMinus 16 = .ok (.if_icmp .ne 7, 3) := dK_a_66.2.1
theorem dX10_isMinus_19 : decode cX10_isMinus 19 = .ok (.iconst 1, 1) := dK_a_66.2.2.1
theorem dX10_isMinus_20 : decode cX10_isMinus 20 = .ok (.goto 4, 3) := dK_a_66.2.2.2.1
theorem dX10_isMinus_23 : decode cX10_isMinus 23 = .ok (.iconst 0, 1) := dK_a_66.2.2.2.2.1
theorem dX10_isMinus_24 : decode cX10_isMinus 24 = .ok (.ireturn, 1) := dK_a_66.2.2.2.2.2.1
theorem dK_a_67 : dk_P cX10_number [(0, (.iconst 0, 1)), (1, (.istore_n 3, 1)), (2, (.iload_n 1, 1)), (3, (.istore 4, 2)), (5, (.iload 4, 2)), (7, (.iload_n 1, 1)), (8, (.iload_n 2, 1)), (9, (.iadd, 1))] := dk_of 0 (by decide +kernel)
theorem dX10_number_0 : decode cX10_number 0 = .ok (.iconst 0, 1) := dK_a_67.1
theorem dX10_number_1 : decode cX10_number 1 = .ok (.istore_n 3, 1) := dK_a_67.2.1
theorem dX10_number_2 : decode cX10_number 2 = .ok (.iload_n 1, 1) := dK_a_67.2.2.1
theorem dX10_number_3 : decode cX10_number 3 = .ok (.istore 4, 2) := dK_a_67.2.2.2.1
theorem dX10_number_5 : decode cX10_number 5 = .ok (.iload 4, 2) := dK_a_67.2.2.2.2.1
theorem dX10_number_7 : decode cX10_number 7 = .ok (.iload_n 1, 1) := dK_a_67.2.2.2.2.2.1
theorem dX10_number_8 : decode cX10_number 8 = .ok (.iload_n 2, 1) := dK_a_67.2.2.2.2.2.2.1
theorem dX10_number_9 : decode cX10_number 9 = .ok (.iadd, 1) := dK_a_67.2.2.2.2.2.2.2.1
theorem dK_a_68 : dk_P cX10_number [(10, (.if_icmp .ge 34, 3)), (13, (.iload 4, 2)), (15, (.aload_n 0, 1)), (16, (.getfield 108, 3)), (19, (.if_icmp .ge 25, 3)), (22, (.bipush 10, 2)), (24, (.iload_n 3, 1)), (25, (.imul, 1))] := dk_of 10 (by decide +kernel)
theorem dX10_number_10 : decode cX10_number 10 = .ok (.if_icmp .ge 34, 3) := dK_a_68.1
theorem dX10_number_13 : decode cX10_number 13 = .ok (.iload 4, 2) := dK_a_68.2.1
theorem dX10_number_15 : decode cX10_number 15 = .ok (.aload_n 0, 1) := dK_a_68.2.2.1
theorem dX10_number_16 : decode cX10_number 16 = .ok (.getfield 108, 3) := dK_a_68.2.2.2.1
theorem dX10_number_19 : decode cX10_number 19 = .ok (.if_icmp .ge 25, 3) := dK_a_68.2.2.2.2.1
theorem dX10_number_22 : decode cX10_number 22 = .ok (.bipush 10, 2) := dK_a_68.2.2.2.2.2.1
theorem dX10_number_24 : decode cX10_number 24 = .ok (.iload_n 3, 1) := dK_a_68.2.2.2.2.2.2.1
theorem dX10_number_25 : decode cX10_number 25 = .ok (.imul, 1) := dK_a_68.2.2.2.2.2.2.2.1
theorem dK_a_69 : dk_P cX10_number [(26, (.aload_n 0, 1)), (27, (.getfield 15, 3)), (30, (.iload 4, 2)), (32, (.iaload, 1)), (33, (.iadd, 1)), (34, (.bipush 48, 2)), (36, (.isub, 1)), (37, (.istore_n 3, 1))] := dk_of 26 (by decide +kernel)
theorem dX10_number_26 : decode cX10_number 26 = .ok (.aload_n 0, 1) := dK_a_69.1
theorem dX10_number_27 : decode cX10_number 27 = .ok (.getfield 15, 3) := dK_a_69.2.1
theorem dX10_number_30 : decode cX10_number 30 = .ok (.iload 4, 2) := dK_a_69.2.2.1
theorem dX10_number_32 : decode cX10_number 32 = .ok (.iaload, 1) := dK_a_69.2.2.2.1
theorem dX10_number_33 : decode cX10_number 33 = .ok (.iadd, 1) := dK_a_69.2.2.2.2.1
theorem dX10_number_34 : decode cX10_number 34 = .ok (.bipush 48, 2) := dK_a_69.2.2.2.2.2.1
theorem dX10_number_36 : decode cX10_number 36 = .ok (.isub, 1) := dK_a_69.2.2.2.2.2.2.1
theorem dX10_number_37 : decode cX10_number 37 = .ok (.istore_n 3, 1) := dK_a_69.2.2.2.2.2.2.2.1
theorem dK_a_70 : dk_P cX10_number [(38, (.iinc 4 1, 3)), (41, (.goto (-36), 3)), (44, (.iload_n 3, 1)), (45, (.ireturn, 1))] := dk_of 38 (by decide +kernel)
theorem dX10_number_38 : decode cX10_number 38 = .ok (.iinc 4 1, 3) := dK_a_70.1
theorem dX10_number_41 : decode cX10_number 41 = .ok (.goto (-36), 3) := dK_a_70.2.1
theorem dX10_number_44 : decode cX10_number 44 = .ok (.iload_n 3, 1) := dK_a_70.2.2.1
theorem dX10_number_45 : decode cX10_number 45 = .ok (.ireturn, 1) := dK_a_70.2.2.2.1
theorem dK_a_71 : dk_P cX10_windComes [(0, (.aload_n 0, 1)), (1, (.getfield 76, 3)), (4, (.iload_n 1, 1)), (5, (.ifCond .eq 8, 3)), (8, (.iload_n 2, 1)), (9, (.ineg, 1)), (10, (.goto 4, 3)), (13, (.iload_n 2, 1))] := dk_of 0 (by decide +kernel)
theorem dX10_windComes_0 : decode cX10_windComes 0 = .ok (.aload_n 0, 1) := dK_a_71.1
theorem dX10_windComes_1 : decode cX10_windComes 1 = .ok (.getfield 76, 3) := dK_a_71.2.1
theorem dX10_windComes_4 : decode cX10_windComes 4 = .ok (.iload_n 1, 1) := dK_a_71.2.2.1
theorem dX10_windComes_5 : decode cX10_windComes 5 = .ok (.ifCond .eq 8, 3) := dK_a_71.2.2.2.1
theorem dX10_windComes_8 : decode cX10_windComes 8 = .ok (.iload_n 2, 1) := dK_a_71.2.2.2.2.1
theorem dX10_windComes_9 : decode cX10_windComes 9 = .ok (.ineg, 1) := dK_a_71.2.2.2.2.2.1
theorem dX10_windComes_10 : decode cX10_windComes 10 = .ok (.goto 4, 3) := dK_a_71.2.2.2.2.2.2.1
theorem dX10_windComes_13 : decode cX10_windComes 13 = .ok (.iload_n 2, 1) := dK_a_71.2.2.2.2.2.2.2.1
theorem dK_a_72 : dk_P cX10_windComes [(14, (.putfield 157, 3)), (17, (.iconst 1, 1)), (18, (.ireturn, 1))] := dk_of 14 (by decide +kernel)
theorem dX10_windComes_14 : decode cX10_windComes 14 = .ok (.putfield 157, 3) := dK_a_72.1
theorem dX10_windComes_17 : decode cX10_windComes 17 = .ok (.iconst 1, 1) := dK_a_72.2.1
theorem dX10_windComes_18 : decode cX10_windComes 18 = .ok (.ireturn, 1) := dK_a_72.2.2.1
theorem dK_a_73 : dk_P cX10_stridesCome [(0, (.aload_n 0, 1)), (1, (.getfield 76, 3)), (4, (.getfield 160, 3)), (7, (.ifCond .ne 17, 3)), (10, (.iload_n 1, 1)), (11, (.iconst 4, 1)), (12, (.bipush 20, 2)), (14, (.invokestatic 104, 3))] := dk_of 0 (by decide +kernel)
theorem dX10_stridesCome_0 : decode cX10_stridesCome 0 = .ok (.aload_n 0, 1) := dK_a_73.1
theorem dX10_stridesCome_1 : decode cX10_stridesCome 1 = .ok (.getfield 76, 3) := dK_a_73.2.1
theorem dX10_stridesCome_4 : decode cX10_stridesCome 4 = .ok (.getfield 160, 3) := dK_a_73.2.2.1
theorem dX10_stridesCome_7 : decode cX10_stridesCome 7 = .ok (.ifCond .ne 17, 3) := dK_a_73.2.2.2.1
theorem dX10_stridesCome_10 : decode cX10_stridesCome 10 = .ok (.iload_n 1, 1) := dK_a_73.2.2.2.2.1
theorem dX10_stridesCome_11 : decode cX10_stridesCome 11 = .ok (.iconst 4, 1) := dK_a_73.2.2.2.2.2.1
theorem dX10_stridesCome_12 : decode cX10_stridesCome 12 = .ok (.bipush 20, 2) := dK_a_73.2.2.2.2.2.2.1
theorem dX10_stridesCome_14 : decode cX10_stridesCome 14 = .ok (.invokestatic 104, 3) := dK_a_73.2.2.2.2.2.2.2.1
theorem dK_a_74 : dk_P cX10_stridesCome [(17, (.ifCond .ne 7, 3)), (20, (.iconst 1, 1)), (21, (.goto 4, 3)), (24, (.iconst 0, 1)), (25, (.istore_n 2, 1)), (26, (.iload_n 2, 1)), (27, (.ifCond .eq 11, 3)), (30, (.aload_n 0, 1))] := dk_of 17 (by decide +kernel)
theorem dX10_stridesCome_17 : decode cX10_stridesCome 17 = .ok (.ifCond .ne 7, 3) := dK_a_74.1
theorem dX10_stridesCome_20 : decode cX10_stridesCome 20 = .ok (.iconst 1, 1) := dK_a_74.2.1
theorem dX10_stridesCome_21 : decode cX10_stridesCome 21 = .ok (.goto 4, 3) := dK_a_74.2.2.1
theorem dX10_stridesCome_24 : decode cX10_stridesCome 24 = .ok (.iconst 0, 1) := dK_a_74.2.2.2.1
theorem dX10_stridesCome_25 : decode cX10_stridesCome 25 = .ok (.istore_n 2, 1) := dK_a_74.2.2.2.2.1
theorem dX10_stridesCome_26 : decode cX10_stridesCome 26 = .ok (.iload_n 2, 1) := dK_a_74.2.2.2.2.2.1
theorem dX10_stridesCome_27 : decode cX10_stridesCome 27 = .ok (.ifCond .eq 11, 3) := dK_a_74.2.2.2.2.2.2.1
theorem dX10_stridesCome_30 : decode cX10_stridesCome 30 = .ok (.aload_n 0, 1) := dK_a_74.2.2.2.2.2.2.2.1
theorem dK_a_75 : dk_P cX10_stridesCome [(31, (.getfield 76, 3)), (34, (.iload_n 1, 1)), (35, (.putfield 163, 3)), (38, (.iload_n 2, 1)), (39, (.ireturn, 1))] := dk_of 31 (by decide +kernel)
theorem dX10_stridesCome_31 : decode cX10_stridesCome 31 = .ok (.getfield 76, 3) := dK_a_75.1
theorem dX10_stridesCome_34 : decode cX10_stridesCome 34 = .ok (.iload_n 1, 1) := dK_a_75.2.1
theorem dX10_stridesCome_35 : decode cX10_stridesCome 35 = .ok (.putfield 163, 3) := dK_a_75.2.2.1
theorem dX10_stridesCome_38 : decode cX10_stridesCome 38 = .ok (.iload_n 2, 1) := dK_a_75.2.2.2.1
theorem dX10_stridesCome_39 : decode cX10_stridesCome 39 = .ok (.ireturn, 1) := dK_a_75.2.2.2.2.1
theorem dK_a_76 : dk_P cX10_goOnComes [(0, (.aload_n 0, 1)), (1, (.getfield 76, 3)), (4, (.getfield 160, 3)), (7, (.ifCond .ne 16, 3)), (10, (.iload_n 1, 1)), (11, (.iconst 1, 1)), (12, (.iconst 4, 1)), (13, (.invokestatic 104, 3))] := dk_of 0 (by decide +kernel)
theorem dX10_goOnComes_0 : decode cX10_goOnComes 0 = .ok (.aload_n 0, 1) := dK_a_76.1
theorem dX10_goOnComes_1 : decode cX10_goOnComes 1 = .ok (.getfield 76, 3) := dK_a_76.2.1
theorem dX10_goOnComes_4 : decode cX10_goOnComes 4 = .ok (.getfield 160, 3) := dK_a_76.2.2.1
theorem dX10_goOnComes_7 : decode cX10_goOnComes 7 = .ok (.ifCond .ne 16, 3) := dK_a_76.2.2.2.1
theorem dX10_goOnComes_10 : decode cX10_goOnComes 10 = .ok (.iload_n 1, 1) := dK_a_76.2.2.2.2.1
theorem dX10_goOnComes_11 : decode cX10_goOnComes 11 = .ok (.iconst 1, 1) := dK_a_76.2.2.2.2.2.1
theorem dX10_goOnComes_12 : decode cX10_goOnComes 12 = .ok (.iconst 4, 1) := dK_a_76.2.2.2.2.2.2.1
theorem dX10_goOnComes_13 : decode cX10_goOnComes 13 = .ok (.invokestatic 104, 3) := dK_a_76.2.2.2.2.2.2.2.1
theorem dK_a_77 : dk_P cX10_goOnComes [(16, (.ifCond .ne 7, 3)), (19, (.iconst 1, 1)), (20, (.goto 4, 3)), (23, (.iconst 0, 1)), (24, (.istore_n 2, 1)), (25, (.iload_n 2, 1)), (26, (.ifCond .eq 11, 3)), (29, (.aload_n 0, 1))] := dk_of 16 (by decide +kernel)
theorem dX10_goOnComes_16 : decode cX10_goOnComes 16 = .ok (.ifCond .ne 7, 3) := dK_a_77.1
theorem dX10_goOnComes_19 : decode cX10_goOnComes 19 = .ok (.iconst 1, 1) := dK_a_77.2.1
theorem dX10_goOnComes_20 : decode cX10_goOnComes 20 = .ok (.goto 4, 3) := dK_a_77.2.2.1
theorem dX10_goOnComes_23 : decode cX10_goOnComes 23 = .ok (.iconst 0, 1) := dK_a_77.2.2.2.1
theorem dX10_goOnComes_24 : decode cX10_goOnComes 24 = .ok (.istore_n 2, 1) := dK_a_77.2.2.2.2.1
theorem dX10_goOnComes_25 : decode cX10_goOnComes 25 = .ok (.iload_n 2, 1) := dK_a_77.2.2.2.2.2.1
theorem dX10_goOnComes_26 : decode cX10_goOnComes 26 = .ok (.ifCond .eq 11, 3) := dK_a_77.2.2.2.2.2.2.1
theorem dX10_goOnComes_29 : decode cX10_goOnComes 29 = .ok (.aload_n 0, 1) := dK_a_77.2.2.2.2.2.2.2.1
theorem dK_a_78 : dk_P cX10_goOnComes [(30, (.getfield 76, 3)), (33, (.iload_n 1, 1)), (34, (.putfield 166, 3)), (37, (.iload_n 2, 1)), (38, (.ireturn, 1))] := dk_of 30 (by decide +kernel)
theorem dX10_goOnComes_30 : decode cX10_goOnComes 30 = .ok (.getfield 76, 3) := dK_a_78.1
theorem dX10_goOnComes_33 : decode cX10_goOnComes 33 = .ok (.iload_n 1, 1) := dK_a_78.2.1
theorem dX10_goOnComes_34 : decode cX10_goOnComes 34 = .ok (.putfield 166, 3) := dK_a_78.2.2.1
theorem dX10_goOnComes_37 : decode cX10_goOnComes 37 = .ok (.iload_n 2, 1) := dK_a_78.2.2.2.1
theorem dX10_goOnComes_38 : decode cX10_goOnComes 38 = .ok (.ireturn, 1) := dK_a_78.2.2.2.2.1
theorem dK_a_79 : dk_P cX10_jumperComes [(0, (.aload_n 0, 1)), (1, (.iload_n 1, 1)), (2, (.iconst 1, 1)), (3, (.iadd, 1)), (4, (.iconst 1, 1)), (5, (.invokevirtual 135, 3)), (8, (.istore_n 2, 1)), (9, (.aload_n 0, 1))] := dk_of 0 (by decide +kernel)
theorem dX10_jumperComes_0 : decode cX10_jumperComes 0 = .ok (.aload_n 0, 1) := dK_a_79.1
theorem dX10_jumperComes_1 : decode cX10_jumperComes 1 = .ok (.iload_n 1, 1) := dK_a_79.2.1
theorem dX10_jumperComes_2 : decode cX10_jumperComes 2 = .ok (.iconst 1, 1) := dK_a_79.2.2.1
theorem dX10_jumperComes_3 : decode cX10_jumperComes 3 = .ok (.iadd, 1) := dK_a_79.2.2.2.1
theorem dX10_jumperComes_4 : decode cX10_jumperComes 4 = .ok (.iconst 1, 1) := dK_a_79.2.2.2.2.1
theorem dX10_jumperComes_5 : decode cX10_jumperComes 5 = .ok (.invokevirtual 135, 3) := dK_a_79.2.2.2.2.2.1
theorem dX10_jumperComes_8 : decode cX10_jumperComes 8 = .ok (.istore_n 2, 1) := dK_a_79.2.2.2.2.2.2.1
theorem dX10_jumperComes_9 : decode cX10_jumperComes 9 = .ok (.aload_n 0, 1) := dK_a_79.2.2.2.2.2.2.2.1
theorem dK_a_80 : dk_P cX10_jumperComes [(10, (.getfield 76, 3)), (13, (.getfield 160, 3)), (16, (.ifCond .gt 23, 3)), (19, (.aload_n 0, 1)), (20, (.getfield 76, 3)), (23, (.getfield 89, 3)), (26, (.iconst 4, 1)), (27, (.if_icmp .ge 12, 3))] := dk_of 10 (by decide +kernel)
theorem dX10_jumperComes_10 : decode cX10_jumperComes 10 = .ok (.getfield 76, 3) := dK_a_80.1
theorem dX10_jumperComes_13 : decode cX10_jumperComes 13 = .ok (.getfield 160, 3) := dK_a_80.2.1
theorem dX10_jumperComes_16 : decode cX10_jumperComes 16 = .ok (.ifCond .gt 23, 3) := dK_a_80.2.2.1
theorem dX10_jumperComes_19 : decode cX10_jumperComes 19 = .ok (.aload_n 0, 1) := dK_a_80.2.2.2.1
theorem dX10_jumperComes_20 : decode cX10_jumperComes 20 = .ok (.getfield 76, 3) := dK_a_80.2.2.2.2.1
theorem dX10_jumperComes_23 : decode cX10_jumperComes 23 = .ok (.getfield 89, 3) := dK_a_80.2.2.2.2.2.1
theorem dX10_jumperComes_26 : decode cX10_jumperComes 26 = .ok (.iconst 4, 1) := dK_a_80.2.2.2.2.2.2.1
theorem dX10_jumperComes_27 : decode cX10_jumperComes 27 = .ok (.if_icmp .ge 12, 3) := dK_a_80.2.2.2.2.2.2.2.1
theorem dK_a_81 : dk_P cX10_jumperComes [(30, (.iload_n 2, 1)), (31, (.iconst 0, 1)), (32, (.iconst 5, 1)), (33, (.invokestatic 104, 3)), (36, (.ifCond .eq 5, 3)), (39, (.iconst 0, 1)), (40, (.ireturn, 1)), (41, (.aload_n 0, 1))] := dk_of 30 (by decide +kernel)
theorem dX10_jumperComes_30 : decode cX10_jumperComes 30 = .ok (.iload_n 2, 1) := dK_a_81.1
theorem dX10_jumperComes_31 : decode cX10_jumperComes 31 = .ok (.iconst 0, 1) := dK_a_81.2.1
theorem dX10_jumperComes_32 : decode cX10_jumperComes 32 = .ok (.iconst 5, 1) := dK_a_81.2.2.1
theorem dX10_jumperComes_33 : decode cX10_jumperComes 33 = .ok (.invokestatic 104, 3) := dK_a_81.2.2.2.1
theorem dX10_jumperComes_36 : decode cX10_jumperComes 36 = .ok (.ifCond .eq 5, 3) := dK_a_81.2.2.2.2.1
theorem dX10_jumperComes_39 : decode cX10_jumperComes 39 = .ok (.iconst 0, 1) := dK_a_81.2.2.2.2.2.1
theorem dX10_jumperComes_40 : decode cX10_jumperComes 40 = .ok (.ireturn, 1) := dK_a_81.2.2.2.2.2.2.1
theorem dX10_jumperComes_41 : decode cX10_jumperComes 41 = .ok (.aload_n 0, 1) := dK_a_81.2.2.2.2.2.2.2.1
theorem dK_a_82 : dk_P cX10_jumperComes [(42, (.getfield 76, 3)), (45, (.aload_n 0, 1)), (46, (.getfield 76, 3)), (49, (.getfield 89, 3)), (52, (.invokevirtual 169, 3)), (55, (.astore_n 3, 1)), (56, (.aload_n 3, 1)), (57, (.aload_n 0, 1))] := dk_of 42 (by decide +kernel)
theorem dX10_jumperComes_42 : decode cX10_jumperComes 42 = .ok (.getfield 76, 3) := dK_a_82.1
theorem dX10_jumperComes_45 : decode cX10_jumperComes 45 = .ok (.aload_n 0, 1) := dK_a_82.2.1
theorem dX10_jumperComes_46 : decode cX10_jumperComes 46 = .ok (.getfield 76, 3) := dK_a_82.2.2.1
theorem dX10_jumperComes_49 : decode cX10_jumperComes 49 = .ok (.getfield 89, 3) := dK_a_82.2.2.2.1
theorem dX10_jumperComes_52 : decode cX10_jumperComes 52 = .ok (.invokevirtual 169, 3) := dK_a_82.2.2.2.2.1
theorem dX10_jumperComes_55 : decode cX10_jumperComes 55 = .ok (.astore_n 3, 1) := dK_a_82.2.2.2.2.2.1
theorem dX10_jumperComes_56 : decode cX10_jumperComes 56 = .ok (.aload_n 3, 1) := dK_a_82.2.2.2.2.2.2.1
theorem dX10_jumperComes_57 : decode cX10_jumperComes 57 = .ok (.aload_n 0, 1) := dK_a_82.2.2.2.2.2.2.2.1
theorem dK_a_83 : dk_P cX10_jumperComes [(58, (.getfield 11, 3)), (61, (.iload_n 2, 1)), (62, (.aaload, 1)), (63, (.putfield 173, 3)), (66, (.aload_n 3, 1)), (67, (.iload_n 2, 1)), (68, (.putfield 177, 3)), (71, (.aload_n 3, 1))] := dk_of 58 (by decide +kernel)
theorem dX10_jumperComes_58 : decode cX10_jumperComes 58 = .ok (.getfield 11, 3) := dK_a_83.1
theorem dX10_jumperComes_61 : decode cX10_jumperComes 61 = .ok (.iload_n 2, 1) := dK_a_83.2.1
theorem dX10_jumperComes_62 : decode cX10_jumperComes 62 = .ok (.aaload, 1) := dK_a_83.2.2.1
theorem dX10_jumperComes_63 : decode cX10_jumperComes 63 = .ok (.putfield 173, 3) := dK_a_83.2.2.2.1
theorem dX10_jumperComes_66 : decode cX10_jumperComes 66 = .ok (.aload_n 3, 1) := dK_a_83.2.2.2.2.1
theorem dX10_jumperComes_67 : decode cX10_jumperComes 67 = .ok (.iload_n 2, 1) := dK_a_83.2.2.2.2.2.1
theorem dX10_jumperComes_68 : decode cX10_jumperComes 68 = .ok (.putfield 177, 3) := dK_a_83.2.2.2.2.2.2.1
theorem dX10_jumperComes_71 : decode cX10_jumperComes 71 = .ok (.aload_n 3, 1) := dK_a_83.2.2.2.2.2.2.2.1
theorem dK_a_84 : dk_P cX10_jumperComes [(72, (.aload_n 0, 1)), (73, (.iload_n 1, 1)), (74, (.iconst 2, 1)), (75, (.iadd, 1)), (76, (.iconst 1, 1)), (77, (.invokevirtual 135, 3)), (80, (.putfield 180, 3)), (83, (.aload_n 3, 1))] := dk_of 72 (by decide +kernel)
theorem dX10_jumperComes_72 : decode cX10_jumperComes 72 = .ok (.aload_n 0, 1) := dK_a_84.1
theorem dX10_jumperComes_73 : decode cX10_jumperComes 73 = .ok (.iload_n 1, 1) := dK_a_84.2.1
theorem dX10_jumperComes_74 : decode cX10_jumperComes 74 = .ok (.iconst 2, 1) := dK_a_84.2.2.1
theorem dX10_jumperComes_75 : decode cX10_jumperComes 75 = .ok (.iadd, 1) := dK_a_84.2.2.2.1
theorem dX10_jumperComes_76 : decode cX10_jumperComes 76 = .ok (.iconst 1, 1) := dK_a_84.2.2.2.2.1
theorem dX10_jumperComes_77 : decode cX10_jumperComes 77 = .ok (.invokevirtual 135, 3) := dK_a_84.2.2.2.2.2.1
theorem dX10_jumperComes_80 : decode cX10_jumperComes 80 = .ok (.putfield 180, 3) := dK_a_84.2.2.2.2.2.2.1
theorem dX10_jumperComes_83 : decode cX10_jumperComes 83 = .ok (.aload_n 3, 1) := dK_a_84.2.2.2.2.2.2.2.1
theorem dK_a_85 : dk_P cX10_jumperComes [(84, (.aload_n 0, 1)), (85, (.iload_n 1, 1)), (86, (.iconst 3, 1)), (87, (.iadd, 1)), (88, (.iconst 2, 1)), (89, (.invokevirtual 135, 3)), (92, (.putfield 183, 3)), (95, (.aload_n 3, 1))] := dk_of 84 (by decide +kernel)
theorem dX10_jumperComes_84 : decode cX10_jumperComes 84 = .ok (.aload_n 0, 1) := dK_a_85.1
theorem dX10_jumperComes_85 : decode cX10_jumperComes 85 = .ok (.iload_n 1, 1) := dK_a_85.2.1
theorem dX10_jumperComes_86 : decode cX10_jumperComes 86 = .ok (.iconst 3, 1) := dK_a_85.2.2.1
theorem dX10_jumperComes_87 : decode cX10_jumperComes 87 = .ok (.iadd, 1) := dK_a_85.2.2.2.1
theorem dX10_jumperComes_88 : decode cX10_jumperComes 88 = .ok (.iconst 2, 1) := dK_a_85.2.2.2.2.1
theorem dX10_jumperComes_89 : decode cX10_jumperComes 89 = .ok (.invokevirtual 135, 3) := dK_a_85.2.2.2.2.2.1
theorem dX10_jumperComes_92 : decode cX10_jumperComes 92 = .ok (.putfield 183, 3) := dK_a_85.2.2.2.2.2.2.1
theorem dX10_jumperComes_95 : decode cX10_jumperComes 95 = .ok (.aload_n 3, 1) := dK_a_85.2.2.2.2.2.2.2.1
theorem dK_a_86 : dk_P cX10_jumperComes [(96, (.aload_n 0, 1)), (97, (.iload_n 1, 1)), (98, (.iconst 5, 1)), (99, (.iadd, 1)), (100, (.iconst 1, 1)), (101, (.invokevirtual 135, 3)), (104, (.putfield 186, 3)), (107, (.aload_n 3, 1))] := dk_of 96 (by decide +kernel)
theorem dX10_jumperComes_96 : decode cX10_jumperComes 96 = .ok (.aload_n 0, 1) := dK_a_86.1
theorem dX10_jumperComes_97 : decode cX10_jumperComes 97 = .ok (.iload_n 1, 1) := dK_a_86.2.1
theorem dX10_jumperComes_98 : decode cX10_jumperComes 98 = .ok (.iconst 5, 1) := dK_a_86.2.2.1
theorem dX10_jumperComes_99 : decode cX10_jumperComes 99 = .ok (.iadd, 1) := dK_a_86.2.2.2.1
theorem dX10_jumperComes_100 : decode cX10_jumperComes 100 = .ok (.iconst 1, 1) := dK_a_86.2.2.2.2.1
theorem dX10_jumperComes_101 : decode cX10_jumperComes 101 = .ok (.invokevirtual 135, 3) := dK_a_86.2.2.2.2.2.1
theorem dX10_jumperComes_104 : decode cX10_jumperComes 104 = .ok (.putfield 186, 3) := dK_a_86.2.2.2.2.2.2.1
theorem dX10_jumperComes_107 : decode cX10_jumperComes 107 = .ok (.aload_n 3, 1) := dK_a_86.2.2.2.2.2.2.2.1
theorem dK_a_87 : dk_P cX10_jumperComes [(108, (.aload_n 0, 1)), (109, (.iload_n 1, 1)), (110, (.bipush 6, 2)), (112, (.iadd, 1)), (113, (.iconst 1, 1)), (114, (.invokevirtual 135, 3)), (117, (.putfield 189, 3)), (120, (.aload_n 3, 1))] := dk_of 108 (by decide +kernel)
theorem dX10_jumperComes_108 : decode cX10_jumperComes 108 = .ok (.aload_n 0, 1) := dK_a_87.1
theorem dX10_jumperComes_109 : decode cX10_jumperComes 109 = .ok (.iload_n 1, 1) := dK_a_87.2.1
theorem dX10_jumperComes_110 : decode cX10_jumperComes 110 = .ok (.bipush 6, 2) := dK_a_87.2.2.1
theorem dX10_jumperComes_112 : decode cX10_jumperComes 112 = .ok (.iadd, 1) := dK_a_87.2.2.2.1
theorem dX10_jumperComes_113 : decode cX10_jumperComes 113 = .ok (.iconst 1, 1) := dK_a_87.2.2.2.2.1
theorem dX10_jumperComes_114 : decode cX10_jumperComes 114 = .ok (.invokevirtual 135, 3) := dK_a_87.2.2.2.2.2.1
theorem dX10_jumperComes_117 : decode cX10_jumperComes 117 = .ok (.putfield 189, 3) := dK_a_87.2.2.2.2.2.2.1
theorem dX10_jumperComes_120 : decode cX10_jumperComes 120 = .ok (.aload_n 3, 1) := dK_a_87.2.2.2.2.2.2.2.1
theorem dK_a_88 : dk_P cX10_jumperComes [(121, (.aload_n 0, 1)), (122, (.iload_n 1, 1)), (123, (.bipush 7, 2)), (125, (.iadd, 1)), (126, (.iconst 2, 1)), (127, (.invokevirtual 135, 3)), (130, (.putfield 192, 3)), (133, (.aload_n 3, 1))] := dk_of 121 (by decide +kernel)
theorem dX10_jumperComes_121 : decode cX10_jumperComes 121 = .ok (.aload_n 0, 1) := dK_a_88.1
theorem dX10_jumperComes_122 : decode cX10_jumperComes 122 = .ok (.iload_n 1, 1) := dK_a_88.2.1
theorem dX10_jumperComes_123 : decode cX10_jumperComes 123 = .ok (.bipush 7, 2) := dK_a_88.2.2.1
theorem dX10_jumperComes_125 : decode cX10_jumperComes 125 = .ok (.iadd, 1) := dK_a_88.2.2.2.1
theorem dX10_jumperComes_126 : decode cX10_jumperComes 126 = .ok (.iconst 2, 1) := dK_a_88.2.2.2.2.1
theorem dX10_jumperComes_127 : decode cX10_jumperComes 127 = .ok (.invokevirtual 135, 3) := dK_a_88.2.2.2.2.2.1
theorem dX10_jumperComes_130 : decode cX10_jumperComes 130 = .ok (.putfield 192, 3) := dK_a_88.2.2.2.2.2.2.1
theorem dX10_jumperComes_133 : decode cX10_jumperComes 133 = .ok (.aload_n 3, 1) := dK_a_88.2.2.2.2.2.2.2.1
theorem dK_a_89 : dk_P cX10_jumperComes [(134, (.aload_n 0, 1)), (135, (.iload_n 1, 1)), (136, (.bipush 9, 2)), (138, (.iadd, 1)), (139, (.iconst 1, 1)), (140, (.invokevirtual 135, 3)), (143, (.putfield 195, 3)), (146, (.aload_n 3, 1))] := dk_of 134 (by decide +kernel)
theorem dX10_jumperComes_134 : decode cX10_jumperComes 134 = .ok (.aload_n 0, 1) := dK_a_89.1
theorem dX10_jumperComes_135 : decode cX10_jumperComes 135 = .ok (.iload_n 1, 1) := dK_a_89.2.1
theorem dX10_jumperComes_136 : decode cX10_jumperComes 136 = .ok (.bipush 9, 2) := dK_a_89.2.2.1
theorem dX10_jumperComes_138 : decode cX10_jumperComes 138 = .ok (.iadd, 1) := dK_a_89.2.2.2.1
theorem dX10_jumperComes_139 : decode cX10_jumperComes 139 = .ok (.iconst 1, 1) := dK_a_89.2.2.2.2.1
theorem dX10_jumperComes_140 : decode cX10_jumperComes 140 = .ok (.invokevirtual 135, 3) := dK_a_89.2.2.2.2.2.1
theorem dX10_jumperComes_143 : decode cX10_jumperComes 143 = .ok (.putfield 195, 3) := dK_a_89.2.2.2.2.2.2.1
theorem dX10_jumperComes_146 : decode cX10_jumperComes 146 = .ok (.aload_n 3, 1) := dK_a_89.2.2.2.2.2.2.2.1
theorem dK_a_90 : dk_P cX10_jumperComes [(147, (.aload_n 0, 1)), (148, (.iload_n 1, 1)), (149, (.bipush 10, 2)), (151, (.iadd, 1)), (152, (.iconst 4, 1)), (153, (.invokevirtual 135, 3)), (156, (.putfield 198, 3)), (159, (.aload_n 0, 1))] := dk_of 147 (by decide +kernel)
theorem dX10_jumperComes_147 : decode cX10_jumperComes 147 = .ok (.aload_n 0, 1) := dK_a_90.1
theorem dX10_jumperComes_148 : decode cX10_jumperComes 148 = .ok (.iload_n 1, 1) := dK_a_90.2.1
theorem dX10_jumperComes_149 : decode cX10_jumperComes 149 = .ok (.bipush 10, 2) := dK_a_90.2.2.1
theorem dX10_jumperComes_151 : decode cX10_jumperComes 151 = .ok (.iadd, 1) := dK_a_90.2.2.2.1
theorem dX10_jumperComes_152 : decode cX10_jumperComes 152 = .ok (.iconst 4, 1) := dK_a_90.2.2.2.2.1
theorem dX10_jumperComes_153 : decode cX10_jumperComes 153 = .ok (.invokevirtual 135, 3) := dK_a_90.2.2.2.2.2.1
theorem dX10_jumperComes_156 : decode cX10_jumperComes 156 = .ok (.putfield 198, 3) := dK_a_90.2.2.2.2.2.2.1
theorem dX10_jumperComes_159 : decode cX10_jumperComes 159 = .ok (.aload_n 0, 1) := dK_a_90.2.2.2.2.2.2.2.1
theorem dK_a_91 : dk_P cX10_jumperComes [(160, (.getfield 76, 3)), (163, (.dup, 1)), (164, (.getfield 89, 3)), (167, (.iconst 1, 1)), (168, (.iadd, 1)), (169, (.putfield 89, 3)), (172, (.aload_n 3, 1)), (173, (.getfield 183, 3))] := dk_of 160 (by decide +kernel)
theorem dX10_jumperComes_160 : decode cX10_jumperComes 160 = .ok (.getfield 76, 3) := dK_a_91.1
theorem dX10_jumperComes_163 : decode cX10_jumperComes 163 = .ok (.dup, 1) := dK_a_91.2.1
theorem dX10_jumperComes_164 : decode cX10_jumperComes 164 = .ok (.getfield 89, 3) := dK_a_91.2.2.1
theorem dX10_jumperComes_167 : decode cX10_jumperComes 167 = .ok (.iconst 1, 1) := dK_a_91.2.2.2.1
theorem dX10_jumperComes_168 : decode cX10_jumperComes 168 = .ok (.iadd, 1) := dK_a_91.2.2.2.2.1
theorem dX10_jumperComes_169 : decode cX10_jumperComes 169 = .ok (.putfield 89, 3) := dK_a_91.2.2.2.2.2.1
theorem dX10_jumperComes_172 : decode cX10_jumperComes 172 = .ok (.aload_n 3, 1) := dK_a_91.2.2.2.2.2.2.1
theorem dX10_jumperComes_173 : decode cX10_jumperComes 173 = .ok (.getfield 183, 3) := dK_a_91.2.2.2.2.2.2.2.1
theorem dK_a_92 : dk_P cX10_jumperComes [(176, (.bipush 40, 2)), (178, (.if_icmp .lt 43, 3)), (181, (.aload_n 3, 1)), (182, (.getfield 189, 3)), (185, (.bipush 6, 2)), (187, (.if_icmp .gt 34, 3)), (190, (.aload_n 3, 1)), (191, (.getfield 192, 3))] := dk_of 176 (by decide +kernel)
theorem dX10_jumperComes_176 : decode cX10_jumperComes 176 = .ok (.bipush 40, 2) := dK_a_92.1
theorem dX10_jumperComes_178 : decode cX10_jumperComes 178 = .ok (.if_icmp .lt 43, 3) := dK_a_92.2.1
theorem dX10_jumperComes_181 : decode cX10_jumperComes 181 = .ok (.aload_n 3, 1) := dK_a_92.2.2.1
theorem dX10_jumperComes_182 : decode cX10_jumperComes 182 = .ok (.getfield 189, 3) := dK_a_92.2.2.2.1
theorem dX10_jumperComes_185 : decode cX10_jumperComes 185 = .ok (.bipush 6, 2) := dK_a_92.2.2.2.2.1
theorem dX10_jumperComes_187 : decode cX10_jumperComes 187 = .ok (.if_icmp .gt 34, 3) := dK_a_92.2.2.2.2.2.1
theorem dX10_jumperComes_190 : decode cX10_jumperComes 190 = .ok (.aload_n 3, 1) := dK_a_92.2.2.2.2.2.2.1
theorem dX10_jumperComes_191 : decode cX10_jumperComes 191 = .ok (.getfield 192, 3) := dK_a_92.2.2.2.2.2.2.2.1
theorem dK_a_93 : dk_P cX10_jumperComes [(194, (.bipush 20, 2)), (196, (.if_icmp .lt 25, 3)), (199, (.aload_n 3, 1)), (200, (.getfield 195, 3)), (203, (.iconst 4, 1)), (204, (.if_icmp .gt 17, 3)), (207, (.aload_n 3, 1)), (208, (.getfield 198, 3))] := dk_of 194 (by decide +kernel)
theorem dX10_jumperComes_194 : decode cX10_jumperComes 194 = .ok (.bipush 20, 2) := dK_a_93.1
theorem dX10_jumperComes_196 : decode cX10_jumperComes 196 = .ok (.if_icmp .lt 25, 3) := dK_a_93.2.1
theorem dX10_jumperComes_199 : decode cX10_jumperComes 199 = .ok (.aload_n 3, 1) := dK_a_93.2.2.1
theorem dX10_jumperComes_200 : decode cX10_jumperComes 200 = .ok (.getfield 195, 3) := dK_a_93.2.2.2.1
theorem dX10_jumperComes_203 : decode cX10_jumperComes 203 = .ok (.iconst 4, 1) := dK_a_93.2.2.2.2.1
theorem dX10_jumperComes_204 : decode cX10_jumperComes 204 = .ok (.if_icmp .gt 17, 3) := dK_a_93.2.2.2.2.2.1
theorem dX10_jumperComes_207 : decode cX10_jumperComes 207 = .ok (.aload_n 3, 1) := dK_a_93.2.2.2.2.2.2.1
theorem dX10_jumperComes_208 : decode cX10_jumperComes 208 = .ok (.getfield 198, 3) := dK_a_93.2.2.2.2.2.2.2.1
theorem dK_a_94 : dk_P cX10_jumperComes [(211, (.sipush 2400, 3)), (214, (.if_icmp .gt 7, 3)), (217, (.iconst 1, 1)), (218, (.goto 4, 3)), (221, (.iconst 0, 1)), (222, (.ireturn, 1))] := dk_of 211 (by decide +kernel)
theorem dX10_jumperComes_211 : decode cX10_jumperComes 211 = .ok (.sipush 2400, 3) := dK_a_94.1
theorem dX10_jumperComes_214 : decode cX10_jumperComes 214 = .ok (.if_icmp .gt 7, 3) := dK_a_94.2.1
theorem dX10_jumperComes_217 : decode cX10_jumperComes 217 = .ok (.iconst 1, 1) := dK_a_94.2.2.1
theorem dX10_jumperComes_218 : decode cX10_jumperComes 218 = .ok (.goto 4, 3) := dK_a_94.2.2.2.1
theorem dX10_jumperComes_221 : decode cX10_jumperComes 221 = .ok (.iconst 0, 1) := dK_a_94.2.2.2.2.1
theorem dX10_jumperComes_222 : decode cX10_jumperComes 222 = .ok (.ireturn, 1) := dK_a_94.2.2.2.2.2.1
theorem dK_a_95 : dk_P cX10_tryComes [(0, (.aload_n 0, 1)), (1, (.getfield 76, 3)), (4, (.aload_n 0, 1)), (5, (.getfield 28, 3)), (8, (.invokevirtual 201, 3)), (11, (.istore_n 2, 1)), (12, (.iload_n 2, 1)), (13, (.ifCond .ge 5, 3))] := dk_of 0 (by decide +kernel)
theorem dX10_tryComes_0 : decode cX10_tryComes 0 = .ok (.aload_n 0, 1) := dK_a_95.1
theorem dX10_tryComes_1 : decode cX10_tryComes 1 = .ok (.getfield 76, 3) := dK_a_95.2.1
theorem dX10_tryComes_4 : decode cX10_tryComes 4 = .ok (.aload_n 0, 1) := dK_a_95.2.2.1
theorem dX10_tryComes_5 : decode cX10_tryComes 5 = .ok (.getfield 28, 3) := dK_a_95.2.2.2.1
theorem dX10_tryComes_8 : decode cX10_tryComes 8 = .ok (.invokevirtual 201, 3) := dK_a_95.2.2.2.2.1
theorem dX10_tryComes_11 : decode cX10_tryComes 11 = .ok (.istore_n 2, 1) := dK_a_95.2.2.2.2.2.1
theorem dX10_tryComes_12 : decode cX10_tryComes 12 = .ok (.iload_n 2, 1) := dK_a_95.2.2.2.2.2.2.1
theorem dX10_tryComes_13 : decode cX10_tryComes 13 = .ok (.ifCond .ge 5, 3) := dK_a_95.2.2.2.2.2.2.2.1
theorem dK_a_96 : dk_P cX10_tryComes [(16, (.iconst 0, 1)), (17, (.ireturn, 1)), (18, (.aload_n 0, 1)), (19, (.getfield 76, 3)), (22, (.iload_n 2, 1)), (23, (.iload_n 1, 1)), (24, (.iconst 0, 1)), (25, (.invokevirtual 205, 3))] := dk_of 16 (by decide +kernel)
theorem dX10_tryComes_16 : decode cX10_tryComes 16 = .ok (.iconst 0, 1) := dK_a_96.1
theorem dX10_tryComes_17 : decode cX10_tryComes 17 = .ok (.ireturn, 1) := dK_a_96.2.1
theorem dX10_tryComes_18 : decode cX10_tryComes 18 = .ok (.aload_n 0, 1) := dK_a_96.2.2.1
theorem dX10_tryComes_19 : decode cX10_tryComes 19 = .ok (.getfield 76, 3) := dK_a_96.2.2.2.1
theorem dX10_tryComes_22 : decode cX10_tryComes 22 = .ok (.iload_n 2, 1) := dK_a_96.2.2.2.2.1
theorem dX10_tryComes_23 : decode cX10_tryComes 23 = .ok (.iload_n 1, 1) := dK_a_96.2.2.2.2.2.1
theorem dX10_tryComes_24 : decode cX10_tryComes 24 = .ok (.iconst 0, 1) := dK_a_96.2.2.2.2.2.2.1
theorem dX10_tryComes_25 : decode cX10_tryComes 25 = .ok (.invokevirtual 205, 3) := dK_a_96.2.2.2.2.2.2.2.1
theorem dK_a_97 : dk_P cX10_tryComes [(28, (.pop, 1)), (29, (.iconst 1, 1)), (30, (.ireturn, 1))] := dk_of 28 (by decide +kernel)
theorem dX10_tryComes_28 : decode cX10_tryComes 28 = .ok (.pop, 1) := dK_a_97.1
theorem dX10_tryComes_29 : decode cX10_tryComes 29 = .ok (.iconst 1, 1) := dK_a_97.2.1
theorem dX10_tryComes_30 : decode cX10_tryComes 30 = .ok (.ireturn, 1) := dK_a_97.2.2.1
theorem dK_a_98 : dk_P cX10_jumper [(0, (.aload_n 0, 1)), (1, (.iload_n 1, 1)), (2, (.invokevirtual 93, 3)), (5, (.iload_n 2, 1)), (6, (.bipush 11, 2)), (8, (.invokestatic 101, 3)), (11, (.invokestatic 97, 3)), (14, (.istore_n 3, 1))] := dk_of 0 (by decide +kernel)
theorem dX10_jumper_0 : decode cX10_jumper 0 = .ok (.aload_n 0, 1) := dK_a_98.1
theorem dX10_jumper_1 : decode cX10_jumper 1 = .ok (.iload_n 1, 1) := dK_a_98.2.1
theorem dX10_jumper_2 : decode cX10_jumper 2 = .ok (.invokevirtual 93, 3) := dK_a_98.2.2.1
theorem dX10_jumper_5 : decode cX10_jumper 5 = .ok (.iload_n 2, 1) := dK_a_98.2.2.2.1
theorem dX10_jumper_6 : decode cX10_jumper 6 = .ok (.bipush 11, 2) := dK_a_98.2.2.2.2.1
theorem dX10_jumper_8 : decode cX10_jumper 8 = .ok (.invokestatic 101, 3) := dK_a_98.2.2.2.2.2.1
theorem dX10_jumper_11 : decode cX10_jumper 11 = .ok (.invokestatic 97, 3) := dK_a_98.2.2.2.2.2.2.1
theorem dX10_jumper_14 : decode cX10_jumper 14 = .ok (.istore_n 3, 1) := dK_a_98.2.2.2.2.2.2.2.1
theorem dK_a_99 : dk_P cX10_jumper [(15, (.iload_n 3, 1)), (16, (.ifCond .eq 9, 3)), (19, (.aload_n 0, 1)), (20, (.iload_n 3, 1)), (21, (.invokevirtual 111, 3)), (24, (.ireturn, 1)), (25, (.iload_n 2, 1)), (26, (.bipush 9, 2))] := dk_of 15 (by decide +kernel)
theorem dX10_jumper_15 : decode cX10_jumper 15 = .ok (.iload_n 3, 1) := dK_a_99.1
theorem dX10_jumper_16 : decode cX10_jumper 16 = .ok (.ifCond .eq 9, 3) := dK_a_99.2.1
theorem dX10_jumper_19 : decode cX10_jumper 19 = .ok (.aload_n 0, 1) := dK_a_99.2.2.1
theorem dX10_jumper_20 : decode cX10_jumper 20 = .ok (.iload_n 3, 1) := dK_a_99.2.2.2.1
theorem dX10_jumper_21 : decode cX10_jumper 21 = .ok (.invokevirtual 111, 3) := dK_a_99.2.2.2.2.1
theorem dX10_jumper_24 : decode cX10_jumper 24 = .ok (.ireturn, 1) := dK_a_99.2.2.2.2.2.1
theorem dX10_jumper_25 : decode cX10_jumper 25 = .ok (.iload_n 2, 1) := dK_a_99.2.2.2.2.2.2.1
theorem dX10_jumper_26 : decode cX10_jumper 26 = .ok (.bipush 9, 2) := dK_a_99.2.2.2.2.2.2.2.1
theorem dK_a_100 : dk_P cX10_jumper [(28, (.if_icmp .ge 16, 3)), (31, (.aload_n 0, 1)), (32, (.getfield 72, 3)), (35, (.iload_n 1, 1)), (36, (.invokevirtual 169, 3)), (39, (.iload_n 2, 1)), (40, (.invokevirtual 208, 3)), (43, (.ireturn, 1))] := dk_of 28 (by decide +kernel)
theorem dX10_jumper_28 : decode cX10_jumper 28 = .ok (.if_icmp .ge 16, 3) := dK_a_100.1
theorem dX10_jumper_31 : decode cX10_jumper 31 = .ok (.aload_n 0, 1) := dK_a_100.2.1
theorem dX10_jumper_32 : decode cX10_jumper 32 = .ok (.getfield 72, 3) := dK_a_100.2.2.1
theorem dX10_jumper_35 : decode cX10_jumper 35 = .ok (.iload_n 1, 1) := dK_a_100.2.2.2.1
theorem dX10_jumper_36 : decode cX10_jumper 36 = .ok (.invokevirtual 169, 3) := dK_a_100.2.2.2.2.1
theorem dX10_jumper_39 : decode cX10_jumper 39 = .ok (.iload_n 2, 1) := dK_a_100.2.2.2.2.2.1
theorem dX10_jumper_40 : decode cX10_jumper 40 = .ok (.invokevirtual 208, 3) := dK_a_100.2.2.2.2.2.2.1
theorem dX10_jumper_43 : decode cX10_jumper 43 = .ok (.ireturn, 1) := dK_a_100.2.2.2.2.2.2.2.1
theorem dK_a_101 : dk_P cX10_jumper [(44, (.iload_n 2, 1)), (45, (.bipush 11, 2)), (47, (.if_icmp .ne 12, 3)), (50, (.aload_n 0, 1)), (51, (.getfield 72, 3)), (54, (.iload_n 1, 1)), (55, (.invokevirtual 211, 3)), (58, (.ireturn, 1))] := dk_of 44 (by decide +kernel)
theorem dX10_jumper_44 : decode cX10_jumper 44 = .ok (.iload_n 2, 1) := dK_a_101.1
theorem dX10_jumper_45 : decode cX10_jumper 45 = .ok (.bipush 11, 2) := dK_a_101.2.1
theorem dX10_jumper_47 : decode cX10_jumper 47 = .ok (.if_icmp .ne 12, 3) := dK_a_101.2.2.1
theorem dX10_jumper_50 : decode cX10_jumper 50 = .ok (.aload_n 0, 1) := dK_a_101.2.2.2.1
theorem dX10_jumper_51 : decode cX10_jumper 51 = .ok (.getfield 72, 3) := dK_a_101.2.2.2.2.1
theorem dX10_jumper_54 : decode cX10_jumper 54 = .ok (.iload_n 1, 1) := dK_a_101.2.2.2.2.2.1
theorem dX10_jumper_55 : decode cX10_jumper 55 = .ok (.invokevirtual 211, 3) := dK_a_101.2.2.2.2.2.2.1
theorem dX10_jumper_58 : decode cX10_jumper 58 = .ok (.ireturn, 1) := dK_a_101.2.2.2.2.2.2.2.1
theorem dK_a_102 : dk_P cX10_jumper [(59, (.aload_n 0, 1)), (60, (.getfield 72, 3)), (63, (.aload_n 0, 1)), (64, (.getfield 28, 3)), (67, (.iconst 0, 1)), (68, (.aload_n 0, 1)), (69, (.getfield 72, 3)), (72, (.getfield 160, 3))] := dk_of 59 (by decide +kernel)
theorem dX10_jumper_59 : decode cX10_jumper 59 = .ok (.aload_n 0, 1) := dK_a_102.1
theorem dX10_jumper_60 : decode cX10_jumper 60 = .ok (.getfield 72, 3) := dK_a_102.2.1
theorem dX10_jumper_63 : decode cX10_jumper 63 = .ok (.aload_n 0, 1) := dK_a_102.2.2.1
theorem dX10_jumper_64 : decode cX10_jumper 64 = .ok (.getfield 28, 3) := dK_a_102.2.2.2.1
theorem dX10_jumper_67 : decode cX10_jumper 67 = .ok (.iconst 0, 1) := dK_a_102.2.2.2.2.1
theorem dX10_jumper_68 : decode cX10_jumper 68 = .ok (.aload_n 0, 1) := dK_a_102.2.2.2.2.2.1
theorem dX10_jumper_69 : decode cX10_jumper 69 = .ok (.getfield 72, 3) := dK_a_102.2.2.2.2.2.2.1
theorem dX10_jumper_72 : decode cX10_jumper 72 = .ok (.getfield 160, 3) := dK_a_102.2.2.2.2.2.2.2.1
theorem dK_a_103 : dk_P cX10_jumper [(75, (.invokevirtual 214, 3)), (78, (.iload_n 2, 1)), (79, (.bipush 9, 2)), (81, (.if_icmp .ne 14, 3)), (84, (.aload_n 0, 1)), (85, (.getfield 28, 3)), (88, (.iload_n 1, 1)), (89, (.invokevirtual 218, 3))] := dk_of 75 (by decide +kernel)
theorem dX10_jumper_75 : decode cX10_jumper 75 = .ok (.invokevirtual 214, 3) := dK_a_103.1
theorem dX10_jumper_78 : decode cX10_jumper 78 = .ok (.iload_n 2, 1) := dK_a_103.2.1
theorem dX10_jumper_79 : decode cX10_jumper 79 = .ok (.bipush 9, 2) := dK_a_103.2.2.1
theorem dX10_jumper_81 : decode cX10_jumper 81 = .ok (.if_icmp .ne 14, 3) := dK_a_103.2.2.2.1
theorem dX10_jumper_84 : decode cX10_jumper 84 = .ok (.aload_n 0, 1) := dK_a_103.2.2.2.2.1
theorem dX10_jumper_85 : decode cX10_jumper 85 = .ok (.getfield 28, 3) := dK_a_103.2.2.2.2.2.1
theorem dX10_jumper_88 : decode cX10_jumper 88 = .ok (.iload_n 1, 1) := dK_a_103.2.2.2.2.2.2.1
theorem dX10_jumper_89 : decode cX10_jumper 89 = .ok (.invokevirtual 218, 3) := dK_a_103.2.2.2.2.2.2.2.1
theorem dK_a_104 : dk_P cX10_jumper [(92, (.goto 11, 3)), (95, (.aload_n 0, 1)), (96, (.getfield 28, 3)), (99, (.iload_n 1, 1)), (100, (.invokevirtual 221, 3)), (103, (.ireturn, 1))] := dk_of 92 (by decide +kernel)
theorem dX10_jumper_92 : decode cX10_jumper 92 = .ok (.goto 11, 3) := dK_a_104.1
theorem dX10_jumper_95 : decode cX10_jumper 95 = .ok (.aload_n 0, 1) := dK_a_104.2.1
theorem dX10_jumper_96 : decode cX10_jumper 96 = .ok (.getfield 28, 3) := dK_a_104.2.2.1
theorem dX10_jumper_99 : decode cX10_jumper 99 = .ok (.iload_n 1, 1) := dK_a_104.2.2.2.1
theorem dX10_jumper_100 : decode cX10_jumper 100 = .ok (.invokevirtual 221, 3) := dK_a_104.2.2.2.2.1
theorem dX10_jumper_103 : decode cX10_jumper 103 = .ok (.ireturn, 1) := dK_a_104.2.2.2.2.2.1
theorem dK_a_105 : dk_P cX10_mark [(0, (.aload_n 0, 1)), (1, (.iload_n 1, 1)), (2, (.invokevirtual 93, 3)), (5, (.iload_n 2, 1)), (6, (.iconst 0, 1)), (7, (.sipush 2400, 3)), (10, (.invokestatic 104, 3)), (13, (.invokestatic 97, 3))] := dk_of 0 (by decide +kernel)
theorem dX10_mark_0 : decode cX10_mark 0 = .ok (.aload_n 0, 1) := dK_a_105.1
theorem dX10_mark_1 : decode cX10_mark 1 = .ok (.iload_n 1, 1) := dK_a_105.2.1
theorem dX10_mark_2 : decode cX10_mark 2 = .ok (.invokevirtual 93, 3) := dK_a_105.2.2.1
theorem dX10_mark_5 : decode cX10_mark 5 = .ok (.iload_n 2, 1) := dK_a_105.2.2.2.1
theorem dX10_mark_6 : decode cX10_mark 6 = .ok (.iconst 0, 1) := dK_a_105.2.2.2.2.1
theorem dX10_mark_7 : decode cX10_mark 7 = .ok (.sipush 2400, 3) := dK_a_105.2.2.2.2.2.1
theorem dX10_mark_10 : decode cX10_mark 10 = .ok (.invokestatic 104, 3) := dK_a_105.2.2.2.2.2.2.1
theorem dX10_mark_13 : decode cX10_mark 13 = .ok (.invokestatic 97, 3) := dK_a_105.2.2.2.2.2.2.2.1
theorem dK_a_106 : dk_P cX10_mark [(16, (.istore_n 3, 1)), (17, (.iload_n 3, 1)), (18, (.ifCond .eq 9, 3)), (21, (.aload_n 0, 1)), (22, (.iload_n 3, 1)), (23, (.invokevirtual 111, 3)), (26, (.ireturn, 1)), (27, (.aload_n 0, 1))] := dk_of 16 (by decide +kernel)
theorem dX10_mark_16 : decode cX10_mark 16 = .ok (.istore_n 3, 1) := dK_a_106.1
theorem dX10_mark_17 : decode cX10_mark 17 = .ok (.iload_n 3, 1) := dK_a_106.2.1
theorem dX10_mark_18 : decode cX10_mark 18 = .ok (.ifCond .eq 9, 3) := dK_a_106.2.2.1
theorem dX10_mark_21 : decode cX10_mark 21 = .ok (.aload_n 0, 1) := dK_a_106.2.2.2.1
theorem dX10_mark_22 : decode cX10_mark 22 = .ok (.iload_n 3, 1) := dK_a_106.2.2.2.2.1
theorem dX10_mark_23 : decode cX10_mark 23 = .ok (.invokevirtual 111, 3) := dK_a_106.2.2.2.2.2.1
theorem dX10_mark_26 : decode cX10_mark 26 = .ok (.ireturn, 1) := dK_a_106.2.2.2.2.2.2.1
theorem dX10_mark_27 : decode cX10_mark 27 = .ok (.aload_n 0, 1) := dK_a_106.2.2.2.2.2.2.2.1
theorem dK_a_107 : dk_P cX10_mark [(28, (.getfield 72, 3)), (31, (.iload_n 1, 1)), (32, (.invokevirtual 169, 3)), (35, (.getfield 198, 3)), (38, (.istore 4, 2)), (40, (.aload_n 0, 1)), (41, (.getfield 72, 3)), (44, (.iload_n 1, 1))] := dk_of 28 (by decide +kernel)
theorem dX10_mark_28 : decode cX10_mark 28 = .ok (.getfield 72, 3) := dK_a_107.1
theorem dX10_mark_31 : decode cX10_mark 31 = .ok (.iload_n 1, 1) := dK_a_107.2.1
theorem dX10_mark_32 : decode cX10_mark 32 = .ok (.invokevirtual 169, 3) := dK_a_107.2.2.1
theorem dX10_mark_35 : decode cX10_mark 35 = .ok (.getfield 198, 3) := dK_a_107.2.2.2.1
theorem dX10_mark_38 : decode cX10_mark 38 = .ok (.istore 4, 2) := dK_a_107.2.2.2.2.1
theorem dX10_mark_40 : decode cX10_mark 40 = .ok (.aload_n 0, 1) := dK_a_107.2.2.2.2.2.1
theorem dX10_mark_41 : decode cX10_mark 41 = .ok (.getfield 72, 3) := dK_a_107.2.2.2.2.2.2.1
theorem dX10_mark_44 : decode cX10_mark 44 = .ok (.iload_n 1, 1) := dK_a_107.2.2.2.2.2.2.2.1
theorem dK_a_108 : dk_P cX10_mark [(45, (.invokevirtual 169, 3)), (48, (.iload_n 2, 1)), (49, (.putfield 198, 3)), (52, (.iload 4, 2)), (54, (.ireturn, 1))] := dk_of 45 (by decide +kernel)
theorem dX10_mark_45 : decode cX10_mark 45 = .ok (.invokevirtual 169, 3) := dK_a_108.1
theorem dX10_mark_48 : decode cX10_mark 48 = .ok (.iload_n 2, 1) := dK_a_108.2.1
theorem dX10_mark_49 : decode cX10_mark 49 = .ok (.putfield 198, 3) := dK_a_108.2.2.1
theorem dX10_mark_52 : decode cX10_mark 52 = .ok (.iload 4, 2) := dK_a_108.2.2.2.1
theorem dX10_mark_54 : decode cX10_mark 54 = .ok (.ireturn, 1) := dK_a_108.2.2.2.2.1
theorem dK_a_109 : dk_P cX10_look [(0, (.aload_n 0, 1)), (1, (.iload_n 1, 1)), (2, (.invokevirtual 93, 3)), (5, (.iload_n 2, 1)), (6, (.iconst 0, 1)), (7, (.iconst 4, 1)), (8, (.invokestatic 104, 3)), (11, (.invokestatic 97, 3))] := dk_of 0 (by decide +kernel)
theorem dX10_look_0 : decode cX10_look 0 = .ok (.aload_n 0, 1) := dK_a_109.1
theorem dX10_look_1 : decode cX10_look 1 = .ok (.iload_n 1, 1) := dK_a_109.2.1
theorem dX10_look_2 : decode cX10_look 2 = .ok (.invokevirtual 93, 3) := dK_a_109.2.2.1
theorem dX10_look_5 : decode cX10_look 5 = .ok (.iload_n 2, 1) := dK_a_109.2.2.2.1
theorem dX10_look_6 : decode cX10_look 6 = .ok (.iconst 0, 1) := dK_a_109.2.2.2.2.1
theorem dX10_look_7 : decode cX10_look 7 = .ok (.iconst 4, 1) := dK_a_109.2.2.2.2.2.1
theorem dX10_look_8 : decode cX10_look 8 = .ok (.invokestatic 104, 3) := dK_a_109.2.2.2.2.2.2.1
theorem dX10_look_11 : decode cX10_look 11 = .ok (.invokestatic 97, 3) := dK_a_109.2.2.2.2.2.2.2.1
theorem dK_a_110 : dk_P cX10_look [(14, (.istore_n 3, 1)), (15, (.iload_n 3, 1)), (16, (.ifCond .eq 9, 3)), (19, (.aload_n 0, 1)), (20, (.iload_n 3, 1)), (21, (.invokevirtual 111, 3)), (24, (.ireturn, 1)), (25, (.aload_n 0, 1))] := dk_of 14 (by decide +kernel)
theorem dX10_look_14 : decode cX10_look 14 = .ok (.istore_n 3, 1) := dK_a_110.1
theorem dX10_look_15 : decode cX10_look 15 = .ok (.iload_n 3, 1) := dK_a_110.2.1
theorem dX10_look_16 : decode cX10_look 16 = .ok (.ifCond .eq 9, 3) := dK_a_110.2.2.1
theorem dX10_look_19 : decode cX10_look 19 = .ok (.aload_n 0, 1) := dK_a_110.2.2.2.1
theorem dX10_look_20 : decode cX10_look 20 = .ok (.iload_n 3, 1) := dK_a_110.2.2.2.2.1
theorem dX10_look_21 : decode cX10_look 21 = .ok (.invokevirtual 111, 3) := dK_a_110.2.2.2.2.2.1
theorem dX10_look_24 : decode cX10_look 24 = .ok (.ireturn, 1) := dK_a_110.2.2.2.2.2.2.1
theorem dX10_look_25 : decode cX10_look 25 = .ok (.aload_n 0, 1) := dK_a_110.2.2.2.2.2.2.2.1
theorem dK_a_111 : dk_P cX10_look [(26, (.getfield 72, 3)), (29, (.iload_n 1, 1)), (30, (.invokevirtual 169, 3)), (33, (.getfield 195, 3)), (36, (.istore 4, 2)), (38, (.aload_n 0, 1)), (39, (.getfield 72, 3)), (42, (.iload_n 1, 1))] := dk_of 26 (by decide +kernel)
theorem dX10_look_26 : decode cX10_look 26 = .ok (.getfield 72, 3) := dK_a_111.1
theorem dX10_look_29 : decode cX10_look 29 = .ok (.iload_n 1, 1) := dK_a_111.2.1
theorem dX10_look_30 : decode cX10_look 30 = .ok (.invokevirtual 169, 3) := dK_a_111.2.2.1
theorem dX10_look_33 : decode cX10_look 33 = .ok (.getfield 195, 3) := dK_a_111.2.2.2.1
theorem dX10_look_36 : decode cX10_look 36 = .ok (.istore 4, 2) := dK_a_111.2.2.2.2.1
theorem dX10_look_38 : decode cX10_look 38 = .ok (.aload_n 0, 1) := dK_a_111.2.2.2.2.2.1
theorem dX10_look_39 : decode cX10_look 39 = .ok (.getfield 72, 3) := dK_a_111.2.2.2.2.2.2.1
theorem dX10_look_42 : decode cX10_look 42 = .ok (.iload_n 1, 1) := dK_a_111.2.2.2.2.2.2.2.1
theorem dK_a_112 : dk_P cX10_look [(43, (.invokevirtual 169, 3)), (46, (.iload_n 2, 1)), (47, (.putfield 195, 3)), (50, (.iload 4, 2)), (52, (.ireturn, 1))] := dk_of 43 (by decide +kernel)
theorem dX10_look_43 : decode cX10_look 43 = .ok (.invokevirtual 169, 3) := dK_a_112.1
theorem dX10_look_46 : decode cX10_look 46 = .ok (.iload_n 2, 1) := dK_a_112.2.1
theorem dX10_look_47 : decode cX10_look 47 = .ok (.putfield 195, 3) := dK_a_112.2.2.1
theorem dX10_look_50 : decode cX10_look 50 = .ok (.iload 4, 2) := dK_a_112.2.2.2.1
theorem dX10_look_52 : decode cX10_look 52 = .ok (.ireturn, 1) := dK_a_112.2.2.2.2.1
theorem dK_a_113 : dk_P cX10_set [(0, (.iload_n 1, 1)), (1, (.iconst 1, 1)), (2, (.invokestatic 101, 3)), (5, (.istore_n 3, 1)), (6, (.iload_n 3, 1)), (7, (.ifCond .ne 24, 3)), (10, (.iload_n 1, 1)), (11, (.ifCond .ne 13, 3))] := dk_of 0 (by decide +kernel)
theorem dX10_set_0 : decode cX10_set 0 = .ok (.iload_n 1, 1) := dK_a_113.1
theorem dX10_set_1 : decode cX10_set 1 = .ok (.iconst 1, 1) := dK_a_113.2.1
theorem dX10_set_2 : decode cX10_set 2 = .ok (.invokestatic 101, 3) := dK_a_113.2.2.1
theorem dX10_set_5 : decode cX10_set 5 = .ok (.istore_n 3, 1) := dK_a_113.2.2.2.1
theorem dX10_set_6 : decode cX10_set 6 = .ok (.iload_n 3, 1) := dK_a_113.2.2.2.2.1
theorem dX10_set_7 : decode cX10_set 7 = .ok (.ifCond .ne 24, 3) := dK_a_113.2.2.2.2.2.1
theorem dX10_set_10 : decode cX10_set 10 = .ok (.iload_n 1, 1) := dK_a_113.2.2.2.2.2.2.1
theorem dX10_set_11 : decode cX10_set 11 = .ok (.ifCond .ne 13, 3) := dK_a_113.2.2.2.2.2.2.2.1
theorem dK_a_114 : dk_P cX10_set [(14, (.iload_n 2, 1)), (15, (.iconst 4, 1)), (16, (.bipush 20, 2)), (18, (.invokestatic 104, 3)), (21, (.goto 9, 3)), (24, (.iload_n 2, 1)), (25, (.iconst 1, 1)), (26, (.iconst 4, 1))] := dk_of 14 (by decide +kernel)
theorem dX10_set_14 : decode cX10_set 14 = .ok (.iload_n 2, 1) := dK_a_114.1
theorem dX10_set_15 : decode cX10_set 15 = .ok (.iconst 4, 1) := dK_a_114.2.1
theorem dX10_set_16 : decode cX10_set 16 = .ok (.bipush 20, 2) := dK_a_114.2.2.1
theorem dX10_set_18 : decode cX10_set 18 = .ok (.invokestatic 104, 3) := dK_a_114.2.2.2.1
theorem dX10_set_21 : decode cX10_set 21 = .ok (.goto 9, 3) := dK_a_114.2.2.2.2.1
theorem dX10_set_24 : decode cX10_set 24 = .ok (.iload_n 2, 1) := dK_a_114.2.2.2.2.2.1
theorem dX10_set_25 : decode cX10_set 25 = .ok (.iconst 1, 1) := dK_a_114.2.2.2.2.2.2.1
theorem dX10_set_26 : decode cX10_set 26 = .ok (.iconst 4, 1) := dK_a_114.2.2.2.2.2.2.2.1
theorem dK_a_115 : dk_P cX10_set [(27, (.invokestatic 104, 3)), (30, (.istore_n 3, 1)), (31, (.iload_n 3, 1)), (32, (.aload_n 0, 1)), (33, (.getfield 72, 3)), (36, (.getfield 160, 3)), (39, (.ifCond .le 8, 3)), (42, (.bipush (-3), 2))] := dk_of 27 (by decide +kernel)
theorem dX10_set_27 : decode cX10_set 27 = .ok (.invokestatic 104, 3) := dK_a_115.1
theorem dX10_set_30 : decode cX10_set 30 = .ok (.istore_n 3, 1) := dK_a_115.2.1
theorem dX10_set_31 : decode cX10_set 31 = .ok (.iload_n 3, 1) := dK_a_115.2.2.1
theorem dX10_set_32 : decode cX10_set 32 = .ok (.aload_n 0, 1) := dK_a_115.2.2.2.1
theorem dX10_set_33 : decode cX10_set 33 = .ok (.getfield 72, 3) := dK_a_115.2.2.2.2.1
theorem dX10_set_36 : decode cX10_set 36 = .ok (.getfield 160, 3) := dK_a_115.2.2.2.2.2.1
theorem dX10_set_39 : decode cX10_set 39 = .ok (.ifCond .le 8, 3) := dK_a_115.2.2.2.2.2.2.1
theorem dX10_set_42 : decode cX10_set 42 = .ok (.bipush (-3), 2) := dK_a_115.2.2.2.2.2.2.2.1
theorem dK_a_116 : dk_P cX10_set [(44, (.goto 4, 3)), (47, (.iconst 0, 1)), (48, (.invokestatic 97, 3)), (51, (.istore_n 3, 1)), (52, (.iload_n 3, 1)), (53, (.ifCond .eq 9, 3)), (56, (.aload_n 0, 1)), (57, (.iload_n 3, 1))] := dk_of 44 (by decide +kernel)
theorem dX10_set_44 : decode cX10_set 44 = .ok (.goto 4, 3) := dK_a_116.1
theorem dX10_set_47 : decode cX10_set 47 = .ok (.iconst 0, 1) := dK_a_116.2.1
theorem dX10_set_48 : decode cX10_set 48 = .ok (.invokestatic 97, 3) := dK_a_116.2.2.1
theorem dX10_set_51 : decode cX10_set 51 = .ok (.istore_n 3, 1) := dK_a_116.2.2.2.1
theorem dX10_set_52 : decode cX10_set 52 = .ok (.iload_n 3, 1) := dK_a_116.2.2.2.2.1
theorem dX10_set_53 : decode cX10_set 53 = .ok (.ifCond .eq 9, 3) := dK_a_116.2.2.2.2.2.1
theorem dX10_set_56 : decode cX10_set 56 = .ok (.aload_n 0, 1) := dK_a_116.2.2.2.2.2.2.1
theorem dX10_set_57 : decode cX10_set 57 = .ok (.iload_n 3, 1) := dK_a_116.2.2.2.2.2.2.2.1
theorem dK_a_117 : dk_P cX10_set [(58, (.invokevirtual 111, 3)), (61, (.ireturn, 1)), (62, (.iload_n 1, 1)), (63, (.ifCond .ne 13, 3)), (66, (.aload_n 0, 1)), (67, (.getfield 72, 3)), (70, (.getfield 163, 3)), (73, (.goto 10, 3))] := dk_of 58 (by decide +kernel)
theorem dX10_set_58 : decode cX10_set 58 = .ok (.invokevirtual 111, 3) := dK_a_117.1
theorem dX10_set_61 : decode cX10_set 61 = .ok (.ireturn, 1) := dK_a_117.2.1
theorem dX10_set_62 : decode cX10_set 62 = .ok (.iload_n 1, 1) := dK_a_117.2.2.1
theorem dX10_set_63 : decode cX10_set 63 = .ok (.ifCond .ne 13, 3) := dK_a_117.2.2.2.1
theorem dX10_set_66 : decode cX10_set 66 = .ok (.aload_n 0, 1) := dK_a_117.2.2.2.2.1
theorem dX10_set_67 : decode cX10_set 67 = .ok (.getfield 72, 3) := dK_a_117.2.2.2.2.2.1
theorem dX10_set_70 : decode cX10_set 70 = .ok (.getfield 163, 3) := dK_a_117.2.2.2.2.2.2.1
theorem dX10_set_73 : decode cX10_set 73 = .ok (.goto 10, 3) := dK_a_117.2.2.2.2.2.2.2.1
theorem dK_a_118 : dk_P cX10_set [(76, (.aload_n 0, 1)), (77, (.getfield 72, 3)), (80, (.getfield 166, 3)), (83, (.istore 4, 2)), (85, (.iload_n 1, 1)), (86, (.ifCond .ne 14, 3)), (89, (.aload_n 0, 1)), (90, (.getfield 72, 3))] := dk_of 76 (by decide +kernel)
theorem dX10_set_76 : decode cX10_set 76 = .ok (.aload_n 0, 1) := dK_a_118.1
theorem dX10_set_77 : decode cX10_set 77 = .ok (.getfield 72, 3) := dK_a_118.2.1
theorem dX10_set_80 : decode cX10_set 80 = .ok (.getfield 166, 3) := dK_a_118.2.2.1
theorem dX10_set_83 : decode cX10_set 83 = .ok (.istore 4, 2) := dK_a_118.2.2.2.1
theorem dX10_set_85 : decode cX10_set 85 = .ok (.iload_n 1, 1) := dK_a_118.2.2.2.2.1
theorem dX10_set_86 : decode cX10_set 86 = .ok (.ifCond .ne 14, 3) := dK_a_118.2.2.2.2.2.1
theorem dX10_set_89 : decode cX10_set 89 = .ok (.aload_n 0, 1) := dK_a_118.2.2.2.2.2.2.1
theorem dX10_set_90 : decode cX10_set 90 = .ok (.getfield 72, 3) := dK_a_118.2.2.2.2.2.2.2.1
theorem dK_a_119 : dk_P cX10_set [(93, (.iload_n 2, 1)), (94, (.putfield 163, 3)), (97, (.goto 11, 3)), (100, (.aload_n 0, 1)), (101, (.getfield 72, 3)), (104, (.iload_n 2, 1)), (105, (.putfield 166, 3)), (108, (.iload 4, 2))] := dk_of 93 (by decide +kernel)
theorem dX10_set_93 : decode cX10_set 93 = .ok (.iload_n 2, 1) := dK_a_119.1
theorem dX10_set_94 : decode cX10_set 94 = .ok (.putfield 163, 3) := dK_a_119.2.1
theorem dX10_set_97 : decode cX10_set 97 = .ok (.goto 11, 3) := dK_a_119.2.2.1
theorem dX10_set_100 : decode cX10_set 100 = .ok (.aload_n 0, 1) := dK_a_119.2.2.2.1
theorem dX10_set_101 : decode cX10_set 101 = .ok (.getfield 72, 3) := dK_a_119.2.2.2.2.1
theorem dX10_set_104 : decode cX10_set 104 = .ok (.iload_n 2, 1) := dK_a_119.2.2.2.2.2.1
theorem dX10_set_105 : decode cX10_set 105 = .ok (.putfield 166, 3) := dK_a_119.2.2.2.2.2.2.1
theorem dX10_set_108 : decode cX10_set 108 = .ok (.iload 4, 2) := dK_a_119.2.2.2.2.2.2.2.1
theorem dK_a_120 : dk_P cX10_set [(110, (.ireturn, 1))] := dk_of 110 (by decide +kernel)
theorem dX10_set_110 : decode cX10_set 110 = .ok (.ireturn, 1) := dK_a_120.1
theorem dK_a_121 : dk_P cX10_wind [(0, (.iload_n 1, 1)), (1, (.bipush (-9), 2)), (3, (.bipush 9, 2)), (5, (.invokestatic 104, 3)), (8, (.istore_n 2, 1)), (9, (.iload_n 2, 1)), (10, (.ifCond .eq 12, 3)), (13, (.ldc 224, 2))] := dk_of 0 (by decide +kernel)
theorem dX10_wind_0 : decode cX10_wind 0 = .ok (.iload_n 1, 1) := dK_a_121.1
theorem dX10_wind_1 : decode cX10_wind 1 = .ok (.bipush (-9), 2) := dK_a_121.2.1
theorem dX10_wind_3 : decode cX10_wind 3 = .ok (.bipush 9, 2) := dK_a_121.2.2.1
theorem dX10_wind_5 : decode cX10_wind 5 = .ok (.invokestatic 104, 3) := dK_a_121.2.2.2.1
theorem dX10_wind_8 : decode cX10_wind 8 = .ok (.istore_n 2, 1) := dK_a_121.2.2.2.2.1
theorem dX10_wind_9 : decode cX10_wind 9 = .ok (.iload_n 2, 1) := dK_a_121.2.2.2.2.2.1
theorem dX10_wind_10 : decode cX10_wind 10 = .ok (.ifCond .eq 12, 3) := dK_a_121.2.2.2.2.2.2.1
theorem dX10_wind_13 : decode cX10_wind 13 = .ok (.ldc 224, 2) := dK_a_121.2.2.2.2.2.2.2.1
theorem dK_a_122 : dk_P cX10_wind [(15, (.aload_n 0, 1)), (16, (.iload_n 2, 1)), (17, (.invokevirtual 111, 3)), (20, (.isub, 1)), (21, (.ireturn, 1)), (22, (.aload_n 0, 1)), (23, (.getfield 72, 3)), (26, (.getfield 157, 3))] := dk_of 15 (by decide +kernel)
theorem dX10_wind_15 : decode cX10_wind 15 = .ok (.aload_n 0, 1) := dK_a_122.1
theorem dX10_wind_16 : decode cX10_wind 16 = .ok (.iload_n 2, 1) := dK_a_122.2.1
theorem dX10_wind_17 : decode cX10_wind 17 = .ok (.invokevirtual 111, 3) := dK_a_122.2.2.1
theorem dX10_wind_20 : decode cX10_wind 20 = .ok (.isub, 1) := dK_a_122.2.2.2.1
theorem dX10_wind_21 : decode cX10_wind 21 = .ok (.ireturn, 1) := dK_a_122.2.2.2.2.1
theorem dX10_wind_22 : decode cX10_wind 22 = .ok (.aload_n 0, 1) := dK_a_122.2.2.2.2.2.1
theorem dX10_wind_23 : decode cX10_wind 23 = .ok (.getfield 72, 3) := dK_a_122.2.2.2.2.2.2.1
theorem dX10_wind_26 : decode cX10_wind 26 = .ok (.getfield 157, 3) := dK_a_122.2.2.2.2.2.2.2.1
theorem dK_a_123 : dk_P cX10_wind [(29, (.istore_n 3, 1)), (30, (.aload_n 0, 1)), (31, (.getfield 72, 3)), (34, (.iload_n 1, 1)), (35, (.putfield 157, 3)), (38, (.iload_n 3, 1)), (39, (.ireturn, 1))] := dk_of 29 (by decide +kernel)
theorem dX10_wind_29 : decode cX10_wind 29 = .ok (.istore_n 3, 1) := dK_a_123.1
theorem dX10_wind_30 : decode cX10_wind 30 = .ok (.aload_n 0, 1) := dK_a_123.2.1
theorem dX10_wind_31 : decode cX10_wind 31 = .ok (.getfield 72, 3) := dK_a_123.2.2.1
theorem dX10_wind_34 : decode cX10_wind 34 = .ok (.iload_n 1, 1) := dK_a_123.2.2.2.1
theorem dX10_wind_35 : decode cX10_wind 35 = .ok (.putfield 157, 3) := dK_a_123.2.2.2.2.1
theorem dX10_wind_38 : decode cX10_wind 38 = .ok (.iload_n 3, 1) := dK_a_123.2.2.2.2.2.1
theorem dX10_wind_39 : decode cX10_wind 39 = .ok (.ireturn, 1) := dK_a_123.2.2.2.2.2.2.1
theorem dK_a_124 : dk_P cX10_stride [(0, (.aload_n 0, 1)), (1, (.iload_n 1, 1)), (2, (.invokevirtual 93, 3)), (5, (.iload_n 2, 1)), (6, (.iconst 0, 1)), (7, (.aload_n 0, 1)), (8, (.getfield 72, 3)), (11, (.getfield 163, 3))] := dk_of 0 (by decide +kernel)
theorem dX10_stride_0 : decode cX10_stride 0 = .ok (.aload_n 0, 1) := dK_a_124.1
theorem dX10_stride_1 : decode cX10_stride 1 = .ok (.iload_n 1, 1) := dK_a_124.2.1
theorem dX10_stride_2 : decode cX10_stride 2 = .ok (.invokevirtual 93, 3) := dK_a_124.2.2.1
theorem dX10_stride_5 : decode cX10_stride 5 = .ok (.iload_n 2, 1) := dK_a_124.2.2.2.1
theorem dX10_stride_6 : decode cX10_stride 6 = .ok (.iconst 0, 1) := dK_a_124.2.2.2.2.1
theorem dX10_stride_7 : decode cX10_stride 7 = .ok (.aload_n 0, 1) := dK_a_124.2.2.2.2.2.1
theorem dX10_stride_8 : decode cX10_stride 8 = .ok (.getfield 72, 3) := dK_a_124.2.2.2.2.2.2.1
theorem dX10_stride_11 : decode cX10_stride 11 = .ok (.getfield 163, 3) := dK_a_124.2.2.2.2.2.2.2.1
theorem dK_a_125 : dk_P cX10_stride [(14, (.iconst 1, 1)), (15, (.isub, 1)), (16, (.invokestatic 104, 3)), (19, (.invokestatic 97, 3)), (22, (.istore_n 3, 1)), (23, (.iload_n 3, 1)), (24, (.ifCond .eq 9, 3)), (27, (.aload_n 0, 1))] := dk_of 14 (by decide +kernel)
theorem dX10_stride_14 : decode cX10_stride 14 = .ok (.iconst 1, 1) := dK_a_125.1
theorem dX10_stride_15 : decode cX10_stride 15 = .ok (.isub, 1) := dK_a_125.2.1
theorem dX10_stride_16 : decode cX10_stride 16 = .ok (.invokestatic 104, 3) := dK_a_125.2.2.1
theorem dX10_stride_19 : decode cX10_stride 19 = .ok (.invokestatic 97, 3) := dK_a_125.2.2.2.1
theorem dX10_stride_22 : decode cX10_stride 22 = .ok (.istore_n 3, 1) := dK_a_125.2.2.2.2.1
theorem dX10_stride_23 : decode cX10_stride 23 = .ok (.iload_n 3, 1) := dK_a_125.2.2.2.2.2.1
theorem dX10_stride_24 : decode cX10_stride 24 = .ok (.ifCond .eq 9, 3) := dK_a_125.2.2.2.2.2.2.1
theorem dX10_stride_27 : decode cX10_stride 27 = .ok (.aload_n 0, 1) := dK_a_125.2.2.2.2.2.2.2.1
theorem dK_a_126 : dk_P cX10_stride [(28, (.iload_n 3, 1)), (29, (.invokevirtual 111, 3)), (32, (.ireturn, 1)), (33, (.aload_n 0, 1)), (34, (.getfield 72, 3)), (37, (.iload_n 1, 1)), (38, (.invokevirtual 169, 3)), (41, (.astore 4, 2))] := dk_of 28 (by decide +kernel)
theorem dX10_stride_28 : decode cX10_stride 28 = .ok (.iload_n 3, 1) := dK_a_126.1
theorem dX10_stride_29 : decode cX10_stride 29 = .ok (.invokevirtual 111, 3) := dK_a_126.2.1
theorem dX10_stride_32 : decode cX10_stride 32 = .ok (.ireturn, 1) := dK_a_126.2.2.1
theorem dX10_stride_33 : decode cX10_stride 33 = .ok (.aload_n 0, 1) := dK_a_126.2.2.2.1
theorem dX10_stride_34 : decode cX10_stride 34 = .ok (.getfield 72, 3) := dK_a_126.2.2.2.2.1
theorem dX10_stride_37 : decode cX10_stride 37 = .ok (.iload_n 1, 1) := dK_a_126.2.2.2.2.2.1
theorem dX10_stride_38 : decode cX10_stride 38 = .ok (.invokevirtual 169, 3) := dK_a_126.2.2.2.2.2.2.1
theorem dX10_stride_41 : decode cX10_stride 41 = .ok (.astore 4, 2) := dK_a_126.2.2.2.2.2.2.2.1
theorem dK_a_127 : dk_P cX10_stride [(43, (.aload 4, 2)), (45, (.getfield 173, 3)), (48, (.aload 4, 2)), (50, (.iload_n 2, 1)), (51, (.aload_n 0, 1)), (52, (.getfield 72, 3)), (55, (.getfield 157, 3)), (58, (.invokevirtual 225, 3))] := dk_of 43 (by decide +kernel)
theorem dX10_stride_43 : decode cX10_stride 43 = .ok (.aload 4, 2) := dK_a_127.1
theorem dX10_stride_45 : decode cX10_stride 45 = .ok (.getfield 173, 3) := dK_a_127.2.1
theorem dX10_stride_48 : decode cX10_stride 48 = .ok (.aload 4, 2) := dK_a_127.2.2.1
theorem dX10_stride_50 : decode cX10_stride 50 = .ok (.iload_n 2, 1) := dK_a_127.2.2.2.1
theorem dX10_stride_51 : decode cX10_stride 51 = .ok (.aload_n 0, 1) := dK_a_127.2.2.2.2.1
theorem dX10_stride_52 : decode cX10_stride 52 = .ok (.getfield 72, 3) := dK_a_127.2.2.2.2.2.1
theorem dX10_stride_55 : decode cX10_stride 55 = .ok (.getfield 157, 3) := dK_a_127.2.2.2.2.2.2.1
theorem dX10_stride_58 : decode cX10_stride 58 = .ok (.invokevirtual 225, 3) := dK_a_127.2.2.2.2.2.2.2.1
theorem dK_a_128 : dk_P cX10_stride [(61, (.ireturn, 1))] := dk_of 61 (by decide +kernel)
theorem dX10_stride_61 : decode cX10_stride 61 = .ok (.ireturn, 1) := dK_a_128.1
theorem dK_a_129 : dk_P cX10_place [(0, (.aload_n 0, 1)), (1, (.iload_n 1, 1)), (2, (.invokevirtual 93, 3)), (5, (.istore_n 2, 1)), (6, (.iload_n 2, 1)), (7, (.ifCond .eq 14, 3)), (10, (.ldc 224, 2)), (12, (.aload_n 0, 1))] := dk_of 0 (by decide +kernel)
theorem dX10_place_0 : decode cX10_place 0 = .ok (.aload_n 0, 1) := dK_a_129.1
theorem dX10_place_1 : decode cX10_place 1 = .ok (.iload_n 1, 1) := dK_a_129.2.1
theorem dX10_place_2 : decode cX10_place 2 = .ok (.invokevirtual 93, 3) := dK_a_129.2.2.1
theorem dX10_place_5 : decode cX10_place 5 = .ok (.istore_n 2, 1) := dK_a_129.2.2.2.1
theorem dX10_place_6 : decode cX10_place 6 = .ok (.iload_n 2, 1) := dK_a_129.2.2.2.2.1
theorem dX10_place_7 : decode cX10_place 7 = .ok (.ifCond .eq 14, 3) := dK_a_129.2.2.2.2.2.1
theorem dX10_place_10 : decode cX10_place 10 = .ok (.ldc 224, 2) := dK_a_129.2.2.2.2.2.2.1
theorem dX10_place_12 : decode cX10_place 12 = .ok (.aload_n 0, 1) := dK_a_129.2.2.2.2.2.2.2.1
theorem dK_a_130 : dk_P cX10_place [(13, (.iload_n 2, 1)), (14, (.invokevirtual 111, 3)), (17, (.isub, 1)), (18, (.goto 8, 3)), (21, (.aload_n 0, 1)), (22, (.iload_n 1, 1)), (23, (.invokevirtual 229, 3)), (26, (.ireturn, 1))] := dk_of 13 (by decide +kernel)
theorem dX10_place_13 : decode cX10_place 13 = .ok (.iload_n 2, 1) := dK_a_130.1
theorem dX10_place_14 : decode cX10_place 14 = .ok (.invokevirtual 111, 3) := dK_a_130.2.1
theorem dX10_place_17 : decode cX10_place 17 = .ok (.isub, 1) := dK_a_130.2.2.1
theorem dX10_place_18 : decode cX10_place 18 = .ok (.goto 8, 3) := dK_a_130.2.2.2.1
theorem dX10_place_21 : decode cX10_place 21 = .ok (.aload_n 0, 1) := dK_a_130.2.2.2.2.1
theorem dX10_place_22 : decode cX10_place 22 = .ok (.iload_n 1, 1) := dK_a_130.2.2.2.2.2.1
theorem dX10_place_23 : decode cX10_place 23 = .ok (.invokevirtual 229, 3) := dK_a_130.2.2.2.2.2.2.1
theorem dX10_place_26 : decode cX10_place 26 = .ok (.ireturn, 1) := dK_a_130.2.2.2.2.2.2.2.1
theorem dK_a_131 : dk_P cX10_placeOf [(0, (.aload_n 0, 1)), (1, (.getfield 72, 3)), (4, (.iload_n 1, 1)), (5, (.invokevirtual 169, 3)), (8, (.astore_n 2, 1)), (9, (.aload_n 2, 1)), (10, (.getfield 198, 3)), (13, (.aload_n 2, 1))] := dk_of 0 (by decide +kernel)
theorem dX10_placeOf_0 : decode cX10_placeOf 0 = .ok (.aload_n 0, 1) := dK_a_131.1
theorem dX10_placeOf_1 : decode cX10_placeOf 1 = .ok (.getfield 72, 3) := dK_a_131.2.1
theorem dX10_placeOf_4 : decode cX10_placeOf 4 = .ok (.iload_n 1, 1) := dK_a_131.2.2.1
theorem dX10_placeOf_5 : decode cX10_placeOf 5 = .ok (.invokevirtual 169, 3) := dK_a_131.2.2.2.1
theorem dX10_placeOf_8 : decode cX10_placeOf 8 = .ok (.astore_n 2, 1) := dK_a_131.2.2.2.2.1
theorem dX10_placeOf_9 : decode cX10_placeOf 9 = .ok (.aload_n 2, 1) := dK_a_131.2.2.2.2.2.1
theorem dX10_placeOf_10 : decode cX10_placeOf 10 = .ok (.getfield 198, 3) := dK_a_131.2.2.2.2.2.2.1
theorem dX10_placeOf_13 : decode cX10_placeOf 13 = .ok (.aload_n 2, 1) := dK_a_131.2.2.2.2.2.2.2.1
theorem dK_a_132 : dk_P cX10_placeOf [(14, (.aload_n 0, 1)), (15, (.getfield 72, 3)), (18, (.getfield 163, 3)), (21, (.aload_n 0, 1)), (22, (.getfield 72, 3)), (25, (.getfield 157, 3)), (28, (.invokevirtual 232, 3)), (31, (.isub, 1))] := dk_of 14 (by decide +kernel)
theorem dX10_placeOf_14 : decode cX10_placeOf 14 = .ok (.aload_n 0, 1) := dK_a_132.1
theorem dX10_placeOf_15 : decode cX10_placeOf 15 = .ok (.getfield 72, 3) := dK_a_132.2.1
theorem dX10_placeOf_18 : decode cX10_placeOf 18 = .ok (.getfield 163, 3) := dK_a_132.2.2.1
theorem dX10_placeOf_21 : decode cX10_placeOf 21 = .ok (.aload_n 0, 1) := dK_a_132.2.2.2.1
theorem dX10_placeOf_22 : decode cX10_placeOf 22 = .ok (.getfield 72, 3) := dK_a_132.2.2.2.2.1
theorem dX10_placeOf_25 : decode cX10_placeOf 25 = .ok (.getfield 157, 3) := dK_a_132.2.2.2.2.2.1
theorem dX10_placeOf_28 : decode cX10_placeOf 28 = .ok (.invokevirtual 232, 3) := dK_a_132.2.2.2.2.2.2.1
theorem dX10_placeOf_31 : decode cX10_placeOf 31 = .ok (.isub, 1) := dK_a_132.2.2.2.2.2.2.2.1
theorem dK_a_133 : dk_P cX10_placeOf [(32, (.ireturn, 1))] := dk_of 32 (by decide +kernel)
theorem dX10_placeOf_32 : decode cX10_placeOf 32 = .ok (.ireturn, 1) := dK_a_133.1
theorem dK_a_134 : dk_P cX10_length [(0, (.aload_n 0, 1)), (1, (.iload_n 1, 1)), (2, (.invokevirtual 93, 3)), (5, (.iload_n 2, 1)), (6, (.iconst 0, 1)), (7, (.sipush 300, 3)), (10, (.invokestatic 104, 3)), (13, (.iload_n 3, 1))] := dk_of 0 (by decide +kernel)
theorem dX10_length_0 : decode cX10_length 0 = .ok (.aload_n 0, 1) := dK_a_134.1
theorem dX10_length_1 : decode cX10_length 1 = .ok (.iload_n 1, 1) := dK_a_134.2.1
theorem dX10_length_2 : decode cX10_length 2 = .ok (.invokevirtual 93, 3) := dK_a_134.2.2.1
theorem dX10_length_5 : decode cX10_length 5 = .ok (.iload_n 2, 1) := dK_a_134.2.2.2.1
theorem dX10_length_6 : decode cX10_length 6 = .ok (.iconst 0, 1) := dK_a_134.2.2.2.2.1
theorem dX10_length_7 : decode cX10_length 7 = .ok (.sipush 300, 3) := dK_a_134.2.2.2.2.2.1
theorem dX10_length_10 : decode cX10_length 10 = .ok (.invokestatic 104, 3) := dK_a_134.2.2.2.2.2.2.1
theorem dX10_length_13 : decode cX10_length 13 = .ok (.iload_n 3, 1) := dK_a_134.2.2.2.2.2.2.2.1
theorem dK_a_135 : dk_P cX10_length [(14, (.iconst 0, 1)), (15, (.bipush 99, 2)), (17, (.invokestatic 104, 3)), (20, (.invokestatic 235, 3)), (23, (.invokestatic 97, 3)), (26, (.istore 4, 2)), (28, (.iload 4, 2)), (30, (.ifCond .eq 10, 3))] := dk_of 14 (by decide +kernel)
theorem dX10_length_14 : decode cX10_length 14 = .ok (.iconst 0, 1) := dK_a_135.1
theorem dX10_length_15 : decode cX10_length 15 = .ok (.bipush 99, 2) := dK_a_135.2.1
theorem dX10_length_17 : decode cX10_length 17 = .ok (.invokestatic 104, 3) := dK_a_135.2.2.1
theorem dX10_length_20 : decode cX10_length 20 = .ok (.invokestatic 235, 3) := dK_a_135.2.2.2.1
theorem dX10_length_23 : decode cX10_length 23 = .ok (.invokestatic 97, 3) := dK_a_135.2.2.2.2.1
theorem dX10_length_26 : decode cX10_length 26 = .ok (.istore 4, 2) := dK_a_135.2.2.2.2.2.1
theorem dX10_length_28 : decode cX10_length 28 = .ok (.iload 4, 2) := dK_a_135.2.2.2.2.2.2.1
theorem dX10_length_30 : decode cX10_length 30 = .ok (.ifCond .eq 10, 3) := dK_a_135.2.2.2.2.2.2.2.1
theorem dK_a_136 : dk_P cX10_length [(33, (.aload_n 0, 1)), (34, (.iload 4, 2)), (36, (.invokevirtual 111, 3)), (39, (.ireturn, 1)), (40, (.aload_n 0, 1)), (41, (.getfield 72, 3)), (44, (.iload_n 1, 1)), (45, (.invokevirtual 169, 3))] := dk_of 33 (by decide +kernel)
theorem dX10_length_33 : decode cX10_length 33 = .ok (.aload_n 0, 1) := dK_a_136.1
theorem dX10_length_34 : decode cX10_length 34 = .ok (.iload 4, 2) := dK_a_136.2.1
theorem dX10_length_36 : decode cX10_length 36 = .ok (.invokevirtual 111, 3) := dK_a_136.2.2.1
theorem dX10_length_39 : decode cX10_length 39 = .ok (.ireturn, 1) := dK_a_136.2.2.2.1
theorem dX10_length_40 : decode cX10_length 40 = .ok (.aload_n 0, 1) := dK_a_136.2.2.2.2.1
theorem dX10_length_41 : decode cX10_length 41 = .ok (.getfield 72, 3) := dK_a_136.2.2.2.2.2.1
theorem dX10_length_44 : decode cX10_length 44 = .ok (.iload_n 1, 1) := dK_a_136.2.2.2.2.2.2.1
theorem dX10_length_45 : decode cX10_length 45 = .ok (.invokevirtual 169, 3) := dK_a_136.2.2.2.2.2.2.2.1
theorem dK_a_137 : dk_P cX10_length [(48, (.astore 5, 2)), (50, (.aload 5, 2)), (52, (.getfield 173, 3)), (55, (.aload 5, 2)), (57, (.iload_n 2, 1)), (58, (.iload_n 3, 1)), (59, (.aload_n 0, 1)), (60, (.getfield 72, 3))] := dk_of 48 (by decide +kernel)
theorem dX10_length_48 : decode cX10_length 48 = .ok (.astore 5, 2) := dK_a_137.1
theorem dX10_length_50 : decode cX10_length 50 = .ok (.aload 5, 2) := dK_a_137.2.1
theorem dX10_length_52 : decode cX10_length 52 = .ok (.getfield 173, 3) := dK_a_137.2.2.1
theorem dX10_length_55 : decode cX10_length 55 = .ok (.aload 5, 2) := dK_a_137.2.2.2.1
theorem dX10_length_57 : decode cX10_length 57 = .ok (.iload_n 2, 1) := dK_a_137.2.2.2.2.1
theorem dX10_length_58 : decode cX10_length 58 = .ok (.iload_n 3, 1) := dK_a_137.2.2.2.2.2.1
theorem dX10_length_59 : decode cX10_length 59 = .ok (.aload_n 0, 1) := dK_a_137.2.2.2.2.2.2.1
theorem dX10_length_60 : decode cX10_length 60 = .ok (.getfield 72, 3) := dK_a_137.2.2.2.2.2.2.2.1
theorem dK_a_138 : dk_P cX10_length [(63, (.getfield 157, 3)), (66, (.invokevirtual 238, 3)), (69, (.ireturn, 1))] := dk_of 63 (by decide +kernel)
theorem dX10_length_63 : decode cX10_length 63 = .ok (.getfield 157, 3) := dK_a_138.1
theorem dX10_length_66 : decode cX10_length 66 = .ok (.invokevirtual 238, 3) := dK_a_138.2.1
theorem dX10_length_69 : decode cX10_length 69 = .ok (.ireturn, 1) := dK_a_138.2.2.1
theorem dK_a_139 : dk_P cX10_fraction [(0, (.lload_n 0, 1)), (1, (.lstore 5, 2)), (3, (.lload_n 2, 1)), (4, (.lstore 7, 2)), (6, (.iconst 0, 1)), (7, (.istore 9, 2)), (9, (.iload 9, 2)), (11, (.sipush 1000, 3))] := dk_of 0 (by decide +kernel)
theorem dX10_fraction_0 : decode cX10_fraction 0 = .ok (.lload_n 0, 1) := dK_a_139.1
theorem dX10_fraction_1 : decode cX10_fraction 1 = .ok (.lstore 5, 2) := dK_a_139.2.1
theorem dX10_fraction_3 : decode cX10_fraction 3 = .ok (.lload_n 2, 1) := dK_a_139.2.2.1
theorem dX10_fraction_4 : decode cX10_fraction 4 = .ok (.lstore 7, 2) := dK_a_139.2.2.2.1
theorem dX10_fraction_6 : decode cX10_fraction 6 = .ok (.iconst 0, 1) := dK_a_139.2.2.2.2.1
theorem dX10_fraction_7 : decode cX10_fraction 7 = .ok (.istore 9, 2) := dK_a_139.2.2.2.2.2.1
theorem dX10_fraction_9 : decode cX10_fraction 9 = .ok (.iload 9, 2) := dK_a_139.2.2.2.2.2.2.1
theorem dX10_fraction_11 : decode cX10_fraction 11 = .ok (.sipush 1000, 3) := dK_a_139.2.2.2.2.2.2.2.1
theorem dK_a_140 : dk_P cX10_fraction [(14, (.if_icmp .ge 31, 3)), (17, (.lload 7, 2)), (19, (.lconst 0, 1)), (20, (.lcmp, 1)), (21, (.ifCond .eq 24, 3)), (24, (.lload 5, 2)), (26, (.lload 7, 2)), (28, (.lrem, 1))] := dk_of 14 (by decide +kernel)
theorem dX10_fraction_14 : decode cX10_fraction 14 = .ok (.if_icmp .ge 31, 3) := dK_a_140.1
theorem dX10_fraction_17 : decode cX10_fraction 17 = .ok (.lload 7, 2) := dK_a_140.2.1
theorem dX10_fraction_19 : decode cX10_fraction 19 = .ok (.lconst 0, 1) := dK_a_140.2.2.1
theorem dX10_fraction_20 : decode cX10_fraction 20 = .ok (.lcmp, 1) := dK_a_140.2.2.2.1
theorem dX10_fraction_21 : decode cX10_fraction 21 = .ok (.ifCond .eq 24, 3) := dK_a_140.2.2.2.2.1
theorem dX10_fraction_24 : decode cX10_fraction 24 = .ok (.lload 5, 2) := dK_a_140.2.2.2.2.2.1
theorem dX10_fraction_26 : decode cX10_fraction 26 = .ok (.lload 7, 2) := dK_a_140.2.2.2.2.2.2.1
theorem dX10_fraction_28 : decode cX10_fraction 28 = .ok (.lrem, 1) := dK_a_140.2.2.2.2.2.2.2.1
theorem dK_a_141 : dk_P cX10_fraction [(29, (.lstore 10, 2)), (31, (.lload 7, 2)), (33, (.lstore 5, 2)), (35, (.lload 10, 2)), (37, (.lstore 7, 2)), (39, (.iinc 9 1, 3)), (42, (.goto (-33), 3)), (45, (.iload 4, 2))] := dk_of 29 (by decide +kernel)
theorem dX10_fraction_29 : decode cX10_fraction 29 = .ok (.lstore 10, 2) := dK_a_141.1
theorem dX10_fraction_31 : decode cX10_fraction 31 = .ok (.lload 7, 2) := dK_a_141.2.1
theorem dX10_fraction_33 : decode cX10_fraction 33 = .ok (.lstore 5, 2) := dK_a_141.2.2.1
theorem dX10_fraction_35 : decode cX10_fraction 35 = .ok (.lload 10, 2) := dK_a_141.2.2.2.1
theorem dX10_fraction_37 : decode cX10_fraction 37 = .ok (.lstore 7, 2) := dK_a_141.2.2.2.2.1
theorem dX10_fraction_39 : decode cX10_fraction 39 = .ok (.iinc 9 1, 3) := dK_a_141.2.2.2.2.2.1
theorem dX10_fraction_42 : decode cX10_fraction 42 = .ok (.goto (-33), 3) := dK_a_141.2.2.2.2.2.2.1
theorem dX10_fraction_45 : decode cX10_fraction 45 = .ok (.iload 4, 2) := dK_a_141.2.2.2.2.2.2.2.1
theorem dK_a_142 : dk_P cX10_fraction [(47, (.ifCond .ne 7, 3)), (50, (.lload_n 0, 1)), (51, (.goto 4, 3)), (54, (.lload_n 2, 1)), (55, (.lstore 9, 2)), (57, (.lload 5, 2)), (59, (.lconst 0, 1)), (60, (.lcmp, 1))] := dk_of 47 (by decide +kernel)
theorem dX10_fraction_47 : decode cX10_fraction 47 = .ok (.ifCond .ne 7, 3) := dK_a_142.1
theorem dX10_fraction_50 : decode cX10_fraction 50 = .ok (.lload_n 0, 1) := dK_a_142.2.1
theorem dX10_fraction_51 : decode cX10_fraction 51 = .ok (.goto 4, 3) := dK_a_142.2.2.1
theorem dX10_fraction_54 : decode cX10_fraction 54 = .ok (.lload_n 2, 1) := dK_a_142.2.2.2.1
theorem dX10_fraction_55 : decode cX10_fraction 55 = .ok (.lstore 9, 2) := dK_a_142.2.2.2.2.1
theorem dX10_fraction_57 : decode cX10_fraction 57 = .ok (.lload 5, 2) := dK_a_142.2.2.2.2.2.1
theorem dX10_fraction_59 : decode cX10_fraction 59 = .ok (.lconst 0, 1) := dK_a_142.2.2.2.2.2.2.1
theorem dX10_fraction_60 : decode cX10_fraction 60 = .ok (.lcmp, 1) := dK_a_142.2.2.2.2.2.2.2.1
theorem dK_a_143 : dk_P cX10_fraction [(61, (.ifCond .ne 8, 3)), (64, (.lload 9, 2)), (66, (.goto 8, 3)), (69, (.lload 9, 2)), (71, (.lload 5, 2)), (73, (.ldiv, 1)), (74, (.lreturn, 1))] := dk_of 61 (by decide +kernel)
theorem dX10_fraction_61 : decode cX10_fraction 61 = .ok (.ifCond .ne 8, 3) := dK_a_143.1
theorem dX10_fraction_64 : decode cX10_fraction 64 = .ok (.lload 9, 2) := dK_a_143.2.1
theorem dX10_fraction_66 : decode cX10_fraction 66 = .ok (.goto 8, 3) := dK_a_143.2.2.1
theorem dX10_fraction_69 : decode cX10_fraction 69 = .ok (.lload 9, 2) := dK_a_143.2.2.2.1
theorem dX10_fraction_71 : decode cX10_fraction 71 = .ok (.lload 5, 2) := dK_a_143.2.2.2.2.1
theorem dX10_fraction_73 : decode cX10_fraction 73 = .ok (.ldiv, 1) := dK_a_143.2.2.2.2.2.1
theorem dX10_fraction_74 : decode cX10_fraction 74 = .ok (.lreturn, 1) := dK_a_143.2.2.2.2.2.2.1
theorem dK_a_144 : dk_P cX10_spreadNow [(0, (.aload_n 0, 1)), (1, (.getfield 35, 3)), (4, (.aload_n 0, 1)), (5, (.getfield 72, 3)), (8, (.iload_n 1, 1)), (9, (.invokevirtual 169, 3)), (12, (.aload_n 0, 1)), (13, (.getfield 72, 3))] := dk_of 0 (by decide +kernel)
theorem dX10_spreadNow_0 : decode cX10_spreadNow 0 = .ok (.aload_n 0, 1) := dK_a_144.1
theorem dX10_spreadNow_1 : decode cX10_spreadNow 1 = .ok (.getfield 35, 3) := dK_a_144.2.1
theorem dX10_spreadNow_4 : decode cX10_spreadNow 4 = .ok (.aload_n 0, 1) := dK_a_144.2.2.1
theorem dX10_spreadNow_5 : decode cX10_spreadNow 5 = .ok (.getfield 72, 3) := dK_a_144.2.2.2.1
theorem dX10_spreadNow_8 : decode cX10_spreadNow 8 = .ok (.iload_n 1, 1) := dK_a_144.2.2.2.2.1
theorem dX10_spreadNow_9 : decode cX10_spreadNow 9 = .ok (.invokevirtual 169, 3) := dK_a_144.2.2.2.2.2.1
theorem dX10_spreadNow_12 : decode cX10_spreadNow 12 = .ok (.aload_n 0, 1) := dK_a_144.2.2.2.2.2.2.1
theorem dX10_spreadNow_13 : decode cX10_spreadNow 13 = .ok (.getfield 72, 3) := dK_a_144.2.2.2.2.2.2.2.1
theorem dK_a_145 : dk_P cX10_spreadNow [(16, (.getfield 163, 3)), (19, (.aload_n 0, 1)), (20, (.getfield 72, 3)), (23, (.getfield 157, 3)), (26, (.aload_n 0, 1)), (27, (.iload_n 1, 1)), (28, (.invokevirtual 229, 3)), (31, (.iload_n 2, 1))] := dk_of 16 (by decide +kernel)
theorem dX10_spreadNow_16 : decode cX10_spreadNow 16 = .ok (.getfield 163, 3) := dK_a_145.1
theorem dX10_spreadNow_19 : decode cX10_spreadNow 19 = .ok (.aload_n 0, 1) := dK_a_145.2.1
theorem dX10_spreadNow_20 : decode cX10_spreadNow 20 = .ok (.getfield 72, 3) := dK_a_145.2.2.1
theorem dX10_spreadNow_23 : decode cX10_spreadNow 23 = .ok (.getfield 157, 3) := dK_a_145.2.2.2.1
theorem dX10_spreadNow_26 : decode cX10_spreadNow 26 = .ok (.aload_n 0, 1) := dK_a_145.2.2.2.2.1
theorem dX10_spreadNow_27 : decode cX10_spreadNow 27 = .ok (.iload_n 1, 1) := dK_a_145.2.2.2.2.2.1
theorem dX10_spreadNow_28 : decode cX10_spreadNow 28 = .ok (.invokevirtual 229, 3) := dK_a_145.2.2.2.2.2.2.1
theorem dX10_spreadNow_31 : decode cX10_spreadNow 31 = .ok (.iload_n 2, 1) := dK_a_145.2.2.2.2.2.2.2.1
theorem dK_a_146 : dk_P cX10_spreadNow [(32, (.invokevirtual 242, 3)), (35, (.return_, 1))] := dk_of 32 (by decide +kernel)
theorem dX10_spreadNow_32 : decode cX10_spreadNow 32 = .ok (.invokevirtual 242, 3) := dK_a_146.1
theorem dX10_spreadNow_35 : decode cX10_spreadNow 35 = .ok (.return_, 1) := dK_a_146.2.1
theorem dK_a_147 : dk_P cX10_spreadAt [(0, (.aload_n 0, 1)), (1, (.getfield 35, 3)), (4, (.aload_n 1, 1)), (5, (.aload_n 0, 1)), (6, (.getfield 72, 3)), (9, (.getfield 163, 3)), (12, (.aload_n 0, 1)), (13, (.getfield 72, 3))] := dk_of 0 (by decide +kernel)
theorem dX10_spreadAt_0 : decode cX10_spreadAt 0 = .ok (.aload_n 0, 1) := dK_a_147.1
theorem dX10_spreadAt_1 : decode cX10_spreadAt 1 = .ok (.getfield 35, 3) := dK_a_147.2.1
theorem dX10_spreadAt_4 : decode cX10_spreadAt 4 = .ok (.aload_n 1, 1) := dK_a_147.2.2.1
theorem dX10_spreadAt_5 : decode cX10_spreadAt 5 = .ok (.aload_n 0, 1) := dK_a_147.2.2.2.1
theorem dX10_spreadAt_6 : decode cX10_spreadAt 6 = .ok (.getfield 72, 3) := dK_a_147.2.2.2.2.1
theorem dX10_spreadAt_9 : decode cX10_spreadAt 9 = .ok (.getfield 163, 3) := dK_a_147.2.2.2.2.2.1
theorem dX10_spreadAt_12 : decode cX10_spreadAt 12 = .ok (.aload_n 0, 1) := dK_a_147.2.2.2.2.2.2.1
theorem dX10_spreadAt_13 : decode cX10_spreadAt 13 = .ok (.getfield 72, 3) := dK_a_147.2.2.2.2.2.2.2.1
theorem dK_a_148 : dk_P cX10_spreadAt [(16, (.getfield 157, 3)), (19, (.iload_n 2, 1)), (20, (.iconst 0, 1)), (21, (.invokevirtual 242, 3)), (24, (.return_, 1))] := dk_of 16 (by decide +kernel)
theorem dX10_spreadAt_16 : decode cX10_spreadAt 16 = .ok (.getfield 157, 3) := dK_a_148.1
theorem dX10_spreadAt_19 : decode cX10_spreadAt 19 = .ok (.iload_n 2, 1) := dK_a_148.2.1
theorem dX10_spreadAt_20 : decode cX10_spreadAt 20 = .ok (.iconst 0, 1) := dK_a_148.2.2.1
theorem dX10_spreadAt_21 : decode cX10_spreadAt 21 = .ok (.invokevirtual 242, 3) := dK_a_148.2.2.2.1
theorem dX10_spreadAt_24 : decode cX10_spreadAt 24 = .ok (.return_, 1) := dK_a_148.2.2.2.2.1
theorem dK_a_149 : dk_P cX10_off [(0, (.aload_n 0, 1)), (1, (.iload_n 1, 1)), (2, (.invokevirtual 93, 3)), (5, (.iload_n 2, 1)), (6, (.sipush (-300), 3)), (9, (.sipush 300, 3)), (12, (.invokestatic 104, 3)), (15, (.invokestatic 97, 3))] := dk_of 0 (by decide +kernel)
theorem dX10_off_0 : decode cX10_off 0 = .ok (.aload_n 0, 1) := dK_a_149.1
theorem dX10_off_1 : decode cX10_off 1 = .ok (.iload_n 1, 1) := dK_a_149.2.1
theorem dX10_off_2 : decode cX10_off 2 = .ok (.invokevirtual 93, 3) := dK_a_149.2.2.1
theorem dX10_off_5 : decode cX10_off 5 = .ok (.iload_n 2, 1) := dK_a_149.2.2.2.1
theorem dX10_off_6 : decode cX10_off 6 = .ok (.sipush (-300), 3) := dK_a_149.2.2.2.2.1
theorem dX10_off_9 : decode cX10_off 9 = .ok (.sipush 300, 3) := dK_a_149.2.2.2.2.2.1
theorem dX10_off_12 : decode cX10_off 12 = .ok (.invokestatic 104, 3) := dK_a_149.2.2.2.2.2.2.1
theorem dX10_off_15 : decode cX10_off 15 = .ok (.invokestatic 97, 3) := dK_a_149.2.2.2.2.2.2.2.1
theorem dK_a_150 : dk_P cX10_off [(18, (.iload_n 3, 1)), (19, (.invokestatic 246, 3)), (22, (.invokestatic 97, 3)), (25, (.istore 4, 2)), (27, (.iload 4, 2)), (29, (.ifCond .eq 15, 3)), (32, (.ldc2_w 249, 3)), (35, (.aload_n 0, 1))] := dk_of 18 (by decide +kernel)
theorem dX10_off_18 : decode cX10_off 18 = .ok (.iload_n 3, 1) := dK_a_150.1
theorem dX10_off_19 : decode cX10_off 19 = .ok (.invokestatic 246, 3) := dK_a_150.2.1
theorem dX10_off_22 : decode cX10_off 22 = .ok (.invokestatic 97, 3) := dK_a_150.2.2.1
theorem dX10_off_25 : decode cX10_off 25 = .ok (.istore 4, 2) := dK_a_150.2.2.2.1
theorem dX10_off_27 : decode cX10_off 27 = .ok (.iload 4, 2) := dK_a_150.2.2.2.2.1
theorem dX10_off_29 : decode cX10_off 29 = .ok (.ifCond .eq 15, 3) := dK_a_150.2.2.2.2.2.1
theorem dX10_off_32 : decode cX10_off 32 = .ok (.ldc2_w 249, 3) := dK_a_150.2.2.2.2.2.2.1
theorem dX10_off_35 : decode cX10_off 35 = .ok (.aload_n 0, 1) := dK_a_150.2.2.2.2.2.2.2.1
theorem dK_a_151 : dk_P cX10_off [(36, (.iload 4, 2)), (38, (.invokevirtual 111, 3)), (41, (.i2l, 1)), (42, (.lsub, 1)), (43, (.lreturn, 1)), (44, (.aload_n 0, 1)), (45, (.iload_n 1, 1)), (46, (.iload_n 2, 1))] := dk_of 36 (by decide +kernel)
theorem dX10_off_36 : decode cX10_off 36 = .ok (.iload 4, 2) := dK_a_151.1
theorem dX10_off_38 : decode cX10_off 38 = .ok (.invokevirtual 111, 3) := dK_a_151.2.1
theorem dX10_off_41 : decode cX10_off 41 = .ok (.i2l, 1) := dK_a_151.2.2.1
theorem dX10_off_42 : decode cX10_off 42 = .ok (.lsub, 1) := dK_a_151.2.2.2.1
theorem dX10_off_43 : decode cX10_off 43 = .ok (.lreturn, 1) := dK_a_151.2.2.2.2.1
theorem dX10_off_44 : decode cX10_off 44 = .ok (.aload_n 0, 1) := dK_a_151.2.2.2.2.2.1
theorem dX10_off_45 : decode cX10_off 45 = .ok (.iload_n 1, 1) := dK_a_151.2.2.2.2.2.2.1
theorem dX10_off_46 : decode cX10_off 46 = .ok (.iload_n 2, 1) := dK_a_151.2.2.2.2.2.2.2.1
theorem dK_a_152 : dk_P cX10_off [(47, (.invokevirtual 251, 3)), (50, (.aload_n 0, 1)), (51, (.getfield 35, 3)), (54, (.getfield 255, 3)), (57, (.aload_n 0, 1)), (58, (.getfield 35, 3)), (61, (.getfield 259, 3)), (64, (.iload_n 3, 1))] := dk_of 47 (by decide +kernel)
theorem dX10_off_47 : decode cX10_off 47 = .ok (.invokevirtual 251, 3) := dK_a_152.1
theorem dX10_off_50 : decode cX10_off 50 = .ok (.aload_n 0, 1) := dK_a_152.2.1
theorem dX10_off_51 : decode cX10_off 51 = .ok (.getfield 35, 3) := dK_a_152.2.2.1
theorem dX10_off_54 : decode cX10_off 54 = .ok (.getfield 255, 3) := dK_a_152.2.2.2.1
theorem dX10_off_57 : decode cX10_off 57 = .ok (.aload_n 0, 1) := dK_a_152.2.2.2.2.1
theorem dX10_off_58 : decode cX10_off 58 = .ok (.getfield 35, 3) := dK_a_152.2.2.2.2.2.1
theorem dX10_off_61 : decode cX10_off 61 = .ok (.getfield 259, 3) := dK_a_152.2.2.2.2.2.2.1
theorem dX10_off_64 : decode cX10_off 64 = .ok (.iload_n 3, 1) := dK_a_152.2.2.2.2.2.2.2.1
theorem dK_a_153 : dk_P cX10_off [(65, (.invokestatic 262, 3)), (68, (.lreturn, 1))] := dk_of 65 (by decide +kernel)
theorem dX10_off_65 : decode cX10_off 65 = .ok (.invokestatic 262, 3) := dK_a_153.1
theorem dX10_off_68 : decode cX10_off 68 = .ok (.lreturn, 1) := dK_a_153.2.1
theorem dK_a_154 : dk_P cX10_mean [(0, (.aload_n 0, 1)), (1, (.iload_n 1, 1)), (2, (.invokevirtual 93, 3)), (5, (.iload_n 2, 1)), (6, (.iconst 1, 1)), (7, (.invokestatic 101, 3)), (10, (.iload_n 3, 1)), (11, (.invokestatic 246, 3))] := dk_of 0 (by decide +kernel)
theorem dX10_mean_0 : decode cX10_mean 0 = .ok (.aload_n 0, 1) := dK_a_154.1
theorem dX10_mean_1 : decode cX10_mean 1 = .ok (.iload_n 1, 1) := dK_a_154.2.1
theorem dX10_mean_2 : decode cX10_mean 2 = .ok (.invokevirtual 93, 3) := dK_a_154.2.2.1
theorem dX10_mean_5 : decode cX10_mean 5 = .ok (.iload_n 2, 1) := dK_a_154.2.2.2.1
theorem dX10_mean_6 : decode cX10_mean 6 = .ok (.iconst 1, 1) := dK_a_154.2.2.2.2.1
theorem dX10_mean_7 : decode cX10_mean 7 = .ok (.invokestatic 101, 3) := dK_a_154.2.2.2.2.2.1
theorem dX10_mean_10 : decode cX10_mean 10 = .ok (.iload_n 3, 1) := dK_a_154.2.2.2.2.2.2.1
theorem dX10_mean_11 : decode cX10_mean 11 = .ok (.invokestatic 246, 3) := dK_a_154.2.2.2.2.2.2.2.1
theorem dK_a_155 : dk_P cX10_mean [(14, (.invokestatic 97, 3)), (17, (.invokestatic 97, 3)), (20, (.istore 4, 2)), (22, (.iload 4, 2)), (24, (.ifCond .eq 15, 3)), (27, (.ldc2_w 249, 3)), (30, (.aload_n 0, 1)), (31, (.iload 4, 2))] := dk_of 14 (by decide +kernel)
theorem dX10_mean_14 : decode cX10_mean 14 = .ok (.invokestatic 97, 3) := dK_a_155.1
theorem dX10_mean_17 : decode cX10_mean 17 = .ok (.invokestatic 97, 3) := dK_a_155.2.1
theorem dX10_mean_20 : decode cX10_mean 20 = .ok (.istore 4, 2) := dK_a_155.2.2.1
theorem dX10_mean_22 : decode cX10_mean 22 = .ok (.iload 4, 2) := dK_a_155.2.2.2.1
theorem dX10_mean_24 : decode cX10_mean 24 = .ok (.ifCond .eq 15, 3) := dK_a_155.2.2.2.2.1
theorem dX10_mean_27 : decode cX10_mean 27 = .ok (.ldc2_w 249, 3) := dK_a_155.2.2.2.2.2.1
theorem dX10_mean_30 : decode cX10_mean 30 = .ok (.aload_n 0, 1) := dK_a_155.2.2.2.2.2.2.1
theorem dX10_mean_31 : decode cX10_mean 31 = .ok (.iload 4, 2) := dK_a_155.2.2.2.2.2.2.2.1
theorem dK_a_156 : dk_P cX10_mean [(33, (.invokevirtual 111, 3)), (36, (.i2l, 1)), (37, (.lsub, 1)), (38, (.lreturn, 1)), (39, (.aload_n 0, 1)), (40, (.iload_n 1, 1)), (41, (.iconst 0, 1)), (42, (.invokevirtual 251, 3))] := dk_of 33 (by decide +kernel)
theorem dX10_mean_33 : decode cX10_mean 33 = .ok (.invokevirtual 111, 3) := dK_a_156.1
theorem dX10_mean_36 : decode cX10_mean 36 = .ok (.i2l, 1) := dK_a_156.2.1
theorem dX10_mean_37 : decode cX10_mean 37 = .ok (.lsub, 1) := dK_a_156.2.2.1
theorem dX10_mean_38 : decode cX10_mean 38 = .ok (.lreturn, 1) := dK_a_156.2.2.2.1
theorem dX10_mean_39 : decode cX10_mean 39 = .ok (.aload_n 0, 1) := dK_a_156.2.2.2.2.1
theorem dX10_mean_40 : decode cX10_mean 40 = .ok (.iload_n 1, 1) := dK_a_156.2.2.2.2.2.1
theorem dX10_mean_41 : decode cX10_mean 41 = .ok (.iconst 0, 1) := dK_a_156.2.2.2.2.2.2.1
theorem dX10_mean_42 : decode cX10_mean 42 = .ok (.invokevirtual 251, 3) := dK_a_156.2.2.2.2.2.2.2.1
theorem dK_a_157 : dk_P cX10_mean [(45, (.iload_n 2, 1)), (46, (.ifCond .ne 13, 3)), (49, (.aload_n 0, 1)), (50, (.getfield 35, 3)), (53, (.getfield 266, 3)), (56, (.goto 10, 3)), (59, (.aload_n 0, 1)), (60, (.getfield 35, 3))] := dk_of 45 (by decide +kernel)
theorem dX10_mean_45 : decode cX10_mean 45 = .ok (.iload_n 2, 1) := dK_a_157.1
theorem dX10_mean_46 : decode cX10_mean 46 = .ok (.ifCond .ne 13, 3) := dK_a_157.2.1
theorem dX10_mean_49 : decode cX10_mean 49 = .ok (.aload_n 0, 1) := dK_a_157.2.2.1
theorem dX10_mean_50 : decode cX10_mean 50 = .ok (.getfield 35, 3) := dK_a_157.2.2.2.1
theorem dX10_mean_53 : decode cX10_mean 53 = .ok (.getfield 266, 3) := dK_a_157.2.2.2.2.1
theorem dX10_mean_56 : decode cX10_mean 56 = .ok (.goto 10, 3) := dK_a_157.2.2.2.2.2.1
theorem dX10_mean_59 : decode cX10_mean 59 = .ok (.aload_n 0, 1) := dK_a_157.2.2.2.2.2.2.1
theorem dX10_mean_60 : decode cX10_mean 60 = .ok (.getfield 35, 3) := dK_a_157.2.2.2.2.2.2.2.1
theorem dK_a_158 : dk_P cX10_mean [(63, (.invokevirtual 269, 3)), (66, (.aload_n 0, 1)), (67, (.getfield 35, 3)), (70, (.getfield 259, 3)), (73, (.iload_n 3, 1)), (74, (.invokestatic 262, 3)), (77, (.lreturn, 1))] := dk_of 63 (by decide +kernel)
theorem dX10_mean_63 : decode cX10_mean 63 = .ok (.invokevirtual 269, 3) := dK_a_158.1
theorem dX10_mean_66 : decode cX10_mean 66 = .ok (.aload_n 0, 1) := dK_a_158.2.1
theorem dX10_mean_67 : decode cX10_mean 67 = .ok (.getfield 35, 3) := dK_a_158.2.2.1
theorem dX10_mean_70 : decode cX10_mean 70 = .ok (.getfield 259, 3) := dK_a_158.2.2.2.1
theorem dX10_mean_73 : decode cX10_mean 73 = .ok (.iload_n 3, 1) := dK_a_158.2.2.2.2.1
theorem dX10_mean_74 : decode cX10_mean 74 = .ok (.invokestatic 262, 3) := dK_a_158.2.2.2.2.2.1
theorem dX10_mean_77 : decode cX10_mean 77 = .ok (.lreturn, 1) := dK_a_158.2.2.2.2.2.2.1
theorem dK_a_159 : dk_P cX10_past [(0, (.aload_n 0, 1)), (1, (.iload_n 1, 1)), (2, (.invokevirtual 93, 3)), (5, (.iload_n 2, 1)), (6, (.iconst 0, 1)), (7, (.sipush 999, 3)), (10, (.invokestatic 104, 3)), (13, (.invokestatic 97, 3))] := dk_of 0 (by decide +kernel)
theorem dX10_past_0 : decode cX10_past 0 = .ok (.aload_n 0, 1) := dK_a_159.1
theorem dX10_past_1 : decode cX10_past 1 = .ok (.iload_n 1, 1) := dK_a_159.2.1
theorem dX10_past_2 : decode cX10_past 2 = .ok (.invokevirtual 93, 3) := dK_a_159.2.2.1
theorem dX10_past_5 : decode cX10_past 5 = .ok (.iload_n 2, 1) := dK_a_159.2.2.2.1
theorem dX10_past_6 : decode cX10_past 6 = .ok (.iconst 0, 1) := dK_a_159.2.2.2.2.1
theorem dX10_past_7 : decode cX10_past 7 = .ok (.sipush 999, 3) := dK_a_159.2.2.2.2.2.1
theorem dX10_past_10 : decode cX10_past 10 = .ok (.invokestatic 104, 3) := dK_a_159.2.2.2.2.2.2.1
theorem dX10_past_13 : decode cX10_past 13 = .ok (.invokestatic 97, 3) := dK_a_159.2.2.2.2.2.2.2.1
theorem dK_a_160 : dk_P cX10_past [(16, (.iload_n 3, 1)), (17, (.invokestatic 246, 3)), (20, (.invokestatic 97, 3)), (23, (.istore 4, 2)), (25, (.iload 4, 2)), (27, (.ifCond .eq 15, 3)), (30, (.ldc2_w 249, 3)), (33, (.aload_n 0, 1))] := dk_of 16 (by decide +kernel)
theorem dX10_past_16 : decode cX10_past 16 = .ok (.iload_n 3, 1) := dK_a_160.1
theorem dX10_past_17 : decode cX10_past 17 = .ok (.invokestatic 246, 3) := dK_a_160.2.1
theorem dX10_past_20 : decode cX10_past 20 = .ok (.invokestatic 97, 3) := dK_a_160.2.2.1
theorem dX10_past_23 : decode cX10_past 23 = .ok (.istore 4, 2) := dK_a_160.2.2.2.1
theorem dX10_past_25 : decode cX10_past 25 = .ok (.iload 4, 2) := dK_a_160.2.2.2.2.1
theorem dX10_past_27 : decode cX10_past 27 = .ok (.ifCond .eq 15, 3) := dK_a_160.2.2.2.2.2.1
theorem dX10_past_30 : decode cX10_past 30 = .ok (.ldc2_w 249, 3) := dK_a_160.2.2.2.2.2.2.1
theorem dX10_past_33 : decode cX10_past 33 = .ok (.aload_n 0, 1) := dK_a_160.2.2.2.2.2.2.2.1
theorem dK_a_161 : dk_P cX10_past [(34, (.iload 4, 2)), (36, (.invokevirtual 111, 3)), (39, (.i2l, 1)), (40, (.lsub, 1)), (41, (.lreturn, 1)), (42, (.aload_n 0, 1)), (43, (.iload_n 1, 1)), (44, (.iconst 0, 1))] := dk_of 34 (by decide +kernel)
theorem dX10_past_34 : decode cX10_past 34 = .ok (.iload 4, 2) := dK_a_161.1
theorem dX10_past_36 : decode cX10_past 36 = .ok (.invokevirtual 111, 3) := dK_a_161.2.1
theorem dX10_past_39 : decode cX10_past 39 = .ok (.i2l, 1) := dK_a_161.2.2.1
theorem dX10_past_40 : decode cX10_past 40 = .ok (.lsub, 1) := dK_a_161.2.2.2.1
theorem dX10_past_41 : decode cX10_past 41 = .ok (.lreturn, 1) := dK_a_161.2.2.2.2.1
theorem dX10_past_42 : decode cX10_past 42 = .ok (.aload_n 0, 1) := dK_a_161.2.2.2.2.2.1
theorem dX10_past_43 : decode cX10_past 43 = .ok (.iload_n 1, 1) := dK_a_161.2.2.2.2.2.2.1
theorem dX10_past_44 : decode cX10_past 44 = .ok (.iconst 0, 1) := dK_a_161.2.2.2.2.2.2.2.1
theorem dK_a_162 : dk_P cX10_past [(45, (.invokevirtual 251, 3)), (48, (.aload_n 0, 1)), (49, (.getfield 35, 3)), (52, (.iload_n 2, 1)), (53, (.invokevirtual 273, 3)), (56, (.aload_n 0, 1)), (57, (.getfield 35, 3)), (60, (.getfield 259, 3))] := dk_of 45 (by decide +kernel)
theorem dX10_past_45 : decode cX10_past 45 = .ok (.invokevirtual 251, 3) := dK_a_162.1
theorem dX10_past_48 : decode cX10_past 48 = .ok (.aload_n 0, 1) := dK_a_162.2.1
theorem dX10_past_49 : decode cX10_past 49 = .ok (.getfield 35, 3) := dK_a_162.2.2.1
theorem dX10_past_52 : decode cX10_past 52 = .ok (.iload_n 2, 1) := dK_a_162.2.2.2.1
theorem dX10_past_53 : decode cX10_past 53 = .ok (.invokevirtual 273, 3) := dK_a_162.2.2.2.2.1
theorem dX10_past_56 : decode cX10_past 56 = .ok (.aload_n 0, 1) := dK_a_162.2.2.2.2.2.1
theorem dX10_past_57 : decode cX10_past 57 = .ok (.getfield 35, 3) := dK_a_162.2.2.2.2.2.2.1
theorem dX10_past_60 : decode cX10_past 60 = .ok (.getfield 259, 3) := dK_a_162.2.2.2.2.2.2.2.1
theorem dK_a_163 : dk_P cX10_past [(63, (.iload_n 3, 1)), (64, (.invokestatic 262, 3)), (67, (.lreturn, 1))] := dk_of 63 (by decide +kernel)
theorem dX10_past_63 : decode cX10_past 63 = .ok (.iload_n 3, 1) := dK_a_163.1
theorem dX10_past_64 : decode cX10_past 64 = .ok (.invokestatic 262, 3) := dK_a_163.2.1
theorem dX10_past_67 : decode cX10_past 67 = .ok (.lreturn, 1) := dK_a_163.2.2.1
theorem dK_a_164 : dk_P cX10_bestLook [(0, (.aload_n 0, 1)), (1, (.iload_n 1, 1)), (2, (.invokevirtual 93, 3)), (5, (.istore_n 2, 1)), (6, (.iload_n 2, 1)), (7, (.ifCond .eq 9, 3)), (10, (.aload_n 0, 1)), (11, (.iload_n 2, 1))] := dk_of 0 (by decide +kernel)
theorem dX10_bestLook_0 : decode cX10_bestLook 0 = .ok (.aload_n 0, 1) := dK_a_164.1
theorem dX10_bestLook_1 : decode cX10_bestLook 1 = .ok (.iload_n 1, 1) := dK_a_164.2.1
theorem dX10_bestLook_2 : decode cX10_bestLook 2 = .ok (.invokevirtual 93, 3) := dK_a_164.2.2.1
theorem dX10_bestLook_5 : decode cX10_bestLook 5 = .ok (.istore_n 2, 1) := dK_a_164.2.2.2.1
theorem dX10_bestLook_6 : decode cX10_bestLook 6 = .ok (.iload_n 2, 1) := dK_a_164.2.2.2.2.1
theorem dX10_bestLook_7 : decode cX10_bestLook 7 = .ok (.ifCond .eq 9, 3) := dK_a_164.2.2.2.2.2.1
theorem dX10_bestLook_10 : decode cX10_bestLook 10 = .ok (.aload_n 0, 1) := dK_a_164.2.2.2.2.2.2.1
theorem dX10_bestLook_11 : decode cX10_bestLook 11 = .ok (.iload_n 2, 1) := dK_a_164.2.2.2.2.2.2.2.1
theorem dK_a_165 : dk_P cX10_bestLook [(12, (.invokevirtual 111, 3)), (15, (.ireturn, 1)), (16, (.aload_n 0, 1)), (17, (.getfield 85, 3)), (20, (.aload_n 0, 1)), (21, (.getfield 72, 3)), (24, (.iload_n 1, 1)), (25, (.invokevirtual 169, 3))] := dk_of 12 (by decide +kernel)
theorem dX10_bestLook_12 : decode cX10_bestLook 12 = .ok (.invokevirtual 111, 3) := dK_a_165.1
theorem dX10_bestLook_15 : decode cX10_bestLook 15 = .ok (.ireturn, 1) := dK_a_165.2.1
theorem dX10_bestLook_16 : decode cX10_bestLook 16 = .ok (.aload_n 0, 1) := dK_a_165.2.2.1
theorem dX10_bestLook_17 : decode cX10_bestLook 17 = .ok (.getfield 85, 3) := dK_a_165.2.2.2.1
theorem dX10_bestLook_20 : decode cX10_bestLook 20 = .ok (.aload_n 0, 1) := dK_a_165.2.2.2.2.1
theorem dX10_bestLook_21 : decode cX10_bestLook 21 = .ok (.getfield 72, 3) := dK_a_165.2.2.2.2.2.1
theorem dX10_bestLook_24 : decode cX10_bestLook 24 = .ok (.iload_n 1, 1) := dK_a_165.2.2.2.2.2.2.1
theorem dX10_bestLook_25 : decode cX10_bestLook 25 = .ok (.invokevirtual 169, 3) := dK_a_165.2.2.2.2.2.2.2.1
theorem dK_a_166 : dk_P cX10_bestLook [(28, (.invokevirtual 277, 3)), (31, (.aload_n 0, 1)), (32, (.iload_n 1, 1)), (33, (.invokevirtual 229, 3)), (36, (.istore_n 3, 1)), (37, (.iconst 0, 1)), (38, (.istore 4, 2)), (40, (.ldc2_w 280, 3))] := dk_of 28 (by decide +kernel)
theorem dX10_bestLook_28 : decode cX10_bestLook 28 = .ok (.invokevirtual 277, 3) := dK_a_166.1
theorem dX10_bestLook_31 : decode cX10_bestLook 31 = .ok (.aload_n 0, 1) := dK_a_166.2.1
theorem dX10_bestLook_32 : decode cX10_bestLook 32 = .ok (.iload_n 1, 1) := dK_a_166.2.2.1
theorem dX10_bestLook_33 : decode cX10_bestLook 33 = .ok (.invokevirtual 229, 3) := dK_a_166.2.2.2.1
theorem dX10_bestLook_36 : decode cX10_bestLook 36 = .ok (.istore_n 3, 1) := dK_a_166.2.2.2.2.1
theorem dX10_bestLook_37 : decode cX10_bestLook 37 = .ok (.iconst 0, 1) := dK_a_166.2.2.2.2.2.1
theorem dX10_bestLook_38 : decode cX10_bestLook 38 = .ok (.istore 4, 2) := dK_a_166.2.2.2.2.2.2.1
theorem dX10_bestLook_40 : decode cX10_bestLook 40 = .ok (.ldc2_w 280, 3) := dK_a_166.2.2.2.2.2.2.2.1
theorem dK_a_167 : dk_P cX10_bestLook [(43, (.lstore 5, 2)), (45, (.iconst 0, 1)), (46, (.istore 7, 2)), (48, (.iload 7, 2)), (50, (.iconst 4, 1)), (51, (.if_icmp .gt 52, 3)), (54, (.aload_n 0, 1)), (55, (.getfield 85, 3))] := dk_of 43 (by decide +kernel)
theorem dX10_bestLook_43 : decode cX10_bestLook 43 = .ok (.lstore 5, 2) := dK_a_167.1
theorem dX10_bestLook_45 : decode cX10_bestLook 45 = .ok (.iconst 0, 1) := dK_a_167.2.1
theorem dX10_bestLook_46 : decode cX10_bestLook 46 = .ok (.istore 7, 2) := dK_a_167.2.2.1
theorem dX10_bestLook_48 : decode cX10_bestLook 48 = .ok (.iload 7, 2) := dK_a_167.2.2.2.1
theorem dX10_bestLook_50 : decode cX10_bestLook 50 = .ok (.iconst 4, 1) := dK_a_167.2.2.2.2.1
theorem dX10_bestLook_51 : decode cX10_bestLook 51 = .ok (.if_icmp .gt 52, 3) := dK_a_167.2.2.2.2.2.1
theorem dX10_bestLook_54 : decode cX10_bestLook 54 = .ok (.aload_n 0, 1) := dK_a_167.2.2.2.2.2.2.1
theorem dX10_bestLook_55 : decode cX10_bestLook 55 = .ok (.getfield 85, 3) := dK_a_167.2.2.2.2.2.2.2.1
theorem dK_a_168 : dk_P cX10_bestLook [(58, (.iload 7, 2)), (60, (.putfield 195, 3)), (63, (.aload_n 0, 1)), (64, (.aload_n 0, 1)), (65, (.getfield 85, 3)), (68, (.iload_n 3, 1)), (69, (.invokevirtual 282, 3)), (72, (.aload_n 0, 1))] := dk_of 58 (by decide +kernel)
theorem dX10_bestLook_58 : decode cX10_bestLook 58 = .ok (.iload 7, 2) := dK_a_168.1
theorem dX10_bestLook_60 : decode cX10_bestLook 60 = .ok (.putfield 195, 3) := dK_a_168.2.1
theorem dX10_bestLook_63 : decode cX10_bestLook 63 = .ok (.aload_n 0, 1) := dK_a_168.2.2.1
theorem dX10_bestLook_64 : decode cX10_bestLook 64 = .ok (.aload_n 0, 1) := dK_a_168.2.2.2.1
theorem dX10_bestLook_65 : decode cX10_bestLook 65 = .ok (.getfield 85, 3) := dK_a_168.2.2.2.2.1
theorem dX10_bestLook_68 : decode cX10_bestLook 68 = .ok (.iload_n 3, 1) := dK_a_168.2.2.2.2.2.1
theorem dX10_bestLook_69 : decode cX10_bestLook 69 = .ok (.invokevirtual 282, 3) := dK_a_168.2.2.2.2.2.2.1
theorem dX10_bestLook_72 : decode cX10_bestLook 72 = .ok (.aload_n 0, 1) := dK_a_168.2.2.2.2.2.2.2.1
theorem dK_a_169 : dk_P cX10_bestLook [(73, (.getfield 35, 3)), (76, (.invokevirtual 269, 3)), (79, (.lstore 8, 2)), (81, (.lload 8, 2)), (83, (.lload 5, 2)), (85, (.lcmp, 1)), (86, (.ifCond .le 11, 3)), (89, (.lload 8, 2))] := dk_of 73 (by decide +kernel)
theorem dX10_bestLook_73 : decode cX10_bestLook 73 = .ok (.getfield 35, 3) := dK_a_169.1
theorem dX10_bestLook_76 : decode cX10_bestLook 76 = .ok (.invokevirtual 269, 3) := dK_a_169.2.1
theorem dX10_bestLook_79 : decode cX10_bestLook 79 = .ok (.lstore 8, 2) := dK_a_169.2.2.1
theorem dX10_bestLook_81 : decode cX10_bestLook 81 = .ok (.lload 8, 2) := dK_a_169.2.2.2.1
theorem dX10_bestLook_83 : decode cX10_bestLook 83 = .ok (.lload 5, 2) := dK_a_169.2.2.2.2.1
theorem dX10_bestLook_85 : decode cX10_bestLook 85 = .ok (.lcmp, 1) := dK_a_169.2.2.2.2.2.1
theorem dX10_bestLook_86 : decode cX10_bestLook 86 = .ok (.ifCond .le 11, 3) := dK_a_169.2.2.2.2.2.2.1
theorem dX10_bestLook_89 : decode cX10_bestLook 89 = .ok (.lload 8, 2) := dK_a_169.2.2.2.2.2.2.2.1
theorem dK_a_170 : dk_P cX10_bestLook [(91, (.lstore 5, 2)), (93, (.iload 7, 2)), (95, (.istore 4, 2)), (97, (.iinc 7 1, 3)), (100, (.goto (-52), 3)), (103, (.iload 4, 2)), (105, (.ireturn, 1))] := dk_of 91 (by decide +kernel)
theorem dX10_bestLook_91 : decode cX10_bestLook 91 = .ok (.lstore 5, 2) := dK_a_170.1
theorem dX10_bestLook_93 : decode cX10_bestLook 93 = .ok (.iload 7, 2) := dK_a_170.2.1
theorem dX10_bestLook_95 : decode cX10_bestLook 95 = .ok (.istore 4, 2) := dK_a_170.2.2.1
theorem dX10_bestLook_97 : decode cX10_bestLook 97 = .ok (.iinc 7 1, 3) := dK_a_170.2.2.2.1
theorem dX10_bestLook_100 : decode cX10_bestLook 100 = .ok (.goto (-52), 3) := dK_a_170.2.2.2.2.1
theorem dX10_bestLook_103 : decode cX10_bestLook 103 = .ok (.iload 4, 2) := dK_a_170.2.2.2.2.2.1
theorem dX10_bestLook_105 : decode cX10_bestLook 105 = .ok (.ireturn, 1) := dK_a_170.2.2.2.2.2.2.1
theorem dK_a_171 : dk_P cX10_bestMark [(0, (.aload_n 0, 1)), (1, (.iload_n 1, 1)), (2, (.invokevirtual 93, 3)), (5, (.iload_n 2, 1)), (6, (.iconst (-1), 1)), (7, (.sipush 999, 3)), (10, (.invokestatic 104, 3)), (13, (.invokestatic 97, 3))] := dk_of 0 (by decide +kernel)
theorem dX10_bestMark_0 : decode cX10_bestMark 0 = .ok (.aload_n 0, 1) := dK_a_171.1
theorem dX10_bestMark_1 : decode cX10_bestMark 1 = .ok (.iload_n 1, 1) := dK_a_171.2.1
theorem dX10_bestMark_2 : decode cX10_bestMark 2 = .ok (.invokevirtual 93, 3) := dK_a_171.2.2.1
theorem dX10_bestMark_5 : decode cX10_bestMark 5 = .ok (.iload_n 2, 1) := dK_a_171.2.2.2.1
theorem dX10_bestMark_6 : decode cX10_bestMark 6 = .ok (.iconst (-1), 1) := dK_a_171.2.2.2.2.1
theorem dX10_bestMark_7 : decode cX10_bestMark 7 = .ok (.sipush 999, 3) := dK_a_171.2.2.2.2.2.1
theorem dX10_bestMark_10 : decode cX10_bestMark 10 = .ok (.invokestatic 104, 3) := dK_a_171.2.2.2.2.2.2.1
theorem dX10_bestMark_13 : decode cX10_bestMark 13 = .ok (.invokestatic 97, 3) := dK_a_171.2.2.2.2.2.2.2.1
theorem dK_a_172 : dk_P cX10_bestMark [(16, (.istore_n 3, 1)), (17, (.iload_n 3, 1)), (18, (.ifCond .eq 9, 3)), (21, (.aload_n 0, 1)), (22, (.iload_n 3, 1)), (23, (.invokevirtual 111, 3)), (26, (.ireturn, 1)), (27, (.aload_n 0, 1))] := dk_of 16 (by decide +kernel)
theorem dX10_bestMark_16 : decode cX10_bestMark 16 = .ok (.istore_n 3, 1) := dK_a_172.1
theorem dX10_bestMark_17 : decode cX10_bestMark 17 = .ok (.iload_n 3, 1) := dK_a_172.2.1
theorem dX10_bestMark_18 : decode cX10_bestMark 18 = .ok (.ifCond .eq 9, 3) := dK_a_172.2.2.1
theorem dX10_bestMark_21 : decode cX10_bestMark 21 = .ok (.aload_n 0, 1) := dK_a_172.2.2.2.1
theorem dX10_bestMark_22 : decode cX10_bestMark 22 = .ok (.iload_n 3, 1) := dK_a_172.2.2.2.2.1
theorem dX10_bestMark_23 : decode cX10_bestMark 23 = .ok (.invokevirtual 111, 3) := dK_a_172.2.2.2.2.2.1
theorem dX10_bestMark_26 : decode cX10_bestMark 26 = .ok (.ireturn, 1) := dK_a_172.2.2.2.2.2.2.1
theorem dX10_bestMark_27 : decode cX10_bestMark 27 = .ok (.aload_n 0, 1) := dK_a_172.2.2.2.2.2.2.2.1
theorem dK_a_173 : dk_P cX10_bestMark [(28, (.getfield 72, 3)), (31, (.iload_n 1, 1)), (32, (.invokevirtual 169, 3)), (35, (.astore 4, 2)), (37, (.aload 4, 2)), (39, (.aload_n 0, 1)), (40, (.getfield 72, 3)), (43, (.getfield 163, 3))] := dk_of 28 (by decide +kernel)
theorem dX10_bestMark_28 : decode cX10_bestMark 28 = .ok (.getfield 72, 3) := dK_a_173.1
theorem dX10_bestMark_31 : decode cX10_bestMark 31 = .ok (.iload_n 1, 1) := dK_a_173.2.1
theorem dX10_bestMark_32 : decode cX10_bestMark 32 = .ok (.invokevirtual 169, 3) := dK_a_173.2.2.1
theorem dX10_bestMark_35 : decode cX10_bestMark 35 = .ok (.astore 4, 2) := dK_a_173.2.2.2.1
theorem dX10_bestMark_37 : decode cX10_bestMark 37 = .ok (.aload 4, 2) := dK_a_173.2.2.2.2.1
theorem dX10_bestMark_39 : decode cX10_bestMark 39 = .ok (.aload_n 0, 1) := dK_a_173.2.2.2.2.2.1
theorem dX10_bestMark_40 : decode cX10_bestMark 40 = .ok (.getfield 72, 3) := dK_a_173.2.2.2.2.2.2.1
theorem dX10_bestMark_43 : decode cX10_bestMark 43 = .ok (.getfield 163, 3) := dK_a_173.2.2.2.2.2.2.2.1
theorem dK_a_174 : dk_P cX10_bestMark [(46, (.aload_n 0, 1)), (47, (.getfield 72, 3)), (50, (.getfield 157, 3)), (53, (.invokevirtual 232, 3)), (56, (.istore 5, 2)), (58, (.aload 4, 2)), (60, (.getfield 198, 3)), (63, (.istore 6, 2))] := dk_of 46 (by decide +kernel)
theorem dX10_bestMark_46 : decode cX10_bestMark 46 = .ok (.aload_n 0, 1) := dK_a_174.1
theorem dX10_bestMark_47 : decode cX10_bestMark 47 = .ok (.getfield 72, 3) := dK_a_174.2.1
theorem dX10_bestMark_50 : decode cX10_bestMark 50 = .ok (.getfield 157, 3) := dK_a_174.2.2.1
theorem dX10_bestMark_53 : decode cX10_bestMark 53 = .ok (.invokevirtual 232, 3) := dK_a_174.2.2.2.1
theorem dX10_bestMark_56 : decode cX10_bestMark 56 = .ok (.istore 5, 2) := dK_a_174.2.2.2.2.1
theorem dX10_bestMark_58 : decode cX10_bestMark 58 = .ok (.aload 4, 2) := dK_a_174.2.2.2.2.2.1
theorem dX10_bestMark_60 : decode cX10_bestMark 60 = .ok (.getfield 198, 3) := dK_a_174.2.2.2.2.2.2.1
theorem dX10_bestMark_63 : decode cX10_bestMark 63 = .ok (.istore 6, 2) := dK_a_174.2.2.2.2.2.2.2.1
theorem dK_a_175 : dk_P cX10_bestMark [(65, (.ldc2_w 280, 3)), (68, (.lstore 7, 2)), (70, (.iconst 0, 1)), (71, (.aload 4, 2)), (73, (.getfield 198, 3)), (76, (.bipush 40, 2)), (78, (.isub, 1)), (79, (.invokestatic 286, 3))] := dk_of 65 (by decide +kernel)
theorem dX10_bestMark_65 : decode cX10_bestMark 65 = .ok (.ldc2_w 280, 3) := dK_a_175.1
theorem dX10_bestMark_68 : decode cX10_bestMark 68 = .ok (.lstore 7, 2) := dK_a_175.2.1
theorem dX10_bestMark_70 : decode cX10_bestMark 70 = .ok (.iconst 0, 1) := dK_a_175.2.2.1
theorem dX10_bestMark_71 : decode cX10_bestMark 71 = .ok (.aload 4, 2) := dK_a_175.2.2.2.1
theorem dX10_bestMark_73 : decode cX10_bestMark 73 = .ok (.getfield 198, 3) := dK_a_175.2.2.2.2.1
theorem dX10_bestMark_76 : decode cX10_bestMark 76 = .ok (.bipush 40, 2) := dK_a_175.2.2.2.2.2.1
theorem dX10_bestMark_78 : decode cX10_bestMark 78 = .ok (.isub, 1) := dK_a_175.2.2.2.2.2.2.1
theorem dX10_bestMark_79 : decode cX10_bestMark 79 = .ok (.invokestatic 286, 3) := dK_a_175.2.2.2.2.2.2.2.1
theorem dK_a_176 : dk_P cX10_bestMark [(82, (.istore 9, 2)), (84, (.iload 9, 2)), (86, (.sipush 2400, 3)), (89, (.aload 4, 2)), (91, (.getfield 198, 3)), (94, (.bipush 40, 2)), (96, (.iadd, 1)), (97, (.invokestatic 291, 3))] := dk_of 82 (by decide +kernel)
theorem dX10_bestMark_82 : decode cX10_bestMark 82 = .ok (.istore 9, 2) := dK_a_176.1
theorem dX10_bestMark_84 : decode cX10_bestMark 84 = .ok (.iload 9, 2) := dK_a_176.2.1
theorem dX10_bestMark_86 : decode cX10_bestMark 86 = .ok (.sipush 2400, 3) := dK_a_176.2.2.1
theorem dX10_bestMark_89 : decode cX10_bestMark 89 = .ok (.aload 4, 2) := dK_a_176.2.2.2.1
theorem dX10_bestMark_91 : decode cX10_bestMark 91 = .ok (.getfield 198, 3) := dK_a_176.2.2.2.2.1
theorem dX10_bestMark_94 : decode cX10_bestMark 94 = .ok (.bipush 40, 2) := dK_a_176.2.2.2.2.2.1
theorem dX10_bestMark_96 : decode cX10_bestMark 96 = .ok (.iadd, 1) := dK_a_176.2.2.2.2.2.2.1
theorem dX10_bestMark_97 : decode cX10_bestMark 97 = .ok (.invokestatic 291, 3) := dK_a_176.2.2.2.2.2.2.2.1
theorem dK_a_177 : dk_P cX10_bestMark [(100, (.if_icmp .gt 60, 3)), (103, (.aload_n 0, 1)), (104, (.aload 4, 2)), (106, (.iload 9, 2)), (108, (.iload 5, 2)), (110, (.isub, 1)), (111, (.invokevirtual 282, 3)), (114, (.iload_n 2, 1))] := dk_of 100 (by decide +kernel)
theorem dX10_bestMark_100 : decode cX10_bestMark 100 = .ok (.if_icmp .gt 60, 3) := dK_a_177.1
theorem dX10_bestMark_103 : decode cX10_bestMark 103 = .ok (.aload_n 0, 1) := dK_a_177.2.1
theorem dX10_bestMark_104 : decode cX10_bestMark 104 = .ok (.aload 4, 2) := dK_a_177.2.2.1
theorem dX10_bestMark_106 : decode cX10_bestMark 106 = .ok (.iload 9, 2) := dK_a_177.2.2.2.1
theorem dX10_bestMark_108 : decode cX10_bestMark 108 = .ok (.iload 5, 2) := dK_a_177.2.2.2.2.1
theorem dX10_bestMark_110 : decode cX10_bestMark 110 = .ok (.isub, 1) := dK_a_177.2.2.2.2.2.1
theorem dX10_bestMark_111 : decode cX10_bestMark 111 = .ok (.invokevirtual 282, 3) := dK_a_177.2.2.2.2.2.2.1
theorem dX10_bestMark_114 : decode cX10_bestMark 114 = .ok (.iload_n 2, 1) := dK_a_177.2.2.2.2.2.2.2.1
theorem dK_a_178 : dk_P cX10_bestMark [(115, (.ifCond .ge 13, 3)), (118, (.aload_n 0, 1)), (119, (.getfield 35, 3)), (122, (.invokevirtual 269, 3)), (125, (.goto 11, 3)), (128, (.aload_n 0, 1)), (129, (.getfield 35, 3)), (132, (.iload_n 2, 1))] := dk_of 115 (by decide +kernel)
theorem dX10_bestMark_115 : decode cX10_bestMark 115 = .ok (.ifCond .ge 13, 3) := dK_a_178.1
theorem dX10_bestMark_118 : decode cX10_bestMark 118 = .ok (.aload_n 0, 1) := dK_a_178.2.1
theorem dX10_bestMark_119 : decode cX10_bestMark 119 = .ok (.getfield 35, 3) := dK_a_178.2.2.1
theorem dX10_bestMark_122 : decode cX10_bestMark 122 = .ok (.invokevirtual 269, 3) := dK_a_178.2.2.2.1
theorem dX10_bestMark_125 : decode cX10_bestMark 125 = .ok (.goto 11, 3) := dK_a_178.2.2.2.2.1
theorem dX10_bestMark_128 : decode cX10_bestMark 128 = .ok (.aload_n 0, 1) := dK_a_178.2.2.2.2.2.1
theorem dX10_bestMark_129 : decode cX10_bestMark 129 = .ok (.getfield 35, 3) := dK_a_178.2.2.2.2.2.2.1
theorem dX10_bestMark_132 : decode cX10_bestMark 132 = .ok (.iload_n 2, 1) := dK_a_178.2.2.2.2.2.2.2.1
theorem dK_a_179 : dk_P cX10_bestMark [(133, (.invokevirtual 273, 3)), (136, (.lstore 10, 2)), (138, (.lload 10, 2)), (140, (.lload 7, 2)), (142, (.lcmp, 1)), (143, (.ifCond .le 11, 3)), (146, (.lload 10, 2)), (148, (.lstore 7, 2))] := dk_of 133 (by decide +kernel)
theorem dX10_bestMark_133 : decode cX10_bestMark 133 = .ok (.invokevirtual 273, 3) := dK_a_179.1
theorem dX10_bestMark_136 : decode cX10_bestMark 136 = .ok (.lstore 10, 2) := dK_a_179.2.1
theorem dX10_bestMark_138 : decode cX10_bestMark 138 = .ok (.lload 10, 2) := dK_a_179.2.2.1
theorem dX10_bestMark_140 : decode cX10_bestMark 140 = .ok (.lload 7, 2) := dK_a_179.2.2.2.1
theorem dX10_bestMark_142 : decode cX10_bestMark 142 = .ok (.lcmp, 1) := dK_a_179.2.2.2.2.1
theorem dX10_bestMark_143 : decode cX10_bestMark 143 = .ok (.ifCond .le 11, 3) := dK_a_179.2.2.2.2.2.1
theorem dX10_bestMark_146 : decode cX10_bestMark 146 = .ok (.lload 10, 2) := dK_a_179.2.2.2.2.2.2.1
theorem dX10_bestMark_148 : decode cX10_bestMark 148 = .ok (.lstore 7, 2) := dK_a_179.2.2.2.2.2.2.2.1
theorem dK_a_180 : dk_P cX10_bestMark [(150, (.iload 9, 2)), (152, (.istore 6, 2)), (154, (.iinc 9 1, 3)), (157, (.goto (-73), 3)), (160, (.iload 6, 2)), (162, (.ireturn, 1))] := dk_of 150 (by decide +kernel)
theorem dX10_bestMark_150 : decode cX10_bestMark 150 = .ok (.iload 9, 2) := dK_a_180.1
theorem dX10_bestMark_152 : decode cX10_bestMark 152 = .ok (.istore 6, 2) := dK_a_180.2.1
theorem dX10_bestMark_154 : decode cX10_bestMark 154 = .ok (.iinc 9 1, 3) := dK_a_180.2.2.1
theorem dX10_bestMark_157 : decode cX10_bestMark 157 = .ok (.goto (-73), 3) := dK_a_180.2.2.2.1
theorem dX10_bestMark_160 : decode cX10_bestMark 160 = .ok (.iload 6, 2) := dK_a_180.2.2.2.2.1
theorem dX10_bestMark_162 : decode cX10_bestMark 162 = .ok (.ireturn, 1) := dK_a_180.2.2.2.2.2.1
theorem dK_a_181 : dk_P cX10_back [(0, (.aload_n 0, 1)), (1, (.iload_n 1, 1)), (2, (.invokevirtual 93, 3)), (5, (.iload_n 2, 1)), (6, (.bipush (-9), 2)), (8, (.bipush 9, 2)), (10, (.invokestatic 104, 3)), (13, (.invokestatic 97, 3))] := dk_of 0 (by decide +kernel)
theorem dX10_back_0 : decode cX10_back 0 = .ok (.aload_n 0, 1) := dK_a_181.1
theorem dX10_back_1 : decode cX10_back 1 = .ok (.iload_n 1, 1) := dK_a_181.2.1
theorem dX10_back_2 : decode cX10_back 2 = .ok (.invokevirtual 93, 3) := dK_a_181.2.2.1
theorem dX10_back_5 : decode cX10_back 5 = .ok (.iload_n 2, 1) := dK_a_181.2.2.2.1
theorem dX10_back_6 : decode cX10_back 6 = .ok (.bipush (-9), 2) := dK_a_181.2.2.2.2.1
theorem dX10_back_8 : decode cX10_back 8 = .ok (.bipush 9, 2) := dK_a_181.2.2.2.2.2.1
theorem dX10_back_10 : decode cX10_back 10 = .ok (.invokestatic 104, 3) := dK_a_181.2.2.2.2.2.2.1
theorem dX10_back_13 : decode cX10_back 13 = .ok (.invokestatic 97, 3) := dK_a_181.2.2.2.2.2.2.2.1
theorem dK_a_182 : dk_P cX10_back [(16, (.istore_n 3, 1)), (17, (.iload_n 3, 1)), (18, (.ifCond .eq 12, 3)), (21, (.ldc 224, 2)), (23, (.aload_n 0, 1)), (24, (.iload_n 3, 1)), (25, (.invokevirtual 111, 3)), (28, (.isub, 1))] := dk_of 16 (by decide +kernel)
theorem dX10_back_16 : decode cX10_back 16 = .ok (.istore_n 3, 1) := dK_a_182.1
theorem dX10_back_17 : decode cX10_back 17 = .ok (.iload_n 3, 1) := dK_a_182.2.1
theorem dX10_back_18 : decode cX10_back 18 = .ok (.ifCond .eq 12, 3) := dK_a_182.2.2.1
theorem dX10_back_21 : decode cX10_back 21 = .ok (.ldc 224, 2) := dK_a_182.2.2.2.1
theorem dX10_back_23 : decode cX10_back 23 = .ok (.aload_n 0, 1) := dK_a_182.2.2.2.2.1
theorem dX10_back_24 : decode cX10_back 24 = .ok (.iload_n 3, 1) := dK_a_182.2.2.2.2.2.1
theorem dX10_back_25 : decode cX10_back 25 = .ok (.invokevirtual 111, 3) := dK_a_182.2.2.2.2.2.2.1
theorem dX10_back_28 : decode cX10_back 28 = .ok (.isub, 1) := dK_a_182.2.2.2.2.2.2.2.1
theorem dK_a_183 : dk_P cX10_back [(29, (.ireturn, 1)), (30, (.aload_n 0, 1)), (31, (.getfield 72, 3)), (34, (.iload_n 1, 1)), (35, (.invokevirtual 169, 3)), (38, (.astore 4, 2)), (40, (.aload 4, 2)), (42, (.aload_n 0, 1))] := dk_of 29 (by decide +kernel)
theorem dX10_back_29 : decode cX10_back 29 = .ok (.ireturn, 1) := dK_a_183.1
theorem dX10_back_30 : decode cX10_back 30 = .ok (.aload_n 0, 1) := dK_a_183.2.1
theorem dX10_back_31 : decode cX10_back 31 = .ok (.getfield 72, 3) := dK_a_183.2.2.1
theorem dX10_back_34 : decode cX10_back 34 = .ok (.iload_n 1, 1) := dK_a_183.2.2.2.1
theorem dX10_back_35 : decode cX10_back 35 = .ok (.invokevirtual 169, 3) := dK_a_183.2.2.2.2.1
theorem dX10_back_38 : decode cX10_back 38 = .ok (.astore 4, 2) := dK_a_183.2.2.2.2.2.1
theorem dX10_back_40 : decode cX10_back 40 = .ok (.aload 4, 2) := dK_a_183.2.2.2.2.2.2.1
theorem dX10_back_42 : decode cX10_back 42 = .ok (.aload_n 0, 1) := dK_a_183.2.2.2.2.2.2.2.1
theorem dK_a_184 : dk_P cX10_back [(43, (.getfield 72, 3)), (46, (.getfield 163, 3)), (49, (.iload_n 2, 1)), (50, (.invokevirtual 232, 3)), (53, (.aload 4, 2)), (55, (.aload_n 0, 1)), (56, (.getfield 72, 3)), (59, (.getfield 163, 3))] := dk_of 43 (by decide +kernel)
theorem dX10_back_43 : decode cX10_back 43 = .ok (.getfield 72, 3) := dK_a_184.1
theorem dX10_back_46 : decode cX10_back 46 = .ok (.getfield 163, 3) := dK_a_184.2.1
theorem dX10_back_49 : decode cX10_back 49 = .ok (.iload_n 2, 1) := dK_a_184.2.2.1
theorem dX10_back_50 : decode cX10_back 50 = .ok (.invokevirtual 232, 3) := dK_a_184.2.2.2.1
theorem dX10_back_53 : decode cX10_back 53 = .ok (.aload 4, 2) := dK_a_184.2.2.2.2.1
theorem dX10_back_55 : decode cX10_back 55 = .ok (.aload_n 0, 1) := dK_a_184.2.2.2.2.2.1
theorem dX10_back_56 : decode cX10_back 56 = .ok (.getfield 72, 3) := dK_a_184.2.2.2.2.2.2.1
theorem dX10_back_59 : decode cX10_back 59 = .ok (.getfield 163, 3) := dK_a_184.2.2.2.2.2.2.2.1
theorem dK_a_185 : dk_P cX10_back [(62, (.aload_n 0, 1)), (63, (.getfield 72, 3)), (66, (.getfield 157, 3)), (69, (.invokevirtual 232, 3)), (72, (.isub, 1)), (73, (.ireturn, 1))] := dk_of 62 (by decide +kernel)
theorem dX10_back_62 : decode cX10_back 62 = .ok (.aload_n 0, 1) := dK_a_185.1
theorem dX10_back_63 : decode cX10_back 63 = .ok (.getfield 72, 3) := dK_a_185.2.1
theorem dX10_back_66 : decode cX10_back 66 = .ok (.getfield 157, 3) := dK_a_185.2.2.1
theorem dX10_back_69 : decode cX10_back 69 = .ok (.invokevirtual 232, 3) := dK_a_185.2.2.2.1
theorem dX10_back_72 : decode cX10_back 72 = .ok (.isub, 1) := dK_a_185.2.2.2.2.1
theorem dX10_back_73 : decode cX10_back 73 = .ok (.ireturn, 1) := dK_a_185.2.2.2.2.2.1
theorem dK_a_186 : dk_P cX10_turn [(0, (.aload_n 0, 1)), (1, (.getfield 72, 3)), (4, (.aload_n 0, 1)), (5, (.getfield 28, 3)), (8, (.invokevirtual 201, 3)), (11, (.ireturn, 1))] := dk_of 0 (by decide +kernel)
theorem dX10_turn_0 : decode cX10_turn 0 = .ok (.aload_n 0, 1) := dK_a_186.1
theorem dX10_turn_1 : decode cX10_turn 1 = .ok (.getfield 72, 3) := dK_a_186.2.1
theorem dX10_turn_4 : decode cX10_turn 4 = .ok (.aload_n 0, 1) := dK_a_186.2.2.1
theorem dX10_turn_5 : decode cX10_turn 5 = .ok (.getfield 28, 3) := dK_a_186.2.2.2.1
theorem dX10_turn_8 : decode cX10_turn 8 = .ok (.invokevirtual 201, 3) := dK_a_186.2.2.2.2.1
theorem dX10_turn_11 : decode cX10_turn 11 = .ok (.ireturn, 1) := dK_a_186.2.2.2.2.2.1
theorem dK_a_187 : dk_P cX10_notInTurn [(0, (.aload_n 0, 1)), (1, (.getfield 72, 3)), (4, (.aload_n 0, 1)), (5, (.getfield 28, 3)), (8, (.invokevirtual 201, 3)), (11, (.iload_n 1, 1)), (12, (.if_icmp .eq 8, 3)), (15, (.bipush (-3), 2))] := dk_of 0 (by decide +kernel)
theorem dX10_notInTurn_0 : decode cX10_notInTurn 0 = .ok (.aload_n 0, 1) := dK_a_187.1
theorem dX10_notInTurn_1 : decode cX10_notInTurn 1 = .ok (.getfield 72, 3) := dK_a_187.2.1
theorem dX10_notInTurn_4 : decode cX10_notInTurn 4 = .ok (.aload_n 0, 1) := dK_a_187.2.2.1
theorem dX10_notInTurn_5 : decode cX10_notInTurn 5 = .ok (.getfield 28, 3) := dK_a_187.2.2.2.1
theorem dX10_notInTurn_8 : decode cX10_notInTurn 8 = .ok (.invokevirtual 201, 3) := dK_a_187.2.2.2.2.1
theorem dX10_notInTurn_11 : decode cX10_notInTurn 11 = .ok (.iload_n 1, 1) := dK_a_187.2.2.2.2.2.1
theorem dX10_notInTurn_12 : decode cX10_notInTurn 12 = .ok (.if_icmp .eq 8, 3) := dK_a_187.2.2.2.2.2.2.1
theorem dX10_notInTurn_15 : decode cX10_notInTurn 15 = .ok (.bipush (-3), 2) := dK_a_187.2.2.2.2.2.2.2.1
theorem dK_a_188 : dk_P cX10_notInTurn [(17, (.goto 4, 3)), (20, (.iconst 0, 1)), (21, (.ireturn, 1))] := dk_of 17 (by decide +kernel)
theorem dX10_notInTurn_17 : decode cX10_notInTurn 17 = .ok (.goto 4, 3) := dK_a_188.1
theorem dX10_notInTurn_20 : decode cX10_notInTurn 20 = .ok (.iconst 0, 1) := dK_a_188.2.1
theorem dX10_notInTurn_21 : decode cX10_notInTurn 21 = .ok (.ireturn, 1) := dK_a_188.2.2.1
theorem dK_a_189 : dk_P cX10_jump [(0, (.aload_n 0, 1)), (1, (.iload_n 1, 1)), (2, (.invokevirtual 93, 3)), (5, (.aload_n 0, 1)), (6, (.iload_n 1, 1)), (7, (.invokevirtual 294, 3)), (10, (.iload_n 2, 1)), (11, (.iconst 0, 1))] := dk_of 0 (by decide +kernel)
theorem dX10_jump_0 : decode cX10_jump 0 = .ok (.aload_n 0, 1) := dK_a_189.1
theorem dX10_jump_1 : decode cX10_jump 1 = .ok (.iload_n 1, 1) := dK_a_189.2.1
theorem dX10_jump_2 : decode cX10_jump 2 = .ok (.invokevirtual 93, 3) := dK_a_189.2.2.1
theorem dX10_jump_5 : decode cX10_jump 5 = .ok (.aload_n 0, 1) := dK_a_189.2.2.2.1
theorem dX10_jump_6 : decode cX10_jump 6 = .ok (.iload_n 1, 1) := dK_a_189.2.2.2.2.1
theorem dX10_jump_7 : decode cX10_jump 7 = .ok (.invokevirtual 294, 3) := dK_a_189.2.2.2.2.2.1
theorem dX10_jump_10 : decode cX10_jump 10 = .ok (.iload_n 2, 1) := dK_a_189.2.2.2.2.2.2.1
theorem dX10_jump_11 : decode cX10_jump 11 = .ok (.iconst 0, 1) := dK_a_189.2.2.2.2.2.2.2.1
theorem dK_a_190 : dk_P cX10_jump [(12, (.sipush 300, 3)), (15, (.invokestatic 104, 3)), (18, (.invokestatic 97, 3)), (21, (.invokestatic 97, 3)), (24, (.istore_n 3, 1)), (25, (.iload_n 3, 1)), (26, (.ifCond .eq 11, 3)), (29, (.aload_n 0, 1))] := dk_of 12 (by decide +kernel)
theorem dX10_jump_12 : decode cX10_jump 12 = .ok (.sipush 300, 3) := dK_a_190.1
theorem dX10_jump_15 : decode cX10_jump 15 = .ok (.invokestatic 104, 3) := dK_a_190.2.1
theorem dX10_jump_18 : decode cX10_jump 18 = .ok (.invokestatic 97, 3) := dK_a_190.2.2.1
theorem dX10_jump_21 : decode cX10_jump 21 = .ok (.invokestatic 97, 3) := dK_a_190.2.2.2.1
theorem dX10_jump_24 : decode cX10_jump 24 = .ok (.istore_n 3, 1) := dK_a_190.2.2.2.2.1
theorem dX10_jump_25 : decode cX10_jump 25 = .ok (.iload_n 3, 1) := dK_a_190.2.2.2.2.2.1
theorem dX10_jump_26 : decode cX10_jump 26 = .ok (.ifCond .eq 11, 3) := dK_a_190.2.2.2.2.2.2.1
theorem dX10_jump_29 : decode cX10_jump 29 = .ok (.aload_n 0, 1) := dK_a_190.2.2.2.2.2.2.2.1
theorem dK_a_191 : dk_P cX10_jump [(30, (.iload_n 3, 1)), (31, (.invokevirtual 111, 3)), (34, (.goto 13, 3)), (37, (.aload_n 0, 1)), (38, (.getfield 72, 3)), (41, (.iload_n 1, 1)), (42, (.iload_n 2, 1)), (43, (.iconst 0, 1))] := dk_of 30 (by decide +kernel)
theorem dX10_jump_30 : decode cX10_jump 30 = .ok (.iload_n 3, 1) := dK_a_191.1
theorem dX10_jump_31 : decode cX10_jump 31 = .ok (.invokevirtual 111, 3) := dK_a_191.2.1
theorem dX10_jump_34 : decode cX10_jump 34 = .ok (.goto 13, 3) := dK_a_191.2.2.1
theorem dX10_jump_37 : decode cX10_jump 37 = .ok (.aload_n 0, 1) := dK_a_191.2.2.2.1
theorem dX10_jump_38 : decode cX10_jump 38 = .ok (.getfield 72, 3) := dK_a_191.2.2.2.2.1
theorem dX10_jump_41 : decode cX10_jump 41 = .ok (.iload_n 1, 1) := dK_a_191.2.2.2.2.2.1
theorem dX10_jump_42 : decode cX10_jump 42 = .ok (.iload_n 2, 1) := dK_a_191.2.2.2.2.2.2.1
theorem dX10_jump_43 : decode cX10_jump 43 = .ok (.iconst 0, 1) := dK_a_191.2.2.2.2.2.2.2.1
theorem dK_a_192 : dk_P cX10_jump [(44, (.invokevirtual 205, 3)), (47, (.ireturn, 1))] := dk_of 44 (by decide +kernel)
theorem dX10_jump_44 : decode cX10_jump 44 = .ok (.invokevirtual 205, 3) := dK_a_192.1
theorem dX10_jump_47 : decode cX10_jump 47 = .ok (.ireturn, 1) := dK_a_192.2.1
theorem dK_a_193 : dk_P cX10_none [(0, (.aload_n 0, 1)), (1, (.iload_n 1, 1)), (2, (.invokevirtual 93, 3)), (5, (.iload_n 2, 1)), (6, (.iconst 1, 1)), (7, (.invokestatic 101, 3)), (10, (.aload_n 0, 1)), (11, (.iload_n 1, 1))] := dk_of 0 (by decide +kernel)
theorem dX10_none_0 : decode cX10_none 0 = .ok (.aload_n 0, 1) := dK_a_193.1
theorem dX10_none_1 : decode cX10_none 1 = .ok (.iload_n 1, 1) := dK_a_193.2.1
theorem dX10_none_2 : decode cX10_none 2 = .ok (.invokevirtual 93, 3) := dK_a_193.2.2.1
theorem dX10_none_5 : decode cX10_none 5 = .ok (.iload_n 2, 1) := dK_a_193.2.2.2.1
theorem dX10_none_6 : decode cX10_none 6 = .ok (.iconst 1, 1) := dK_a_193.2.2.2.2.1
theorem dX10_none_7 : decode cX10_none 7 = .ok (.invokestatic 101, 3) := dK_a_193.2.2.2.2.2.1
theorem dX10_none_10 : decode cX10_none 10 = .ok (.aload_n 0, 1) := dK_a_193.2.2.2.2.2.2.1
theorem dX10_none_11 : decode cX10_none 11 = .ok (.iload_n 1, 1) := dK_a_193.2.2.2.2.2.2.2.1
theorem dK_a_194 : dk_P cX10_none [(12, (.invokevirtual 294, 3)), (15, (.invokestatic 97, 3)), (18, (.invokestatic 97, 3)), (21, (.istore_n 3, 1)), (22, (.iload_n 3, 1)), (23, (.ifCond .eq 9, 3)), (26, (.aload_n 0, 1)), (27, (.iload_n 3, 1))] := dk_of 12 (by decide +kernel)
theorem dX10_none_12 : decode cX10_none 12 = .ok (.invokevirtual 294, 3) := dK_a_194.1
theorem dX10_none_15 : decode cX10_none 15 = .ok (.invokestatic 97, 3) := dK_a_194.2.1
theorem dX10_none_18 : decode cX10_none 18 = .ok (.invokestatic 97, 3) := dK_a_194.2.2.1
theorem dX10_none_21 : decode cX10_none 21 = .ok (.istore_n 3, 1) := dK_a_194.2.2.2.1
theorem dX10_none_22 : decode cX10_none 22 = .ok (.iload_n 3, 1) := dK_a_194.2.2.2.2.1
theorem dX10_none_23 : decode cX10_none 23 = .ok (.ifCond .eq 9, 3) := dK_a_194.2.2.2.2.2.1
theorem dX10_none_26 : decode cX10_none 26 = .ok (.aload_n 0, 1) := dK_a_194.2.2.2.2.2.2.1
theorem dX10_none_27 : decode cX10_none 27 = .ok (.iload_n 3, 1) := dK_a_194.2.2.2.2.2.2.2.1
theorem dK_a_195 : dk_P cX10_none [(28, (.invokevirtual 111, 3)), (31, (.ireturn, 1)), (32, (.aload_n 0, 1)), (33, (.getfield 72, 3)), (36, (.iload_n 1, 1)), (37, (.iload_n 2, 1)), (38, (.ifCond .ne 8, 3)), (41, (.bipush (-9), 2))] := dk_of 28 (by decide +kernel)
theorem dX10_none_28 : decode cX10_none 28 = .ok (.invokevirtual 111, 3) := dK_a_195.1
theorem dX10_none_31 : decode cX10_none 31 = .ok (.ireturn, 1) := dK_a_195.2.1
theorem dX10_none_32 : decode cX10_none 32 = .ok (.aload_n 0, 1) := dK_a_195.2.2.1
theorem dX10_none_33 : decode cX10_none 33 = .ok (.getfield 72, 3) := dK_a_195.2.2.2.1
theorem dX10_none_36 : decode cX10_none 36 = .ok (.iload_n 1, 1) := dK_a_195.2.2.2.2.1
theorem dX10_none_37 : decode cX10_none 37 = .ok (.iload_n 2, 1) := dK_a_195.2.2.2.2.2.1
theorem dX10_none_38 : decode cX10_none 38 = .ok (.ifCond .ne 8, 3) := dK_a_195.2.2.2.2.2.2.1
theorem dX10_none_41 : decode cX10_none 41 = .ok (.bipush (-9), 2) := dK_a_195.2.2.2.2.2.2.2.1
theorem dK_a_196 : dk_P cX10_none [(43, (.goto 5, 3)), (46, (.bipush (-8), 2)), (48, (.iconst 0, 1)), (49, (.invokevirtual 205, 3)), (52, (.pop, 1)), (53, (.aload_n 0, 1)), (54, (.getfield 72, 3)), (57, (.iload_n 1, 1))] := dk_of 43 (by decide +kernel)
theorem dX10_none_43 : decode cX10_none 43 = .ok (.goto 5, 3) := dK_a_196.1
theorem dX10_none_46 : decode cX10_none 46 = .ok (.bipush (-8), 2) := dK_a_196.2.1
theorem dX10_none_48 : decode cX10_none 48 = .ok (.iconst 0, 1) := dK_a_196.2.2.1
theorem dX10_none_49 : decode cX10_none 49 = .ok (.invokevirtual 205, 3) := dK_a_196.2.2.2.1
theorem dX10_none_52 : decode cX10_none 52 = .ok (.pop, 1) := dK_a_196.2.2.2.2.1
theorem dX10_none_53 : decode cX10_none 53 = .ok (.aload_n 0, 1) := dK_a_196.2.2.2.2.2.1
theorem dX10_none_54 : decode cX10_none 54 = .ok (.getfield 72, 3) := dK_a_196.2.2.2.2.2.2.1
theorem dX10_none_57 : decode cX10_none 57 = .ok (.iload_n 1, 1) := dK_a_196.2.2.2.2.2.2.2.1
theorem dK_a_197 : dk_P cX10_none [(58, (.invokevirtual 211, 3)), (61, (.ireturn, 1))] := dk_of 58 (by decide +kernel)
theorem dX10_none_58 : decode cX10_none 58 = .ok (.invokevirtual 211, 3) := dK_a_197.1
theorem dX10_none_61 : decode cX10_none 61 = .ok (.ireturn, 1) := dK_a_197.2.1
theorem dK_a_198 : dk_P cX10_undo [(0, (.aload_n 0, 1)), (1, (.getfield 72, 3)), (4, (.getfield 160, 3)), (7, (.ifCond .gt 10, 3)), (10, (.aload_n 0, 1)), (11, (.bipush (-3), 2)), (13, (.invokevirtual 111, 3)), (16, (.ireturn, 1))] := dk_of 0 (by decide +kernel)
theorem dX10_undo_0 : decode cX10_undo 0 = .ok (.aload_n 0, 1) := dK_a_198.1
theorem dX10_undo_1 : decode cX10_undo 1 = .ok (.getfield 72, 3) := dK_a_198.2.1
theorem dX10_undo_4 : decode cX10_undo 4 = .ok (.getfield 160, 3) := dK_a_198.2.2.1
theorem dX10_undo_7 : decode cX10_undo 7 = .ok (.ifCond .gt 10, 3) := dK_a_198.2.2.2.1
theorem dX10_undo_10 : decode cX10_undo 10 = .ok (.aload_n 0, 1) := dK_a_198.2.2.2.2.1
theorem dX10_undo_11 : decode cX10_undo 11 = .ok (.bipush (-3), 2) := dK_a_198.2.2.2.2.2.1
theorem dX10_undo_13 : decode cX10_undo 13 = .ok (.invokevirtual 111, 3) := dK_a_198.2.2.2.2.2.2.1
theorem dX10_undo_16 : decode cX10_undo 16 = .ok (.ireturn, 1) := dK_a_198.2.2.2.2.2.2.2.1
theorem dK_a_199 : dk_P cX10_undo [(17, (.aload_n 0, 1)), (18, (.getfield 72, 3)), (21, (.dup, 1)), (22, (.getfield 160, 3)), (25, (.iconst 1, 1)), (26, (.isub, 1)), (27, (.putfield 160, 3)), (30, (.aload_n 0, 1))] := dk_of 17 (by decide +kernel)
theorem dX10_undo_17 : decode cX10_undo 17 = .ok (.aload_n 0, 1) := dK_a_199.1
theorem dX10_undo_18 : decode cX10_undo 18 = .ok (.getfield 72, 3) := dK_a_199.2.1
theorem dX10_undo_21 : decode cX10_undo 21 = .ok (.dup, 1) := dK_a_199.2.2.1
theorem dX10_undo_22 : decode cX10_undo 22 = .ok (.getfield 160, 3) := dK_a_199.2.2.2.1
theorem dX10_undo_25 : decode cX10_undo 25 = .ok (.iconst 1, 1) := dK_a_199.2.2.2.2.1
theorem dX10_undo_26 : decode cX10_undo 26 = .ok (.isub, 1) := dK_a_199.2.2.2.2.2.1
theorem dX10_undo_27 : decode cX10_undo 27 = .ok (.putfield 160, 3) := dK_a_199.2.2.2.2.2.2.1
theorem dX10_undo_30 : decode cX10_undo 30 = .ok (.aload_n 0, 1) := dK_a_199.2.2.2.2.2.2.2.1
theorem dK_a_200 : dk_P cX10_undo [(31, (.getfield 72, 3)), (34, (.getfield 297, 3)), (37, (.aload_n 0, 1)), (38, (.getfield 72, 3)), (41, (.getfield 160, 3)), (44, (.iaload, 1)), (45, (.ireturn, 1))] := dk_of 31 (by decide +kernel)
theorem dX10_undo_31 : decode cX10_undo 31 = .ok (.getfield 72, 3) := dK_a_200.1
theorem dX10_undo_34 : decode cX10_undo 34 = .ok (.getfield 297, 3) := dK_a_200.2.1
theorem dX10_undo_37 : decode cX10_undo 37 = .ok (.aload_n 0, 1) := dK_a_200.2.2.1
theorem dX10_undo_38 : decode cX10_undo 38 = .ok (.getfield 72, 3) := dK_a_200.2.2.2.1
theorem dX10_undo_41 : decode cX10_undo 41 = .ok (.getfield 160, 3) := dK_a_200.2.2.2.2.1
theorem dX10_undo_44 : decode cX10_undo 44 = .ok (.iaload, 1) := dK_a_200.2.2.2.2.2.1
theorem dX10_undo_45 : decode cX10_undo 45 = .ok (.ireturn, 1) := dK_a_200.2.2.2.2.2.2.1
theorem dK_a_201 : dk_P cX10_tried [(0, (.aload_n 0, 1)), (1, (.iload_n 1, 1)), (2, (.invokevirtual 93, 3)), (5, (.ifCond .eq 7, 3)), (8, (.iconst (-1), 1)), (9, (.goto 12, 3)), (12, (.aload_n 0, 1)), (13, (.getfield 72, 3))] := dk_of 0 (by decide +kernel)
theorem dX10_tried_0 : decode cX10_tried 0 = .ok (.aload_n 0, 1) := dK_a_201.1
theorem dX10_tried_1 : decode cX10_tried 1 = .ok (.iload_n 1, 1) := dK_a_201.2.1
theorem dX10_tried_2 : decode cX10_tried 2 = .ok (.invokevirtual 93, 3) := dK_a_201.2.2.1
theorem dX10_tried_5 : decode cX10_tried 5 = .ok (.ifCond .eq 7, 3) := dK_a_201.2.2.2.1
theorem dX10_tried_8 : decode cX10_tried 8 = .ok (.iconst (-1), 1) := dK_a_201.2.2.2.2.1
theorem dX10_tried_9 : decode cX10_tried 9 = .ok (.goto 12, 3) := dK_a_201.2.2.2.2.2.1
theorem dX10_tried_12 : decode cX10_tried 12 = .ok (.aload_n 0, 1) := dK_a_201.2.2.2.2.2.2.1
theorem dX10_tried_13 : decode cX10_tried 13 = .ok (.getfield 72, 3) := dK_a_201.2.2.2.2.2.2.2.1
theorem dK_a_202 : dk_P cX10_tried [(16, (.iload_n 1, 1)), (17, (.iload_n 2, 1)), (18, (.invokevirtual 300, 3)), (21, (.istore_n 3, 1)), (22, (.iload_n 3, 1)), (23, (.ifCond .ge 11, 3)), (26, (.aload_n 0, 1)), (27, (.iconst (-1), 1))] := dk_of 16 (by decide +kernel)
theorem dX10_tried_16 : decode cX10_tried 16 = .ok (.iload_n 1, 1) := dK_a_202.1
theorem dX10_tried_17 : decode cX10_tried 17 = .ok (.iload_n 2, 1) := dK_a_202.2.1
theorem dX10_tried_18 : decode cX10_tried 18 = .ok (.invokevirtual 300, 3) := dK_a_202.2.2.1
theorem dX10_tried_21 : decode cX10_tried 21 = .ok (.istore_n 3, 1) := dK_a_202.2.2.2.1
theorem dX10_tried_22 : decode cX10_tried 22 = .ok (.iload_n 3, 1) := dK_a_202.2.2.2.2.1
theorem dX10_tried_23 : decode cX10_tried 23 = .ok (.ifCond .ge 11, 3) := dK_a_202.2.2.2.2.2.1
theorem dX10_tried_26 : decode cX10_tried 26 = .ok (.aload_n 0, 1) := dK_a_202.2.2.2.2.2.2.1
theorem dX10_tried_27 : decode cX10_tried 27 = .ok (.iconst (-1), 1) := dK_a_202.2.2.2.2.2.2.2.1
theorem dK_a_203 : dk_P cX10_tried [(28, (.invokevirtual 111, 3)), (31, (.goto 12, 3)), (34, (.aload_n 0, 1)), (35, (.getfield 72, 3)), (38, (.getfield 303, 3)), (41, (.iload_n 3, 1)), (42, (.iaload, 1)), (43, (.ireturn, 1))] := dk_of 28 (by decide +kernel)
theorem dX10_tried_28 : decode cX10_tried 28 = .ok (.invokevirtual 111, 3) := dK_a_203.1
theorem dX10_tried_31 : decode cX10_tried 31 = .ok (.goto 12, 3) := dK_a_203.2.1
theorem dX10_tried_34 : decode cX10_tried 34 = .ok (.aload_n 0, 1) := dK_a_203.2.2.1
theorem dX10_tried_35 : decode cX10_tried 35 = .ok (.getfield 72, 3) := dK_a_203.2.2.2.1
theorem dX10_tried_38 : decode cX10_tried 38 = .ok (.getfield 303, 3) := dK_a_203.2.2.2.2.1
theorem dX10_tried_41 : decode cX10_tried 41 = .ok (.iload_n 3, 1) := dK_a_203.2.2.2.2.2.1
theorem dX10_tried_42 : decode cX10_tried 42 = .ok (.iaload, 1) := dK_a_203.2.2.2.2.2.2.1
theorem dX10_tried_43 : decode cX10_tried 43 = .ok (.ireturn, 1) := dK_a_203.2.2.2.2.2.2.2.1
theorem dK_a_204 : dk_P cX10_needs [(0, (.aload_n 0, 1)), (1, (.iload_n 1, 1)), (2, (.invokevirtual 93, 3)), (5, (.iload_n 2, 1)), (6, (.iconst 1, 1)), (7, (.invokestatic 101, 3)), (10, (.invokestatic 97, 3)), (13, (.istore_n 3, 1))] := dk_of 0 (by decide +kernel)
theorem dX10_needs_0 : decode cX10_needs 0 = .ok (.aload_n 0, 1) := dK_a_204.1
theorem dX10_needs_1 : decode cX10_needs 1 = .ok (.iload_n 1, 1) := dK_a_204.2.1
theorem dX10_needs_2 : decode cX10_needs 2 = .ok (.invokevirtual 93, 3) := dK_a_204.2.2.1
theorem dX10_needs_5 : decode cX10_needs 5 = .ok (.iload_n 2, 1) := dK_a_204.2.2.2.1
theorem dX10_needs_6 : decode cX10_needs 6 = .ok (.iconst 1, 1) := dK_a_204.2.2.2.2.1
theorem dX10_needs_7 : decode cX10_needs 7 = .ok (.invokestatic 101, 3) := dK_a_204.2.2.2.2.2.1
theorem dX10_needs_10 : decode cX10_needs 10 = .ok (.invokestatic 97, 3) := dK_a_204.2.2.2.2.2.2.1
theorem dX10_needs_13 : decode cX10_needs 13 = .ok (.istore_n 3, 1) := dK_a_204.2.2.2.2.2.2.2.1
theorem dK_a_205 : dk_P cX10_needs [(14, (.iload_n 3, 1)), (15, (.ifCond .eq 9, 3)), (18, (.aload_n 0, 1)), (19, (.iload_n 3, 1)), (20, (.invokevirtual 111, 3)), (23, (.ireturn, 1)), (24, (.aload_n 0, 1)), (25, (.getfield 72, 3))] := dk_of 14 (by decide +kernel)
theorem dX10_needs_14 : decode cX10_needs 14 = .ok (.iload_n 3, 1) := dK_a_205.1
theorem dX10_needs_15 : decode cX10_needs 15 = .ok (.ifCond .eq 9, 3) := dK_a_205.2.1
theorem dX10_needs_18 : decode cX10_needs 18 = .ok (.aload_n 0, 1) := dK_a_205.2.2.1
theorem dX10_needs_19 : decode cX10_needs 19 = .ok (.iload_n 3, 1) := dK_a_205.2.2.2.1
theorem dX10_needs_20 : decode cX10_needs 20 = .ok (.invokevirtual 111, 3) := dK_a_205.2.2.2.2.1
theorem dX10_needs_23 : decode cX10_needs 23 = .ok (.ireturn, 1) := dK_a_205.2.2.2.2.2.1
theorem dX10_needs_24 : decode cX10_needs 24 = .ok (.aload_n 0, 1) := dK_a_205.2.2.2.2.2.2.1
theorem dX10_needs_25 : decode cX10_needs 25 = .ok (.getfield 72, 3) := dK_a_205.2.2.2.2.2.2.2.1
theorem dK_a_206 : dk_P cX10_needs [(28, (.aload_n 0, 1)), (29, (.getfield 28, 3)), (32, (.iconst 0, 1)), (33, (.aload_n 0, 1)), (34, (.getfield 72, 3)), (37, (.getfield 160, 3)), (40, (.invokevirtual 214, 3)), (43, (.aload_n 0, 1))] := dk_of 28 (by decide +kernel)
theorem dX10_needs_28 : decode cX10_needs 28 = .ok (.aload_n 0, 1) := dK_a_206.1
theorem dX10_needs_29 : decode cX10_needs 29 = .ok (.getfield 28, 3) := dK_a_206.2.1
theorem dX10_needs_32 : decode cX10_needs 32 = .ok (.iconst 0, 1) := dK_a_206.2.2.1
theorem dX10_needs_33 : decode cX10_needs 33 = .ok (.aload_n 0, 1) := dK_a_206.2.2.2.1
theorem dX10_needs_34 : decode cX10_needs 34 = .ok (.getfield 72, 3) := dK_a_206.2.2.2.2.1
theorem dX10_needs_37 : decode cX10_needs 37 = .ok (.getfield 160, 3) := dK_a_206.2.2.2.2.2.1
theorem dX10_needs_40 : decode cX10_needs 40 = .ok (.invokevirtual 214, 3) := dK_a_206.2.2.2.2.2.2.1
theorem dX10_needs_43 : decode cX10_needs 43 = .ok (.aload_n 0, 1) := dK_a_206.2.2.2.2.2.2.2.1
theorem dK_a_207 : dk_P cX10_needs [(44, (.iload_n 1, 1)), (45, (.iload_n 2, 1)), (46, (.ifCond .ne 7, 3)), (49, (.iconst 1, 1)), (50, (.goto 10, 3)), (53, (.aload_n 0, 1)), (54, (.getfield 72, 3)), (57, (.invokevirtual 306, 3))] := dk_of 44 (by decide +kernel)
theorem dX10_needs_44 : decode cX10_needs 44 = .ok (.iload_n 1, 1) := dK_a_207.1
theorem dX10_needs_45 : decode cX10_needs 45 = .ok (.iload_n 2, 1) := dK_a_207.2.1
theorem dX10_needs_46 : decode cX10_needs 46 = .ok (.ifCond .ne 7, 3) := dK_a_207.2.2.1
theorem dX10_needs_49 : decode cX10_needs 49 = .ok (.iconst 1, 1) := dK_a_207.2.2.2.1
theorem dX10_needs_50 : decode cX10_needs 50 = .ok (.goto 10, 3) := dK_a_207.2.2.2.2.1
theorem dX10_needs_53 : decode cX10_needs 53 = .ok (.aload_n 0, 1) := dK_a_207.2.2.2.2.2.1
theorem dX10_needs_54 : decode cX10_needs 54 = .ok (.getfield 72, 3) := dK_a_207.2.2.2.2.2.2.1
theorem dX10_needs_57 : decode cX10_needs 57 = .ok (.invokevirtual 306, 3) := dK_a_207.2.2.2.2.2.2.2.1
theorem dK_a_208 : dk_P cX10_needs [(60, (.invokevirtual 309, 3)), (63, (.ireturn, 1))] := dk_of 60 (by decide +kernel)
theorem dX10_needs_60 : decode cX10_needs 60 = .ok (.invokevirtual 309, 3) := dK_a_208.1
theorem dX10_needs_63 : decode cX10_needs 63 = .ok (.ireturn, 1) := dK_a_208.2.1
theorem dK_a_209 : dk_P cX10_leastFor [(0, (.iconst 0, 1)), (1, (.istore_n 3, 1)), (2, (.iload_n 3, 1)), (3, (.sipush 999, 3)), (6, (.if_icmp .gt 24, 3)), (9, (.aload_n 0, 1)), (10, (.getfield 28, 3)), (13, (.iload_n 1, 1))] := dk_of 0 (by decide +kernel)
theorem dX10_leastFor_0 : decode cX10_leastFor 0 = .ok (.iconst 0, 1) := dK_a_209.1
theorem dX10_leastFor_1 : decode cX10_leastFor 1 = .ok (.istore_n 3, 1) := dK_a_209.2.1
theorem dX10_leastFor_2 : decode cX10_leastFor 2 = .ok (.iload_n 3, 1) := dK_a_209.2.2.1
theorem dX10_leastFor_3 : decode cX10_leastFor 3 = .ok (.sipush 999, 3) := dK_a_209.2.2.2.1
theorem dX10_leastFor_6 : decode cX10_leastFor 6 = .ok (.if_icmp .gt 24, 3) := dK_a_209.2.2.2.2.1
theorem dX10_leastFor_9 : decode cX10_leastFor 9 = .ok (.aload_n 0, 1) := dK_a_209.2.2.2.2.2.1
theorem dX10_leastFor_10 : decode cX10_leastFor 10 = .ok (.getfield 28, 3) := dK_a_209.2.2.2.2.2.2.1
theorem dX10_leastFor_13 : decode cX10_leastFor 13 = .ok (.iload_n 1, 1) := dK_a_209.2.2.2.2.2.2.2.1
theorem dK_a_210 : dk_P cX10_leastFor [(14, (.iload_n 3, 1)), (15, (.invokevirtual 312, 3)), (18, (.iload_n 2, 1)), (19, (.if_icmp .ge 5, 3)), (22, (.iload_n 3, 1)), (23, (.ireturn, 1)), (24, (.iinc 3 1, 3)), (27, (.goto (-25), 3))] := dk_of 14 (by decide +kernel)
theorem dX10_leastFor_14 : decode cX10_leastFor 14 = .ok (.iload_n 3, 1) := dK_a_210.1
theorem dX10_leastFor_15 : decode cX10_leastFor 15 = .ok (.invokevirtual 312, 3) := dK_a_210.2.1
theorem dX10_leastFor_18 : decode cX10_leastFor 18 = .ok (.iload_n 2, 1) := dK_a_210.2.2.1
theorem dX10_leastFor_19 : decode cX10_leastFor 19 = .ok (.if_icmp .ge 5, 3) := dK_a_210.2.2.2.1
theorem dX10_leastFor_22 : decode cX10_leastFor 22 = .ok (.iload_n 3, 1) := dK_a_210.2.2.2.2.1
theorem dX10_leastFor_23 : decode cX10_leastFor 23 = .ok (.ireturn, 1) := dK_a_210.2.2.2.2.2.1
theorem dX10_leastFor_24 : decode cX10_leastFor 24 = .ok (.iinc 3 1, 3) := dK_a_210.2.2.2.2.2.2.1
theorem dX10_leastFor_27 : decode cX10_leastFor 27 = .ok (.goto (-25), 3) := dK_a_210.2.2.2.2.2.2.2.1
theorem dK_a_211 : dk_P cX10_leastFor [(30, (.bipush (-9), 2)), (32, (.ireturn, 1))] := dk_of 30 (by decide +kernel)
theorem dX10_leastFor_30 : decode cX10_leastFor 30 = .ok (.bipush (-9), 2) := dK_a_211.1
theorem dX10_leastFor_32 : decode cX10_leastFor 32 = .ok (.ireturn, 1) := dK_a_211.2.1
theorem dK_a_212 : dk_P cX10_ranks [(0, (.iload_n 1, 1)), (1, (.iconst 2, 1)), (2, (.invokestatic 101, 3)), (5, (.istore_n 2, 1)), (6, (.iload_n 2, 1)), (7, (.ifCond .eq 9, 3)), (10, (.aload_n 0, 1)), (11, (.iload_n 2, 1))] := dk_of 0 (by decide +kernel)
theorem dX10_ranks_0 : decode cX10_ranks 0 = .ok (.iload_n 1, 1) := dK_a_212.1
theorem dX10_ranks_1 : decode cX10_ranks 1 = .ok (.iconst 2, 1) := dK_a_212.2.1
theorem dX10_ranks_2 : decode cX10_ranks 2 = .ok (.invokestatic 101, 3) := dK_a_212.2.2.1
theorem dX10_ranks_5 : decode cX10_ranks 5 = .ok (.istore_n 2, 1) := dK_a_212.2.2.2.1
theorem dX10_ranks_6 : decode cX10_ranks 6 = .ok (.iload_n 2, 1) := dK_a_212.2.2.2.2.1
theorem dX10_ranks_7 : decode cX10_ranks 7 = .ok (.ifCond .eq 9, 3) := dK_a_212.2.2.2.2.2.1
theorem dX10_ranks_10 : decode cX10_ranks 10 = .ok (.aload_n 0, 1) := dK_a_212.2.2.2.2.2.2.1
theorem dX10_ranks_11 : decode cX10_ranks 11 = .ok (.iload_n 2, 1) := dK_a_212.2.2.2.2.2.2.2.1
theorem dK_a_213 : dk_P cX10_ranks [(12, (.invokevirtual 111, 3)), (15, (.ireturn, 1)), (16, (.aload_n 0, 1)), (17, (.getfield 72, 3)), (20, (.aload_n 0, 1)), (21, (.getfield 28, 3)), (24, (.iload_n 1, 1)), (25, (.aload_n 0, 1))] := dk_of 12 (by decide +kernel)
theorem dX10_ranks_12 : decode cX10_ranks 12 = .ok (.invokevirtual 111, 3) := dK_a_213.1
theorem dX10_ranks_15 : decode cX10_ranks 15 = .ok (.ireturn, 1) := dK_a_213.2.1
theorem dX10_ranks_16 : decode cX10_ranks 16 = .ok (.aload_n 0, 1) := dK_a_213.2.2.1
theorem dX10_ranks_17 : decode cX10_ranks 17 = .ok (.getfield 72, 3) := dK_a_213.2.2.2.1
theorem dX10_ranks_20 : decode cX10_ranks 20 = .ok (.aload_n 0, 1) := dK_a_213.2.2.2.2.1
theorem dX10_ranks_21 : decode cX10_ranks 21 = .ok (.getfield 28, 3) := dK_a_213.2.2.2.2.2.1
theorem dX10_ranks_24 : decode cX10_ranks 24 = .ok (.iload_n 1, 1) := dK_a_213.2.2.2.2.2.2.1
theorem dX10_ranks_25 : decode cX10_ranks 25 = .ok (.aload_n 0, 1) := dK_a_213.2.2.2.2.2.2.2.1
theorem dK_a_214 : dk_P cX10_ranks [(26, (.getfield 72, 3)), (29, (.getfield 160, 3)), (32, (.invokevirtual 214, 3)), (35, (.iconst 0, 1)), (36, (.istore_n 3, 1)), (37, (.aload_n 0, 1)), (38, (.getfield 72, 3)), (41, (.getfield 89, 3))] := dk_of 26 (by decide +kernel)
theorem dX10_ranks_26 : decode cX10_ranks 26 = .ok (.getfield 72, 3) := dK_a_214.1
theorem dX10_ranks_29 : decode cX10_ranks 29 = .ok (.getfield 160, 3) := dK_a_214.2.1
theorem dX10_ranks_32 : decode cX10_ranks 32 = .ok (.invokevirtual 214, 3) := dK_a_214.2.2.1
theorem dX10_ranks_35 : decode cX10_ranks 35 = .ok (.iconst 0, 1) := dK_a_214.2.2.2.1
theorem dX10_ranks_36 : decode cX10_ranks 36 = .ok (.istore_n 3, 1) := dK_a_214.2.2.2.2.1
theorem dX10_ranks_37 : decode cX10_ranks 37 = .ok (.aload_n 0, 1) := dK_a_214.2.2.2.2.2.1
theorem dX10_ranks_38 : decode cX10_ranks 38 = .ok (.getfield 72, 3) := dK_a_214.2.2.2.2.2.2.1
theorem dX10_ranks_41 : decode cX10_ranks 41 = .ok (.getfield 89, 3) := dK_a_214.2.2.2.2.2.2.2.1
theorem dK_a_215 : dk_P cX10_ranks [(44, (.iconst 1, 1)), (45, (.isub, 1)), (46, (.istore 4, 2)), (48, (.iload 4, 2)), (50, (.ifCond .lt 24, 3)), (53, (.bipush 10, 2)), (55, (.iload_n 3, 1)), (56, (.imul, 1))] := dk_of 44 (by decide +kernel)
theorem dX10_ranks_44 : decode cX10_ranks 44 = .ok (.iconst 1, 1) := dK_a_215.1
theorem dX10_ranks_45 : decode cX10_ranks 45 = .ok (.isub, 1) := dK_a_215.2.1
theorem dX10_ranks_46 : decode cX10_ranks 46 = .ok (.istore 4, 2) := dK_a_215.2.2.1
theorem dX10_ranks_48 : decode cX10_ranks 48 = .ok (.iload 4, 2) := dK_a_215.2.2.2.1
theorem dX10_ranks_50 : decode cX10_ranks 50 = .ok (.ifCond .lt 24, 3) := dK_a_215.2.2.2.2.1
theorem dX10_ranks_53 : decode cX10_ranks 53 = .ok (.bipush 10, 2) := dK_a_215.2.2.2.2.2.1
theorem dX10_ranks_55 : decode cX10_ranks 55 = .ok (.iload_n 3, 1) := dK_a_215.2.2.2.2.2.2.1
theorem dX10_ranks_56 : decode cX10_ranks 56 = .ok (.imul, 1) := dK_a_215.2.2.2.2.2.2.2.1
theorem dK_a_216 : dk_P cX10_ranks [(57, (.aload_n 0, 1)), (58, (.getfield 28, 3)), (61, (.iload 4, 2)), (63, (.invokevirtual 315, 3)), (66, (.iadd, 1)), (67, (.istore_n 3, 1)), (68, (.iinc 4 (-1), 3)), (71, (.goto (-23), 3))] := dk_of 57 (by decide +kernel)
theorem dX10_ranks_57 : decode cX10_ranks 57 = .ok (.aload_n 0, 1) := dK_a_216.1
theorem dX10_ranks_58 : decode cX10_ranks 58 = .ok (.getfield 28, 3) := dK_a_216.2.1
theorem dX10_ranks_61 : decode cX10_ranks 61 = .ok (.iload 4, 2) := dK_a_216.2.2.1
theorem dX10_ranks_63 : decode cX10_ranks 63 = .ok (.invokevirtual 315, 3) := dK_a_216.2.2.2.1
theorem dX10_ranks_66 : decode cX10_ranks 66 = .ok (.iadd, 1) := dK_a_216.2.2.2.2.1
theorem dX10_ranks_67 : decode cX10_ranks 67 = .ok (.istore_n 3, 1) := dK_a_216.2.2.2.2.2.1
theorem dX10_ranks_68 : decode cX10_ranks 68 = .ok (.iinc 4 (-1), 3) := dK_a_216.2.2.2.2.2.2.1
theorem dX10_ranks_71 : decode cX10_ranks 71 = .ok (.goto (-23), 3) := dK_a_216.2.2.2.2.2.2.2.1
theorem dK_a_217 : dk_P cX10_ranks [(74, (.iload_n 3, 1)), (75, (.ireturn, 1))] := dk_of 74 (by decide +kernel)
theorem dX10_ranks_74 : decode cX10_ranks 74 = .ok (.iload_n 3, 1) := dK_a_217.1
theorem dX10_ranks_75 : decode cX10_ranks 75 = .ok (.ireturn, 1) := dK_a_217.2.1
theorem dK_a_218 : dk_P cX10_leads [(0, (.aload_n 0, 1)), (1, (.getfield 72, 3)), (4, (.aload_n 0, 1)), (5, (.getfield 28, 3)), (8, (.invokevirtual 317, 3)), (11, (.ireturn, 1))] := dk_of 0 (by decide +kernel)
theorem dX10_leads_0 : decode cX10_leads 0 = .ok (.aload_n 0, 1) := dK_a_218.1
theorem dX10_leads_1 : decode cX10_leads 1 = .ok (.getfield 72, 3) := dK_a_218.2.1
theorem dX10_leads_4 : decode cX10_leads 4 = .ok (.aload_n 0, 1) := dK_a_218.2.2.1
theorem dX10_leads_5 : decode cX10_leads 5 = .ok (.getfield 28, 3) := dK_a_218.2.2.2.1
theorem dX10_leads_8 : decode cX10_leads 8 = .ok (.invokevirtual 317, 3) := dK_a_218.2.2.2.2.1
theorem dX10_leads_11 : decode cX10_leads 11 = .ok (.ireturn, 1) := dK_a_218.2.2.2.2.2.1
theorem dK_a_219 : dk_P cX10_goOn [(0, (.aload_n 0, 1)), (1, (.getfield 72, 3)), (4, (.aload_n 0, 1)), (5, (.getfield 28, 3)), (8, (.iconst 0, 1)), (9, (.aload_n 0, 1)), (10, (.getfield 72, 3)), (13, (.getfield 160, 3))] := dk_of 0 (by decide +kernel)
theorem dX10_goOn_0 : decode cX10_goOn 0 = .ok (.aload_n 0, 1) := dK_a_219.1
theorem dX10_goOn_1 : decode cX10_goOn 1 = .ok (.getfield 72, 3) := dK_a_219.2.1
theorem dX10_goOn_4 : decode cX10_goOn 4 = .ok (.aload_n 0, 1) := dK_a_219.2.2.1
theorem dX10_goOn_5 : decode cX10_goOn 5 = .ok (.getfield 28, 3) := dK_a_219.2.2.2.1
theorem dX10_goOn_8 : decode cX10_goOn 8 = .ok (.iconst 0, 1) := dK_a_219.2.2.2.2.1
theorem dX10_goOn_9 : decode cX10_goOn 9 = .ok (.aload_n 0, 1) := dK_a_219.2.2.2.2.2.1
theorem dX10_goOn_10 : decode cX10_goOn 10 = .ok (.getfield 72, 3) := dK_a_219.2.2.2.2.2.2.1
theorem dX10_goOn_13 : decode cX10_goOn 13 = .ok (.getfield 160, 3) := dK_a_219.2.2.2.2.2.2.2.1
theorem dK_a_220 : dk_P cX10_goOn [(16, (.invokevirtual 214, 3)), (19, (.iconst 0, 1)), (20, (.istore_n 1, 1)), (21, (.iconst 0, 1)), (22, (.istore_n 2, 1)), (23, (.iload_n 2, 1)), (24, (.aload_n 0, 1)), (25, (.getfield 72, 3))] := dk_of 16 (by decide +kernel)
theorem dX10_goOn_16 : decode cX10_goOn 16 = .ok (.invokevirtual 214, 3) := dK_a_220.1
theorem dX10_goOn_19 : decode cX10_goOn 19 = .ok (.iconst 0, 1) := dK_a_220.2.1
theorem dX10_goOn_20 : decode cX10_goOn 20 = .ok (.istore_n 1, 1) := dK_a_220.2.2.1
theorem dX10_goOn_21 : decode cX10_goOn 21 = .ok (.iconst 0, 1) := dK_a_220.2.2.2.1
theorem dX10_goOn_22 : decode cX10_goOn 22 = .ok (.istore_n 2, 1) := dK_a_220.2.2.2.2.1
theorem dX10_goOn_23 : decode cX10_goOn 23 = .ok (.iload_n 2, 1) := dK_a_220.2.2.2.2.2.1
theorem dX10_goOn_24 : decode cX10_goOn 24 = .ok (.aload_n 0, 1) := dK_a_220.2.2.2.2.2.2.1
theorem dX10_goOn_25 : decode cX10_goOn 25 = .ok (.getfield 72, 3) := dK_a_220.2.2.2.2.2.2.2.1
theorem dK_a_221 : dk_P cX10_goOn [(28, (.invokevirtual 306, 3)), (31, (.if_icmp .ge 22, 3)), (34, (.iload_n 1, 1)), (35, (.iconst 1, 1)), (36, (.aload_n 0, 1)), (37, (.getfield 28, 3)), (40, (.iload_n 2, 1)), (41, (.invokevirtual 315, 3))] := dk_of 28 (by decide +kernel)
theorem dX10_goOn_28 : decode cX10_goOn 28 = .ok (.invokevirtual 306, 3) := dK_a_221.1
theorem dX10_goOn_31 : decode cX10_goOn 31 = .ok (.if_icmp .ge 22, 3) := dK_a_221.2.1
theorem dX10_goOn_34 : decode cX10_goOn 34 = .ok (.iload_n 1, 1) := dK_a_221.2.2.1
theorem dX10_goOn_35 : decode cX10_goOn 35 = .ok (.iconst 1, 1) := dK_a_221.2.2.2.1
theorem dX10_goOn_36 : decode cX10_goOn 36 = .ok (.aload_n 0, 1) := dK_a_221.2.2.2.2.1
theorem dX10_goOn_37 : decode cX10_goOn 37 = .ok (.getfield 28, 3) := dK_a_221.2.2.2.2.2.1
theorem dX10_goOn_40 : decode cX10_goOn 40 = .ok (.iload_n 2, 1) := dK_a_221.2.2.2.2.2.2.1
theorem dX10_goOn_41 : decode cX10_goOn 41 = .ok (.invokevirtual 315, 3) := dK_a_221.2.2.2.2.2.2.2.1
theorem dK_a_222 : dk_P cX10_goOn [(44, (.ishl, 1)), (45, (.ior, 1)), (46, (.istore_n 1, 1)), (47, (.iinc 2 1, 3)), (50, (.goto (-27), 3)), (53, (.iload_n 1, 1)), (54, (.ireturn, 1))] := dk_of 44 (by decide +kernel)
theorem dX10_goOn_44 : decode cX10_goOn 44 = .ok (.ishl, 1) := dK_a_222.1
theorem dX10_goOn_45 : decode cX10_goOn 45 = .ok (.ior, 1) := dK_a_222.2.1
theorem dX10_goOn_46 : decode cX10_goOn 46 = .ok (.istore_n 1, 1) := dK_a_222.2.2.1
theorem dX10_goOn_47 : decode cX10_goOn 47 = .ok (.iinc 2 1, 3) := dK_a_222.2.2.2.1
theorem dX10_goOn_50 : decode cX10_goOn 50 = .ok (.goto (-27), 3) := dK_a_222.2.2.2.2.1
theorem dX10_goOn_53 : decode cX10_goOn 53 = .ok (.iload_n 1, 1) := dK_a_222.2.2.2.2.2.1
theorem dX10_goOn_54 : decode cX10_goOn 54 = .ok (.ireturn, 1) := dK_a_222.2.2.2.2.2.2.1
theorem dK_a_223 : dk_P cX10_aim [(0, (.aload_n 0, 1)), (1, (.iload_n 1, 1)), (2, (.invokevirtual 93, 3)), (5, (.iload_n 2, 1)), (6, (.iconst 1, 1)), (7, (.iconst 3, 1)), (8, (.invokestatic 104, 3)), (11, (.iload_n 3, 1))] := dk_of 0 (by decide +kernel)
theorem dX10_aim_0 : decode cX10_aim 0 = .ok (.aload_n 0, 1) := dK_a_223.1
theorem dX10_aim_1 : decode cX10_aim 1 = .ok (.iload_n 1, 1) := dK_a_223.2.1
theorem dX10_aim_2 : decode cX10_aim 2 = .ok (.invokevirtual 93, 3) := dK_a_223.2.2.1
theorem dX10_aim_5 : decode cX10_aim 5 = .ok (.iload_n 2, 1) := dK_a_223.2.2.2.1
theorem dX10_aim_6 : decode cX10_aim 6 = .ok (.iconst 1, 1) := dK_a_223.2.2.2.2.1
theorem dX10_aim_7 : decode cX10_aim 7 = .ok (.iconst 3, 1) := dK_a_223.2.2.2.2.2.1
theorem dX10_aim_8 : decode cX10_aim 8 = .ok (.invokestatic 104, 3) := dK_a_223.2.2.2.2.2.2.1
theorem dX10_aim_11 : decode cX10_aim 11 = .ok (.iload_n 3, 1) := dK_a_223.2.2.2.2.2.2.2.1
theorem dK_a_224 : dk_P cX10_aim [(12, (.iconst 0, 1)), (13, (.sipush 999, 3)), (16, (.invokestatic 104, 3)), (19, (.invokestatic 235, 3)), (22, (.invokestatic 97, 3)), (25, (.istore 5, 2)), (27, (.iload 5, 2)), (29, (.iload 4, 2))] := dk_of 12 (by decide +kernel)
theorem dX10_aim_12 : decode cX10_aim 12 = .ok (.iconst 0, 1) := dK_a_224.1
theorem dX10_aim_13 : decode cX10_aim 13 = .ok (.sipush 999, 3) := dK_a_224.2.1
theorem dX10_aim_16 : decode cX10_aim 16 = .ok (.invokestatic 104, 3) := dK_a_224.2.2.1
theorem dX10_aim_19 : decode cX10_aim 19 = .ok (.invokestatic 235, 3) := dK_a_224.2.2.2.1
theorem dX10_aim_22 : decode cX10_aim 22 = .ok (.invokestatic 97, 3) := dK_a_224.2.2.2.2.1
theorem dX10_aim_25 : decode cX10_aim 25 = .ok (.istore 5, 2) := dK_a_224.2.2.2.2.2.1
theorem dX10_aim_27 : decode cX10_aim 27 = .ok (.iload 5, 2) := dK_a_224.2.2.2.2.2.2.1
theorem dX10_aim_29 : decode cX10_aim 29 = .ok (.iload 4, 2) := dK_a_224.2.2.2.2.2.2.2.1
theorem dK_a_225 : dk_P cX10_aim [(31, (.iconst 1, 1)), (32, (.invokestatic 101, 3)), (35, (.invokestatic 97, 3)), (38, (.istore 5, 2)), (40, (.iload 5, 2)), (42, (.ifCond .eq 10, 3)), (45, (.aload_n 0, 1)), (46, (.iload 5, 2))] := dk_of 31 (by decide +kernel)
theorem dX10_aim_31 : decode cX10_aim 31 = .ok (.iconst 1, 1) := dK_a_225.1
theorem dX10_aim_32 : decode cX10_aim 32 = .ok (.invokestatic 101, 3) := dK_a_225.2.1
theorem dX10_aim_35 : decode cX10_aim 35 = .ok (.invokestatic 97, 3) := dK_a_225.2.2.1
theorem dX10_aim_38 : decode cX10_aim 38 = .ok (.istore 5, 2) := dK_a_225.2.2.2.1
theorem dX10_aim_40 : decode cX10_aim 40 = .ok (.iload 5, 2) := dK_a_225.2.2.2.2.1
theorem dX10_aim_42 : decode cX10_aim 42 = .ok (.ifCond .eq 10, 3) := dK_a_225.2.2.2.2.2.1
theorem dX10_aim_45 : decode cX10_aim 45 = .ok (.aload_n 0, 1) := dK_a_225.2.2.2.2.2.2.1
theorem dX10_aim_46 : decode cX10_aim 46 = .ok (.iload 5, 2) := dK_a_225.2.2.2.2.2.2.2.1
theorem dK_a_226 : dk_P cX10_aim [(48, (.invokevirtual 111, 3)), (51, (.ireturn, 1)), (52, (.iconst 0, 1)), (53, (.istore 6, 2)), (55, (.sipush 10001, 3)), (58, (.istore 7, 2)), (60, (.iconst 0, 1)), (61, (.istore 8, 2))] := dk_of 48 (by decide +kernel)
theorem dX10_aim_48 : decode cX10_aim 48 = .ok (.invokevirtual 111, 3) := dK_a_226.1
theorem dX10_aim_51 : decode cX10_aim 51 = .ok (.ireturn, 1) := dK_a_226.2.1
theorem dX10_aim_52 : decode cX10_aim 52 = .ok (.iconst 0, 1) := dK_a_226.2.2.1
theorem dX10_aim_53 : decode cX10_aim 53 = .ok (.istore 6, 2) := dK_a_226.2.2.2.1
theorem dX10_aim_55 : decode cX10_aim 55 = .ok (.sipush 10001, 3) := dK_a_226.2.2.2.2.1
theorem dX10_aim_58 : decode cX10_aim 58 = .ok (.istore 7, 2) := dK_a_226.2.2.2.2.2.1
theorem dX10_aim_60 : decode cX10_aim 60 = .ok (.iconst 0, 1) := dK_a_226.2.2.2.2.2.2.1
theorem dX10_aim_61 : decode cX10_aim 61 = .ok (.istore 8, 2) := dK_a_226.2.2.2.2.2.2.2.1
theorem dK_a_227 : dk_P cX10_aim [(63, (.iload 8, 2)), (65, (.bipush 20, 2)), (67, (.if_icmp .gt 59, 3)), (70, (.aload_n 0, 1)), (71, (.aload_n 0, 1)), (72, (.getfield 72, 3)), (75, (.iload_n 1, 1)), (76, (.invokevirtual 169, 3))] := dk_of 63 (by decide +kernel)
theorem dX10_aim_63 : decode cX10_aim 63 = .ok (.iload 8, 2) := dK_a_227.1
theorem dX10_aim_65 : decode cX10_aim 65 = .ok (.bipush 20, 2) := dK_a_227.2.1
theorem dX10_aim_67 : decode cX10_aim 67 = .ok (.if_icmp .gt 59, 3) := dK_a_227.2.2.1
theorem dX10_aim_70 : decode cX10_aim 70 = .ok (.aload_n 0, 1) := dK_a_227.2.2.2.1
theorem dX10_aim_71 : decode cX10_aim 71 = .ok (.aload_n 0, 1) := dK_a_227.2.2.2.2.1
theorem dX10_aim_72 : decode cX10_aim 72 = .ok (.getfield 72, 3) := dK_a_227.2.2.2.2.2.1
theorem dX10_aim_75 : decode cX10_aim 75 = .ok (.iload_n 1, 1) := dK_a_227.2.2.2.2.2.2.1
theorem dX10_aim_76 : decode cX10_aim 76 = .ok (.invokevirtual 169, 3) := dK_a_227.2.2.2.2.2.2.2.1
theorem dK_a_228 : dk_P cX10_aim [(79, (.iload 8, 2)), (81, (.invokevirtual 282, 3)), (84, (.aload_n 0, 1)), (85, (.getfield 35, 3)), (88, (.aload_n 0, 1)), (89, (.getfield 35, 3)), (92, (.iload_n 3, 1)), (93, (.invokevirtual 273, 3))] := dk_of 79 (by decide +kernel)
theorem dX10_aim_79 : decode cX10_aim 79 = .ok (.iload 8, 2) := dK_a_228.1
theorem dX10_aim_81 : decode cX10_aim 81 = .ok (.invokevirtual 282, 3) := dK_a_228.2.1
theorem dX10_aim_84 : decode cX10_aim 84 = .ok (.aload_n 0, 1) := dK_a_228.2.2.1
theorem dX10_aim_85 : decode cX10_aim 85 = .ok (.getfield 35, 3) := dK_a_228.2.2.2.1
theorem dX10_aim_88 : decode cX10_aim 88 = .ok (.aload_n 0, 1) := dK_a_228.2.2.2.2.1
theorem dX10_aim_89 : decode cX10_aim 89 = .ok (.getfield 35, 3) := dK_a_228.2.2.2.2.2.1
theorem dX10_aim_92 : decode cX10_aim 92 = .ok (.iload_n 3, 1) := dK_a_228.2.2.2.2.2.2.1
theorem dX10_aim_93 : decode cX10_aim 93 = .ok (.invokevirtual 273, 3) := dK_a_228.2.2.2.2.2.2.2.1
theorem dK_a_229 : dk_P cX10_aim [(96, (.invokevirtual 320, 3)), (99, (.iload_n 2, 1)), (100, (.invokestatic 324, 3)), (103, (.istore 9, 2)), (105, (.iload 9, 2)), (107, (.iload 7, 2)), (109, (.if_icmp .ge 11, 3)), (112, (.iload 9, 2))] := dk_of 96 (by decide +kernel)
theorem dX10_aim_96 : decode cX10_aim 96 = .ok (.invokevirtual 320, 3) := dK_a_229.1
theorem dX10_aim_99 : decode cX10_aim 99 = .ok (.iload_n 2, 1) := dK_a_229.2.1
theorem dX10_aim_100 : decode cX10_aim 100 = .ok (.invokestatic 324, 3) := dK_a_229.2.2.1
theorem dX10_aim_103 : decode cX10_aim 103 = .ok (.istore 9, 2) := dK_a_229.2.2.2.1
theorem dX10_aim_105 : decode cX10_aim 105 = .ok (.iload 9, 2) := dK_a_229.2.2.2.2.1
theorem dX10_aim_107 : decode cX10_aim 107 = .ok (.iload 7, 2) := dK_a_229.2.2.2.2.2.1
theorem dX10_aim_109 : decode cX10_aim 109 = .ok (.if_icmp .ge 11, 3) := dK_a_229.2.2.2.2.2.2.1
theorem dX10_aim_112 : decode cX10_aim 112 = .ok (.iload 9, 2) := dK_a_229.2.2.2.2.2.2.2.1
theorem dK_a_230 : dk_P cX10_aim [(114, (.istore 7, 2)), (116, (.iload 8, 2)), (118, (.istore 6, 2)), (120, (.iinc 8 1, 3)), (123, (.goto (-60), 3)), (126, (.iload 4, 2)), (128, (.ifCond .ne 8, 3)), (131, (.iload 6, 2))] := dk_of 114 (by decide +kernel)
theorem dX10_aim_114 : decode cX10_aim 114 = .ok (.istore 7, 2) := dK_a_230.1
theorem dX10_aim_116 : decode cX10_aim 116 = .ok (.iload 8, 2) := dK_a_230.2.1
theorem dX10_aim_118 : decode cX10_aim 118 = .ok (.istore 6, 2) := dK_a_230.2.2.1
theorem dX10_aim_120 : decode cX10_aim 120 = .ok (.iinc 8 1, 3) := dK_a_230.2.2.2.1
theorem dX10_aim_123 : decode cX10_aim 123 = .ok (.goto (-60), 3) := dK_a_230.2.2.2.2.1
theorem dX10_aim_126 : decode cX10_aim 126 = .ok (.iload 4, 2) := dK_a_230.2.2.2.2.2.1
theorem dX10_aim_128 : decode cX10_aim 128 = .ok (.ifCond .ne 8, 3) := dK_a_230.2.2.2.2.2.2.1
theorem dX10_aim_131 : decode cX10_aim 131 = .ok (.iload 6, 2) := dK_a_230.2.2.2.2.2.2.2.1
theorem dK_a_231 : dk_P cX10_aim [(133, (.goto 9, 3)), (136, (.sipush 10000, 3)), (139, (.iload 7, 2)), (141, (.isub, 1)), (142, (.ireturn, 1))] := dk_of 133 (by decide +kernel)
theorem dX10_aim_133 : decode cX10_aim 133 = .ok (.goto 9, 3) := dK_a_231.1
theorem dX10_aim_136 : decode cX10_aim 136 = .ok (.sipush 10000, 3) := dK_a_231.2.1
theorem dX10_aim_139 : decode cX10_aim 139 = .ok (.iload 7, 2) := dK_a_231.2.2.1
theorem dX10_aim_141 : decode cX10_aim 141 = .ok (.isub, 1) := dK_a_231.2.2.2.1
theorem dX10_aim_142 : decode cX10_aim 142 = .ok (.ireturn, 1) := dK_a_231.2.2.2.2.1
theorem dK_a_232 : dk_P cX10_leftOf [(0, (.sipush 10000, 3)), (3, (.istore_n 2, 1)), (4, (.iconst 0, 1)), (5, (.istore_n 3, 1)), (6, (.iload_n 3, 1)), (7, (.iload_n 1, 1)), (8, (.if_icmp .ge 21, 3)), (11, (.iload_n 2, 1))] := dk_of 0 (by decide +kernel)
theorem dX10_leftOf_0 : decode cX10_leftOf 0 = .ok (.sipush 10000, 3) := dK_a_232.1
theorem dX10_leftOf_3 : decode cX10_leftOf 3 = .ok (.istore_n 2, 1) := dK_a_232.2.1
theorem dX10_leftOf_4 : decode cX10_leftOf 4 = .ok (.iconst 0, 1) := dK_a_232.2.2.1
theorem dX10_leftOf_5 : decode cX10_leftOf 5 = .ok (.istore_n 3, 1) := dK_a_232.2.2.2.1
theorem dX10_leftOf_6 : decode cX10_leftOf 6 = .ok (.iload_n 3, 1) := dK_a_232.2.2.2.2.1
theorem dX10_leftOf_7 : decode cX10_leftOf 7 = .ok (.iload_n 1, 1) := dK_a_232.2.2.2.2.2.1
theorem dX10_leftOf_8 : decode cX10_leftOf 8 = .ok (.if_icmp .ge 21, 3) := dK_a_232.2.2.2.2.2.2.1
theorem dX10_leftOf_11 : decode cX10_leftOf 11 = .ok (.iload_n 2, 1) := dK_a_232.2.2.2.2.2.2.2.1
theorem dK_a_233 : dk_P cX10_leftOf [(12, (.sipush 10000, 3)), (15, (.iload_n 0, 1)), (16, (.isub, 1)), (17, (.imul, 1)), (18, (.sipush 10000, 3)), (21, (.idiv, 1)), (22, (.istore_n 2, 1)), (23, (.iinc 3 1, 3))] := dk_of 12 (by decide +kernel)
theorem dX10_leftOf_12 : decode cX10_leftOf 12 = .ok (.sipush 10000, 3) := dK_a_233.1
theorem dX10_leftOf_15 : decode cX10_leftOf 15 = .ok (.iload_n 0, 1) := dK_a_233.2.1
theorem dX10_leftOf_16 : decode cX10_leftOf 16 = .ok (.isub, 1) := dK_a_233.2.2.1
theorem dX10_leftOf_17 : decode cX10_leftOf 17 = .ok (.imul, 1) := dK_a_233.2.2.2.1
theorem dX10_leftOf_18 : decode cX10_leftOf 18 = .ok (.sipush 10000, 3) := dK_a_233.2.2.2.2.1
theorem dX10_leftOf_21 : decode cX10_leftOf 21 = .ok (.idiv, 1) := dK_a_233.2.2.2.2.2.1
theorem dX10_leftOf_22 : decode cX10_leftOf 22 = .ok (.istore_n 2, 1) := dK_a_233.2.2.2.2.2.2.1
theorem dX10_leftOf_23 : decode cX10_leftOf 23 = .ok (.iinc 3 1, 3) := dK_a_233.2.2.2.2.2.2.2.1
theorem dK_a_234 : dk_P cX10_leftOf [(26, (.goto (-20), 3)), (29, (.iload_n 2, 1)), (30, (.ireturn, 1))] := dk_of 26 (by decide +kernel)
theorem dX10_leftOf_26 : decode cX10_leftOf 26 = .ok (.goto (-20), 3) := dK_a_234.1
theorem dX10_leftOf_29 : decode cX10_leftOf 29 = .ok (.iload_n 2, 1) := dK_a_234.2.1
theorem dX10_leftOf_30 : decode cX10_leftOf 30 = .ok (.ireturn, 1) := dK_a_234.2.2.1
theorem dK_a_235 : dk_P cX10_tooLong [(0, (.aload_n 0, 1)), (1, (.getfield 327, 3)), (4, (.ifCond .ne 10, 3)), (7, (.aload_n 0, 1)), (8, (.bipush (-3), 2)), (10, (.invokevirtual 111, 3)), (13, (.ireturn, 1)), (14, (.iconst 0, 1))] := dk_of 0 (by decide +kernel)
theorem dX10_tooLong_0 : decode cX10_tooLong 0 = .ok (.aload_n 0, 1) := dK_a_235.1
theorem dX10_tooLong_1 : decode cX10_tooLong 1 = .ok (.getfield 327, 3) := dK_a_235.2.1
theorem dX10_tooLong_4 : decode cX10_tooLong 4 = .ok (.ifCond .ne 10, 3) := dK_a_235.2.2.1
theorem dX10_tooLong_7 : decode cX10_tooLong 7 = .ok (.aload_n 0, 1) := dK_a_235.2.2.2.1
theorem dX10_tooLong_8 : decode cX10_tooLong 8 = .ok (.bipush (-3), 2) := dK_a_235.2.2.2.2.1
theorem dX10_tooLong_10 : decode cX10_tooLong 10 = .ok (.invokevirtual 111, 3) := dK_a_235.2.2.2.2.2.1
theorem dX10_tooLong_13 : decode cX10_tooLong 13 = .ok (.ireturn, 1) := dK_a_235.2.2.2.2.2.2.1
theorem dX10_tooLong_14 : decode cX10_tooLong 14 = .ok (.iconst 0, 1) := dK_a_235.2.2.2.2.2.2.2.1
theorem dK_a_236 : dk_P cX10_tooLong [(15, (.istore_n 1, 1)), (16, (.iconst 0, 1)), (17, (.istore_n 2, 1)), (18, (.iload_n 2, 1)), (19, (.aload_n 0, 1)), (20, (.getfield 327, 3)), (23, (.if_icmp .ge 21, 3)), (26, (.iload_n 1, 1))] := dk_of 15 (by decide +kernel)
theorem dX10_tooLong_15 : decode cX10_tooLong 15 = .ok (.istore_n 1, 1) := dK_a_236.1
theorem dX10_tooLong_16 : decode cX10_tooLong 16 = .ok (.iconst 0, 1) := dK_a_236.2.1
theorem dX10_tooLong_17 : decode cX10_tooLong 17 = .ok (.istore_n 2, 1) := dK_a_236.2.2.1
theorem dX10_tooLong_18 : decode cX10_tooLong 18 = .ok (.iload_n 2, 1) := dK_a_236.2.2.2.1
theorem dX10_tooLong_19 : decode cX10_tooLong 19 = .ok (.aload_n 0, 1) := dK_a_236.2.2.2.2.1
theorem dX10_tooLong_20 : decode cX10_tooLong 20 = .ok (.getfield 327, 3) := dK_a_236.2.2.2.2.2.1
theorem dX10_tooLong_23 : decode cX10_tooLong 23 = .ok (.if_icmp .ge 21, 3) := dK_a_236.2.2.2.2.2.2.1
theorem dX10_tooLong_26 : decode cX10_tooLong 26 = .ok (.iload_n 1, 1) := dK_a_236.2.2.2.2.2.2.2.1
theorem dK_a_237 : dk_P cX10_tooLong [(27, (.aload_n 0, 1)), (28, (.getfield 19, 3)), (31, (.iload_n 2, 1)), (32, (.iaload, 1)), (33, (.bipush 50, 2)), (35, (.isub, 1)), (36, (.iadd, 1)), (37, (.istore_n 1, 1))] := dk_of 27 (by decide +kernel)
theorem dX10_tooLong_27 : decode cX10_tooLong 27 = .ok (.aload_n 0, 1) := dK_a_237.1
theorem dX10_tooLong_28 : decode cX10_tooLong 28 = .ok (.getfield 19, 3) := dK_a_237.2.1
theorem dX10_tooLong_31 : decode cX10_tooLong 31 = .ok (.iload_n 2, 1) := dK_a_237.2.2.1
theorem dX10_tooLong_32 : decode cX10_tooLong 32 = .ok (.iaload, 1) := dK_a_237.2.2.2.1
theorem dX10_tooLong_33 : decode cX10_tooLong 33 = .ok (.bipush 50, 2) := dK_a_237.2.2.2.2.1
theorem dX10_tooLong_35 : decode cX10_tooLong 35 = .ok (.isub, 1) := dK_a_237.2.2.2.2.2.1
theorem dX10_tooLong_36 : decode cX10_tooLong 36 = .ok (.iadd, 1) := dK_a_237.2.2.2.2.2.2.1
theorem dX10_tooLong_37 : decode cX10_tooLong 37 = .ok (.istore_n 1, 1) := dK_a_237.2.2.2.2.2.2.2.1
theorem dK_a_238 : dk_P cX10_tooLong [(38, (.iinc 2 1, 3)), (41, (.goto (-23), 3)), (44, (.iload_n 1, 1)), (45, (.ifCond .le 7, 3)), (48, (.iconst 1, 1)), (49, (.goto 12, 3)), (52, (.iload_n 1, 1)), (53, (.ifCond .ge 7, 3))] := dk_of 38 (by decide +kernel)
theorem dX10_tooLong_38 : decode cX10_tooLong 38 = .ok (.iinc 2 1, 3) := dK_a_238.1
theorem dX10_tooLong_41 : decode cX10_tooLong 41 = .ok (.goto (-23), 3) := dK_a_238.2.1
theorem dX10_tooLong_44 : decode cX10_tooLong 44 = .ok (.iload_n 1, 1) := dK_a_238.2.2.1
theorem dX10_tooLong_45 : decode cX10_tooLong 45 = .ok (.ifCond .le 7, 3) := dK_a_238.2.2.2.1
theorem dX10_tooLong_48 : decode cX10_tooLong 48 = .ok (.iconst 1, 1) := dK_a_238.2.2.2.2.1
theorem dX10_tooLong_49 : decode cX10_tooLong 49 = .ok (.goto 12, 3) := dK_a_238.2.2.2.2.2.1
theorem dX10_tooLong_52 : decode cX10_tooLong 52 = .ok (.iload_n 1, 1) := dK_a_238.2.2.2.2.2.2.1
theorem dX10_tooLong_53 : decode cX10_tooLong 53 = .ok (.ifCond .ge 7, 3) := dK_a_238.2.2.2.2.2.2.2.1
theorem dK_a_239 : dk_P cX10_tooLong [(56, (.iconst 2, 1)), (57, (.goto 4, 3)), (60, (.iconst 0, 1)), (61, (.ireturn, 1))] := dk_of 56 (by decide +kernel)
theorem dX10_tooLong_56 : decode cX10_tooLong 56 = .ok (.iconst 2, 1) := dK_a_239.1
theorem dX10_tooLong_57 : decode cX10_tooLong 57 = .ok (.goto 4, 3) := dK_a_239.2.1
theorem dX10_tooLong_60 : decode cX10_tooLong 60 = .ok (.iconst 0, 1) := dK_a_239.2.2.1
theorem dX10_tooLong_61 : decode cX10_tooLong 61 = .ok (.ireturn, 1) := dK_a_239.2.2.2.1
theorem dK_a_240 : dk_P cX10_unlike [(0, (.aload_n 0, 1)), (1, (.getfield 327, 3)), (4, (.ifCond .ne 12, 3)), (7, (.aload_n 0, 1)), (8, (.bipush (-3), 2)), (10, (.invokevirtual 111, 3)), (13, (.goto 17, 3)), (16, (.aload_n 0, 1))] := dk_of 0 (by decide +kernel)
theorem dX10_unlike_0 : decode cX10_unlike 0 = .ok (.aload_n 0, 1) := dK_a_240.1
theorem dX10_unlike_1 : decode cX10_unlike 1 = .ok (.getfield 327, 3) := dK_a_240.2.1
theorem dX10_unlike_4 : decode cX10_unlike 4 = .ok (.ifCond .ne 12, 3) := dK_a_240.2.2.1
theorem dX10_unlike_7 : decode cX10_unlike 7 = .ok (.aload_n 0, 1) := dK_a_240.2.2.2.1
theorem dX10_unlike_8 : decode cX10_unlike 8 = .ok (.bipush (-3), 2) := dK_a_240.2.2.2.2.1
theorem dX10_unlike_10 : decode cX10_unlike 10 = .ok (.invokevirtual 111, 3) := dK_a_240.2.2.2.2.2.1
theorem dX10_unlike_13 : decode cX10_unlike 13 = .ok (.goto 17, 3) := dK_a_240.2.2.2.2.2.2.1
theorem dX10_unlike_16 : decode cX10_unlike 16 = .ok (.aload_n 0, 1) := dK_a_240.2.2.2.2.2.2.2.1
theorem dK_a_241 : dk_P cX10_unlike [(17, (.iconst 0, 1)), (18, (.invokevirtual 330, 3)), (21, (.aload_n 0, 1)), (22, (.aload_n 0, 1)), (23, (.getfield 327, 3)), (26, (.invokevirtual 333, 3)), (29, (.isub, 1)), (30, (.ireturn, 1))] := dk_of 17 (by decide +kernel)
theorem dX10_unlike_17 : decode cX10_unlike 17 = .ok (.iconst 0, 1) := dK_a_241.1
theorem dX10_unlike_18 : decode cX10_unlike 18 = .ok (.invokevirtual 330, 3) := dK_a_241.2.1
theorem dX10_unlike_21 : decode cX10_unlike 21 = .ok (.aload_n 0, 1) := dK_a_241.2.2.1
theorem dX10_unlike_22 : decode cX10_unlike 22 = .ok (.aload_n 0, 1) := dK_a_241.2.2.2.1
theorem dX10_unlike_23 : decode cX10_unlike 23 = .ok (.getfield 327, 3) := dK_a_241.2.2.2.2.1
theorem dX10_unlike_26 : decode cX10_unlike 26 = .ok (.invokevirtual 333, 3) := dK_a_241.2.2.2.2.2.1
theorem dX10_unlike_29 : decode cX10_unlike 29 = .ok (.isub, 1) := dK_a_241.2.2.2.2.2.2.1
theorem dX10_unlike_30 : decode cX10_unlike 30 = .ok (.ireturn, 1) := dK_a_241.2.2.2.2.2.2.2.1
theorem dK_a_242 : dk_P cX10_greatestFrom [(0, (.iconst 0, 1)), (1, (.istore_n 2, 1)), (2, (.iload_n 1, 1)), (3, (.istore_n 3, 1)), (4, (.iload_n 3, 1)), (5, (.aload_n 0, 1)), (6, (.getfield 327, 3)), (9, (.if_icmp .ge 20, 3))] := dk_of 0 (by decide +kernel)
theorem dX10_greatestFrom_0 : decode cX10_greatestFrom 0 = .ok (.iconst 0, 1) := dK_a_242.1
theorem dX10_greatestFrom_1 : decode cX10_greatestFrom 1 = .ok (.istore_n 2, 1) := dK_a_242.2.1
theorem dX10_greatestFrom_2 : decode cX10_greatestFrom 2 = .ok (.iload_n 1, 1) := dK_a_242.2.2.1
theorem dX10_greatestFrom_3 : decode cX10_greatestFrom 3 = .ok (.istore_n 3, 1) := dK_a_242.2.2.2.1
theorem dX10_greatestFrom_4 : decode cX10_greatestFrom 4 = .ok (.iload_n 3, 1) := dK_a_242.2.2.2.2.1
theorem dX10_greatestFrom_5 : decode cX10_greatestFrom 5 = .ok (.aload_n 0, 1) := dK_a_242.2.2.2.2.2.1
theorem dX10_greatestFrom_6 : decode cX10_greatestFrom 6 = .ok (.getfield 327, 3) := dK_a_242.2.2.2.2.2.2.1
theorem dX10_greatestFrom_9 : decode cX10_greatestFrom 9 = .ok (.if_icmp .ge 20, 3) := dK_a_242.2.2.2.2.2.2.2.1
theorem dK_a_243 : dk_P cX10_greatestFrom [(12, (.iload_n 2, 1)), (13, (.aload_n 0, 1)), (14, (.getfield 19, 3)), (17, (.iload_n 3, 1)), (18, (.iaload, 1)), (19, (.invokestatic 286, 3)), (22, (.istore_n 2, 1)), (23, (.iinc 3 1, 3))] := dk_of 12 (by decide +kernel)
theorem dX10_greatestFrom_12 : decode cX10_greatestFrom 12 = .ok (.iload_n 2, 1) := dK_a_243.1
theorem dX10_greatestFrom_13 : decode cX10_greatestFrom 13 = .ok (.aload_n 0, 1) := dK_a_243.2.1
theorem dX10_greatestFrom_14 : decode cX10_greatestFrom 14 = .ok (.getfield 19, 3) := dK_a_243.2.2.1
theorem dX10_greatestFrom_17 : decode cX10_greatestFrom 17 = .ok (.iload_n 3, 1) := dK_a_243.2.2.2.1
theorem dX10_greatestFrom_18 : decode cX10_greatestFrom 18 = .ok (.iaload, 1) := dK_a_243.2.2.2.2.1
theorem dX10_greatestFrom_19 : decode cX10_greatestFrom 19 = .ok (.invokestatic 286, 3) := dK_a_243.2.2.2.2.2.1
theorem dX10_greatestFrom_22 : decode cX10_greatestFrom 22 = .ok (.istore_n 2, 1) := dK_a_243.2.2.2.2.2.2.1
theorem dX10_greatestFrom_23 : decode cX10_greatestFrom 23 = .ok (.iinc 3 1, 3) := dK_a_243.2.2.2.2.2.2.2.1
theorem dK_a_244 : dk_P cX10_greatestFrom [(26, (.goto (-22), 3)), (29, (.iload_n 2, 1)), (30, (.ireturn, 1))] := dk_of 26 (by decide +kernel)
theorem dX10_greatestFrom_26 : decode cX10_greatestFrom 26 = .ok (.goto (-22), 3) := dK_a_244.1
theorem dX10_greatestFrom_29 : decode cX10_greatestFrom 29 = .ok (.iload_n 2, 1) := dK_a_244.2.1
theorem dX10_greatestFrom_30 : decode cX10_greatestFrom 30 = .ok (.ireturn, 1) := dK_a_244.2.2.1
theorem dK_a_245 : dk_P cX10_leastAhead [(0, (.bipush 99, 2)), (2, (.istore_n 2, 1)), (3, (.iconst 0, 1)), (4, (.istore_n 3, 1)), (5, (.iload_n 3, 1)), (6, (.iload_n 1, 1)), (7, (.if_icmp .ge 28, 3)), (10, (.iload_n 3, 1))] := dk_of 0 (by decide +kernel)
theorem dX10_leastAhead_0 : decode cX10_leastAhead 0 = .ok (.bipush 99, 2) := dK_a_245.1
theorem dX10_leastAhead_2 : decode cX10_leastAhead 2 = .ok (.istore_n 2, 1) := dK_a_245.2.1
theorem dX10_leastAhead_3 : decode cX10_leastAhead 3 = .ok (.iconst 0, 1) := dK_a_245.2.2.1
theorem dX10_leastAhead_4 : decode cX10_leastAhead 4 = .ok (.istore_n 3, 1) := dK_a_245.2.2.2.1
theorem dX10_leastAhead_5 : decode cX10_leastAhead 5 = .ok (.iload_n 3, 1) := dK_a_245.2.2.2.2.1
theorem dX10_leastAhead_6 : decode cX10_leastAhead 6 = .ok (.iload_n 1, 1) := dK_a_245.2.2.2.2.2.1
theorem dX10_leastAhead_7 : decode cX10_leastAhead 7 = .ok (.if_icmp .ge 28, 3) := dK_a_245.2.2.2.2.2.2.1
theorem dX10_leastAhead_10 : decode cX10_leastAhead 10 = .ok (.iload_n 3, 1) := dK_a_245.2.2.2.2.2.2.2.1
theorem dK_a_246 : dk_P cX10_leastAhead [(11, (.aload_n 0, 1)), (12, (.getfield 327, 3)), (15, (.if_icmp .ge 20, 3)), (18, (.iload_n 2, 1)), (19, (.aload_n 0, 1)), (20, (.getfield 19, 3)), (23, (.iload_n 3, 1)), (24, (.iaload, 1))] := dk_of 11 (by decide +kernel)
theorem dX10_leastAhead_11 : decode cX10_leastAhead 11 = .ok (.aload_n 0, 1) := dK_a_246.1
theorem dX10_leastAhead_12 : decode cX10_leastAhead 12 = .ok (.getfield 327, 3) := dK_a_246.2.1
theorem dX10_leastAhead_15 : decode cX10_leastAhead 15 = .ok (.if_icmp .ge 20, 3) := dK_a_246.2.2.1
theorem dX10_leastAhead_18 : decode cX10_leastAhead 18 = .ok (.iload_n 2, 1) := dK_a_246.2.2.2.1
theorem dX10_leastAhead_19 : decode cX10_leastAhead 19 = .ok (.aload_n 0, 1) := dK_a_246.2.2.2.2.1
theorem dX10_leastAhead_20 : decode cX10_leastAhead 20 = .ok (.getfield 19, 3) := dK_a_246.2.2.2.2.2.1
theorem dX10_leastAhead_23 : decode cX10_leastAhead 23 = .ok (.iload_n 3, 1) := dK_a_246.2.2.2.2.2.2.1
theorem dX10_leastAhead_24 : decode cX10_leastAhead 24 = .ok (.iaload, 1) := dK_a_246.2.2.2.2.2.2.2.1
theorem dK_a_247 : dk_P cX10_leastAhead [(25, (.invokestatic 291, 3)), (28, (.istore_n 2, 1)), (29, (.iinc 3 1, 3)), (32, (.goto (-27), 3)), (35, (.iload_n 2, 1)), (36, (.ireturn, 1))] := dk_of 25 (by decide +kernel)
theorem dX10_leastAhead_25 : decode cX10_leastAhead 25 = .ok (.invokestatic 291, 3) := dK_a_247.1
theorem dX10_leastAhead_28 : decode cX10_leastAhead 28 = .ok (.istore_n 2, 1) := dK_a_247.2.1
theorem dX10_leastAhead_29 : decode cX10_leastAhead 29 = .ok (.iinc 3 1, 3) := dK_a_247.2.2.1
theorem dX10_leastAhead_32 : decode cX10_leastAhead 32 = .ok (.goto (-27), 3) := dK_a_247.2.2.2.1
theorem dX10_leastAhead_35 : decode cX10_leastAhead 35 = .ok (.iload_n 2, 1) := dK_a_247.2.2.2.2.1
theorem dX10_leastAhead_36 : decode cX10_leastAhead 36 = .ok (.ireturn, 1) := dK_a_247.2.2.2.2.2.1
theorem dK_a_248 : dk_P cX10_moved [(0, (.iload_n 1, 1)), (1, (.iconst 1, 1)), (2, (.bipush 99, 2)), (4, (.invokestatic 104, 3)), (7, (.istore_n 2, 1)), (8, (.iload_n 2, 1)), (9, (.ifCond .eq 9, 3)), (12, (.aload_n 0, 1))] := dk_of 0 (by decide +kernel)
theorem dX10_moved_0 : decode cX10_moved 0 = .ok (.iload_n 1, 1) := dK_a_248.1
theorem dX10_moved_1 : decode cX10_moved 1 = .ok (.iconst 1, 1) := dK_a_248.2.1
theorem dX10_moved_2 : decode cX10_moved 2 = .ok (.bipush 99, 2) := dK_a_248.2.2.1
theorem dX10_moved_4 : decode cX10_moved 4 = .ok (.invokestatic 104, 3) := dK_a_248.2.2.2.1
theorem dX10_moved_7 : decode cX10_moved 7 = .ok (.istore_n 2, 1) := dK_a_248.2.2.2.2.1
theorem dX10_moved_8 : decode cX10_moved 8 = .ok (.iload_n 2, 1) := dK_a_248.2.2.2.2.2.1
theorem dX10_moved_9 : decode cX10_moved 9 = .ok (.ifCond .eq 9, 3) := dK_a_248.2.2.2.2.2.2.1
theorem dX10_moved_12 : decode cX10_moved 12 = .ok (.aload_n 0, 1) := dK_a_248.2.2.2.2.2.2.2.1
theorem dK_a_249 : dk_P cX10_moved [(13, (.iload_n 2, 1)), (14, (.invokevirtual 111, 3)), (17, (.ireturn, 1)), (18, (.iconst 1, 1)), (19, (.istore_n 3, 1)), (20, (.iload_n 3, 1)), (21, (.aload_n 0, 1)), (22, (.getfield 327, 3))] := dk_of 13 (by decide +kernel)
theorem dX10_moved_13 : decode cX10_moved 13 = .ok (.iload_n 2, 1) := dK_a_249.1
theorem dX10_moved_14 : decode cX10_moved 14 = .ok (.invokevirtual 111, 3) := dK_a_249.2.1
theorem dX10_moved_17 : decode cX10_moved 17 = .ok (.ireturn, 1) := dK_a_249.2.2.1
theorem dX10_moved_18 : decode cX10_moved 18 = .ok (.iconst 1, 1) := dK_a_249.2.2.2.1
theorem dX10_moved_19 : decode cX10_moved 19 = .ok (.istore_n 3, 1) := dK_a_249.2.2.2.2.1
theorem dX10_moved_20 : decode cX10_moved 20 = .ok (.iload_n 3, 1) := dK_a_249.2.2.2.2.2.1
theorem dX10_moved_21 : decode cX10_moved 21 = .ok (.aload_n 0, 1) := dK_a_249.2.2.2.2.2.2.1
theorem dX10_moved_22 : decode cX10_moved 22 = .ok (.getfield 327, 3) := dK_a_249.2.2.2.2.2.2.2.1
theorem dK_a_250 : dk_P cX10_moved [(25, (.if_icmp .ge 26, 3)), (28, (.aload_n 0, 1)), (29, (.iload_n 3, 1)), (30, (.invokevirtual 330, 3)), (33, (.aload_n 0, 1)), (34, (.iload_n 3, 1)), (35, (.invokevirtual 333, 3)), (38, (.iload_n 1, 1))] := dk_of 25 (by decide +kernel)
theorem dX10_moved_25 : decode cX10_moved 25 = .ok (.if_icmp .ge 26, 3) := dK_a_250.1
theorem dX10_moved_28 : decode cX10_moved 28 = .ok (.aload_n 0, 1) := dK_a_250.2.1
theorem dX10_moved_29 : decode cX10_moved 29 = .ok (.iload_n 3, 1) := dK_a_250.2.2.1
theorem dX10_moved_30 : decode cX10_moved 30 = .ok (.invokevirtual 330, 3) := dK_a_250.2.2.2.1
theorem dX10_moved_33 : decode cX10_moved 33 = .ok (.aload_n 0, 1) := dK_a_250.2.2.2.2.1
theorem dX10_moved_34 : decode cX10_moved 34 = .ok (.iload_n 3, 1) := dK_a_250.2.2.2.2.2.1
theorem dX10_moved_35 : decode cX10_moved 35 = .ok (.invokevirtual 333, 3) := dK_a_250.2.2.2.2.2.2.1
theorem dX10_moved_38 : decode cX10_moved 38 = .ok (.iload_n 1, 1) := dK_a_250.2.2.2.2.2.2.2.1
theorem dK_a_251 : dk_P cX10_moved [(39, (.isub, 1)), (40, (.if_icmp .gt 5, 3)), (43, (.iload_n 3, 1)), (44, (.ireturn, 1)), (45, (.iinc 3 1, 3)), (48, (.goto (-28), 3)), (51, (.bipush (-9), 2)), (53, (.ireturn, 1))] := dk_of 39 (by decide +kernel)
theorem dX10_moved_39 : decode cX10_moved 39 = .ok (.isub, 1) := dK_a_251.1
theorem dX10_moved_40 : decode cX10_moved 40 = .ok (.if_icmp .gt 5, 3) := dK_a_251.2.1
theorem dX10_moved_43 : decode cX10_moved 43 = .ok (.iload_n 3, 1) := dK_a_251.2.2.1
theorem dX10_moved_44 : decode cX10_moved 44 = .ok (.ireturn, 1) := dK_a_251.2.2.2.1
theorem dX10_moved_45 : decode cX10_moved 45 = .ok (.iinc 3 1, 3) := dK_a_251.2.2.2.2.1
theorem dX10_moved_48 : decode cX10_moved 48 = .ok (.goto (-28), 3) := dK_a_251.2.2.2.2.2.1
theorem dX10_moved_51 : decode cX10_moved 51 = .ok (.bipush (-9), 2) := dK_a_251.2.2.2.2.2.2.1
theorem dX10_moved_53 : decode cX10_moved 53 = .ok (.ireturn, 1) := dK_a_251.2.2.2.2.2.2.2.1
theorem dK_a_252 : dk_P cX10_gusts [(0, (.aload_n 0, 1)), (1, (.iload_n 1, 1)), (2, (.invokevirtual 93, 3)), (5, (.aload_n 0, 1)), (6, (.iconst 0, 1)), (7, (.invokevirtual 330, 3)), (10, (.bipush 18, 2)), (12, (.if_icmp .le 8, 3))] := dk_of 0 (by decide +kernel)
theorem dX10_gusts_0 : decode cX10_gusts 0 = .ok (.aload_n 0, 1) := dK_a_252.1
theorem dX10_gusts_1 : decode cX10_gusts 1 = .ok (.iload_n 1, 1) := dK_a_252.2.1
theorem dX10_gusts_2 : decode cX10_gusts 2 = .ok (.invokevirtual 93, 3) := dK_a_252.2.2.1
theorem dX10_gusts_5 : decode cX10_gusts 5 = .ok (.aload_n 0, 1) := dK_a_252.2.2.2.1
theorem dX10_gusts_6 : decode cX10_gusts 6 = .ok (.iconst 0, 1) := dK_a_252.2.2.2.2.1
theorem dX10_gusts_7 : decode cX10_gusts 7 = .ok (.invokevirtual 330, 3) := dK_a_252.2.2.2.2.2.1
theorem dX10_gusts_10 : decode cX10_gusts 10 = .ok (.bipush 18, 2) := dK_a_252.2.2.2.2.2.2.1
theorem dX10_gusts_12 : decode cX10_gusts 12 = .ok (.if_icmp .le 8, 3) := dK_a_252.2.2.2.2.2.2.2.1
theorem dK_a_253 : dk_P cX10_gusts [(15, (.bipush (-3), 2)), (17, (.goto 4, 3)), (20, (.iconst 0, 1)), (21, (.invokestatic 97, 3)), (24, (.istore_n 2, 1)), (25, (.iload_n 2, 1)), (26, (.ifCond .eq 9, 3)), (29, (.aload_n 0, 1))] := dk_of 15 (by decide +kernel)
theorem dX10_gusts_15 : decode cX10_gusts 15 = .ok (.bipush (-3), 2) := dK_a_253.1
theorem dX10_gusts_17 : decode cX10_gusts 17 = .ok (.goto 4, 3) := dK_a_253.2.1
theorem dX10_gusts_20 : decode cX10_gusts 20 = .ok (.iconst 0, 1) := dK_a_253.2.2.1
theorem dX10_gusts_21 : decode cX10_gusts 21 = .ok (.invokestatic 97, 3) := dK_a_253.2.2.2.1
theorem dX10_gusts_24 : decode cX10_gusts 24 = .ok (.istore_n 2, 1) := dK_a_253.2.2.2.2.1
theorem dX10_gusts_25 : decode cX10_gusts 25 = .ok (.iload_n 2, 1) := dK_a_253.2.2.2.2.2.1
theorem dX10_gusts_26 : decode cX10_gusts 26 = .ok (.ifCond .eq 9, 3) := dK_a_253.2.2.2.2.2.2.1
theorem dX10_gusts_29 : decode cX10_gusts 29 = .ok (.aload_n 0, 1) := dK_a_253.2.2.2.2.2.2.2.1
theorem dK_a_254 : dk_P cX10_gusts [(30, (.iload_n 2, 1)), (31, (.invokevirtual 111, 3)), (34, (.ireturn, 1)), (35, (.aload_n 0, 1)), (36, (.getfield 72, 3)), (39, (.iload_n 1, 1)), (40, (.invokevirtual 169, 3)), (43, (.astore_n 3, 1))] := dk_of 30 (by decide +kernel)
theorem dX10_gusts_30 : decode cX10_gusts 30 = .ok (.iload_n 2, 1) := dK_a_254.1
theorem dX10_gusts_31 : decode cX10_gusts 31 = .ok (.invokevirtual 111, 3) := dK_a_254.2.1
theorem dX10_gusts_34 : decode cX10_gusts 34 = .ok (.ireturn, 1) := dK_a_254.2.2.1
theorem dX10_gusts_35 : decode cX10_gusts 35 = .ok (.aload_n 0, 1) := dK_a_254.2.2.2.1
theorem dX10_gusts_36 : decode cX10_gusts 36 = .ok (.getfield 72, 3) := dK_a_254.2.2.2.2.1
theorem dX10_gusts_39 : decode cX10_gusts 39 = .ok (.iload_n 1, 1) := dK_a_254.2.2.2.2.2.1
theorem dX10_gusts_40 : decode cX10_gusts 40 = .ok (.invokevirtual 169, 3) := dK_a_254.2.2.2.2.2.2.1
theorem dX10_gusts_43 : decode cX10_gusts 43 = .ok (.astore_n 3, 1) := dK_a_254.2.2.2.2.2.2.2.1
theorem dK_a_255 : dk_P cX10_gusts [(44, (.bipush (-9), 2)), (46, (.istore 4, 2)), (48, (.ldc2_w 280, 3)), (51, (.lstore 5, 2)), (53, (.iconst 0, 1)), (54, (.istore 7, 2)), (56, (.iload 7, 2)), (58, (.aload_n 0, 1))] := dk_of 44 (by decide +kernel)
theorem dX10_gusts_44 : decode cX10_gusts 44 = .ok (.bipush (-9), 2) := dK_a_255.1
theorem dX10_gusts_46 : decode cX10_gusts 46 = .ok (.istore 4, 2) := dK_a_255.2.1
theorem dX10_gusts_48 : decode cX10_gusts 48 = .ok (.ldc2_w 280, 3) := dK_a_255.2.2.1
theorem dX10_gusts_51 : decode cX10_gusts 51 = .ok (.lstore 5, 2) := dK_a_255.2.2.2.1
theorem dX10_gusts_53 : decode cX10_gusts 53 = .ok (.iconst 0, 1) := dK_a_255.2.2.2.2.1
theorem dX10_gusts_54 : decode cX10_gusts 54 = .ok (.istore 7, 2) := dK_a_255.2.2.2.2.2.1
theorem dX10_gusts_56 : decode cX10_gusts 56 = .ok (.iload 7, 2) := dK_a_255.2.2.2.2.2.2.1
theorem dX10_gusts_58 : decode cX10_gusts 58 = .ok (.aload_n 0, 1) := dK_a_255.2.2.2.2.2.2.2.1
theorem dK_a_256 : dk_P cX10_gusts [(59, (.getfield 327, 3)), (62, (.if_icmp .ge 82, 3)), (65, (.aload_n 0, 1)), (66, (.getfield 19, 3)), (69, (.iload 7, 2)), (71, (.iaload, 1)), (72, (.bipush 9, 2)), (74, (.isub, 1))] := dk_of 59 (by decide +kernel)
theorem dX10_gusts_59 : decode cX10_gusts 59 = .ok (.getfield 327, 3) := dK_a_256.1
theorem dX10_gusts_62 : decode cX10_gusts 62 = .ok (.if_icmp .ge 82, 3) := dK_a_256.2.1
theorem dX10_gusts_65 : decode cX10_gusts 65 = .ok (.aload_n 0, 1) := dK_a_256.2.2.1
theorem dX10_gusts_66 : decode cX10_gusts 66 = .ok (.getfield 19, 3) := dK_a_256.2.2.2.1
theorem dX10_gusts_69 : decode cX10_gusts 69 = .ok (.iload 7, 2) := dK_a_256.2.2.2.2.1
theorem dX10_gusts_71 : decode cX10_gusts 71 = .ok (.iaload, 1) := dK_a_256.2.2.2.2.2.1
theorem dX10_gusts_72 : decode cX10_gusts 72 = .ok (.bipush 9, 2) := dK_a_256.2.2.2.2.2.2.1
theorem dX10_gusts_74 : decode cX10_gusts 74 = .ok (.isub, 1) := dK_a_256.2.2.2.2.2.2.2.1
theorem dK_a_257 : dk_P cX10_gusts [(75, (.istore 8, 2)), (77, (.aload_n 0, 1)), (78, (.getfield 35, 3)), (81, (.aload_n 3, 1)), (82, (.aload_n 0, 1)), (83, (.getfield 72, 3)), (86, (.getfield 163, 3)), (89, (.iload 8, 2))] := dk_of 75 (by decide +kernel)
theorem dX10_gusts_75 : decode cX10_gusts 75 = .ok (.istore 8, 2) := dK_a_257.1
theorem dX10_gusts_77 : decode cX10_gusts 77 = .ok (.aload_n 0, 1) := dK_a_257.2.1
theorem dX10_gusts_78 : decode cX10_gusts 78 = .ok (.getfield 35, 3) := dK_a_257.2.2.1
theorem dX10_gusts_81 : decode cX10_gusts 81 = .ok (.aload_n 3, 1) := dK_a_257.2.2.2.1
theorem dX10_gusts_82 : decode cX10_gusts 82 = .ok (.aload_n 0, 1) := dK_a_257.2.2.2.2.1
theorem dX10_gusts_83 : decode cX10_gusts 83 = .ok (.getfield 72, 3) := dK_a_257.2.2.2.2.2.1
theorem dX10_gusts_86 : decode cX10_gusts 86 = .ok (.getfield 163, 3) := dK_a_257.2.2.2.2.2.2.1
theorem dX10_gusts_89 : decode cX10_gusts 89 = .ok (.iload 8, 2) := dK_a_257.2.2.2.2.2.2.2.1
theorem dK_a_258 : dk_P cX10_gusts [(91, (.aload_n 3, 1)), (92, (.getfield 198, 3)), (95, (.aload_n 3, 1)), (96, (.aload_n 0, 1)), (97, (.getfield 72, 3)), (100, (.getfield 163, 3)), (103, (.iload 8, 2)), (105, (.invokevirtual 232, 3))] := dk_of 91 (by decide +kernel)
theorem dX10_gusts_91 : decode cX10_gusts 91 = .ok (.aload_n 3, 1) := dK_a_258.1
theorem dX10_gusts_92 : decode cX10_gusts 92 = .ok (.getfield 198, 3) := dK_a_258.2.1
theorem dX10_gusts_95 : decode cX10_gusts 95 = .ok (.aload_n 3, 1) := dK_a_258.2.2.1
theorem dX10_gusts_96 : decode cX10_gusts 96 = .ok (.aload_n 0, 1) := dK_a_258.2.2.2.1
theorem dX10_gusts_97 : decode cX10_gusts 97 = .ok (.getfield 72, 3) := dK_a_258.2.2.2.2.1
theorem dX10_gusts_100 : decode cX10_gusts 100 = .ok (.getfield 163, 3) := dK_a_258.2.2.2.2.2.1
theorem dX10_gusts_103 : decode cX10_gusts 103 = .ok (.iload 8, 2) := dK_a_258.2.2.2.2.2.2.1
theorem dX10_gusts_105 : decode cX10_gusts 105 = .ok (.invokevirtual 232, 3) := dK_a_258.2.2.2.2.2.2.2.1
theorem dK_a_259 : dk_P cX10_gusts [(108, (.isub, 1)), (109, (.iconst 0, 1)), (110, (.invokevirtual 242, 3)), (113, (.aload_n 0, 1)), (114, (.getfield 35, 3)), (117, (.invokevirtual 269, 3)), (120, (.lstore 9, 2)), (122, (.lload 9, 2))] := dk_of 108 (by decide +kernel)
theorem dX10_gusts_108 : decode cX10_gusts 108 = .ok (.isub, 1) := dK_a_259.1
theorem dX10_gusts_109 : decode cX10_gusts 109 = .ok (.iconst 0, 1) := dK_a_259.2.1
theorem dX10_gusts_110 : decode cX10_gusts 110 = .ok (.invokevirtual 242, 3) := dK_a_259.2.2.1
theorem dX10_gusts_113 : decode cX10_gusts 113 = .ok (.aload_n 0, 1) := dK_a_259.2.2.2.1
theorem dX10_gusts_114 : decode cX10_gusts 114 = .ok (.getfield 35, 3) := dK_a_259.2.2.2.2.1
theorem dX10_gusts_117 : decode cX10_gusts 117 = .ok (.invokevirtual 269, 3) := dK_a_259.2.2.2.2.2.1
theorem dX10_gusts_120 : decode cX10_gusts 120 = .ok (.lstore 9, 2) := dK_a_259.2.2.2.2.2.2.1
theorem dX10_gusts_122 : decode cX10_gusts 122 = .ok (.lload 9, 2) := dK_a_259.2.2.2.2.2.2.2.1
theorem dK_a_260 : dk_P cX10_gusts [(124, (.lload 5, 2)), (126, (.lcmp, 1)), (127, (.ifCond .le 11, 3)), (130, (.lload 9, 2)), (132, (.lstore 5, 2)), (134, (.iload 7, 2)), (136, (.istore 4, 2)), (138, (.iinc 7 1, 3))] := dk_of 124 (by decide +kernel)
theorem dX10_gusts_124 : decode cX10_gusts 124 = .ok (.lload 5, 2) := dK_a_260.1
theorem dX10_gusts_126 : decode cX10_gusts 126 = .ok (.lcmp, 1) := dK_a_260.2.1
theorem dX10_gusts_127 : decode cX10_gusts 127 = .ok (.ifCond .le 11, 3) := dK_a_260.2.2.1
theorem dX10_gusts_130 : decode cX10_gusts 130 = .ok (.lload 9, 2) := dK_a_260.2.2.2.1
theorem dX10_gusts_132 : decode cX10_gusts 132 = .ok (.lstore 5, 2) := dK_a_260.2.2.2.2.1
theorem dX10_gusts_134 : decode cX10_gusts 134 = .ok (.iload 7, 2) := dK_a_260.2.2.2.2.2.1
theorem dX10_gusts_136 : decode cX10_gusts 136 = .ok (.istore 4, 2) := dK_a_260.2.2.2.2.2.2.1
theorem dX10_gusts_138 : decode cX10_gusts 138 = .ok (.iinc 7 1, 3) := dK_a_260.2.2.2.2.2.2.2.1
theorem dK_a_261 : dk_P cX10_gusts [(141, (.goto (-85), 3)), (144, (.iload 4, 2)), (146, (.ireturn, 1))] := dk_of 141 (by decide +kernel)
theorem dX10_gusts_141 : decode cX10_gusts 141 = .ok (.goto (-85), 3) := dK_a_261.1
theorem dX10_gusts_144 : decode cX10_gusts 144 = .ok (.iload 4, 2) := dK_a_261.2.1
theorem dX10_gusts_146 : decode cX10_gusts 146 = .ok (.ireturn, 1) := dK_a_261.2.2.1
theorem dK_a_262 : dk_P cX10_on [(0, (.aload_n 0, 1)), (1, (.iload_n 1, 1)), (2, (.invokevirtual 93, 3)), (5, (.iload_n 2, 1)), (6, (.invokestatic 246, 3)), (9, (.aload_n 0, 1)), (10, (.getfield 72, 3)), (13, (.invokevirtual 336, 3))] := dk_of 0 (by decide +kernel)
theorem dX10_on_0 : decode cX10_on 0 = .ok (.aload_n 0, 1) := dK_a_262.1
theorem dX10_on_1 : decode cX10_on 1 = .ok (.iload_n 1, 1) := dK_a_262.2.1
theorem dX10_on_2 : decode cX10_on 2 = .ok (.invokevirtual 93, 3) := dK_a_262.2.2.1
theorem dX10_on_5 : decode cX10_on 5 = .ok (.iload_n 2, 1) := dK_a_262.2.2.2.1
theorem dX10_on_6 : decode cX10_on 6 = .ok (.invokestatic 246, 3) := dK_a_262.2.2.2.2.1
theorem dX10_on_9 : decode cX10_on 9 = .ok (.aload_n 0, 1) := dK_a_262.2.2.2.2.2.1
theorem dX10_on_10 : decode cX10_on 10 = .ok (.getfield 72, 3) := dK_a_262.2.2.2.2.2.2.1
theorem dX10_on_13 : decode cX10_on 13 = .ok (.invokevirtual 336, 3) := dK_a_262.2.2.2.2.2.2.2.1
theorem dK_a_263 : dk_P cX10_on [(16, (.iconst 2, 1)), (17, (.if_icmp .le 8, 3)), (20, (.bipush (-3), 2)), (22, (.goto 4, 3)), (25, (.iconst 0, 1)), (26, (.invokestatic 97, 3)), (29, (.invokestatic 97, 3)), (32, (.istore_n 3, 1))] := dk_of 16 (by decide +kernel)
theorem dX10_on_16 : decode cX10_on 16 = .ok (.iconst 2, 1) := dK_a_263.1
theorem dX10_on_17 : decode cX10_on 17 = .ok (.if_icmp .le 8, 3) := dK_a_263.2.1
theorem dX10_on_20 : decode cX10_on 20 = .ok (.bipush (-3), 2) := dK_a_263.2.2.1
theorem dX10_on_22 : decode cX10_on 22 = .ok (.goto 4, 3) := dK_a_263.2.2.2.1
theorem dX10_on_25 : decode cX10_on 25 = .ok (.iconst 0, 1) := dK_a_263.2.2.2.2.1
theorem dX10_on_26 : decode cX10_on 26 = .ok (.invokestatic 97, 3) := dK_a_263.2.2.2.2.2.1
theorem dX10_on_29 : decode cX10_on 29 = .ok (.invokestatic 97, 3) := dK_a_263.2.2.2.2.2.2.1
theorem dX10_on_32 : decode cX10_on 32 = .ok (.istore_n 3, 1) := dK_a_263.2.2.2.2.2.2.2.1
theorem dK_a_264 : dk_P cX10_on [(33, (.iload_n 3, 1)), (34, (.ifCond .eq 14, 3)), (37, (.ldc2_w 249, 3)), (40, (.aload_n 0, 1)), (41, (.iload_n 3, 1)), (42, (.invokevirtual 111, 3)), (45, (.i2l, 1)), (46, (.lsub, 1))] := dk_of 33 (by decide +kernel)
theorem dX10_on_33 : decode cX10_on 33 = .ok (.iload_n 3, 1) := dK_a_264.1
theorem dX10_on_34 : decode cX10_on 34 = .ok (.ifCond .eq 14, 3) := dK_a_264.2.1
theorem dX10_on_37 : decode cX10_on 37 = .ok (.ldc2_w 249, 3) := dK_a_264.2.2.1
theorem dX10_on_40 : decode cX10_on 40 = .ok (.aload_n 0, 1) := dK_a_264.2.2.2.1
theorem dX10_on_41 : decode cX10_on 41 = .ok (.iload_n 3, 1) := dK_a_264.2.2.2.2.1
theorem dX10_on_42 : decode cX10_on 42 = .ok (.invokevirtual 111, 3) := dK_a_264.2.2.2.2.2.1
theorem dX10_on_45 : decode cX10_on 45 = .ok (.i2l, 1) := dK_a_264.2.2.2.2.2.2.1
theorem dX10_on_46 : decode cX10_on 46 = .ok (.lsub, 1) := dK_a_264.2.2.2.2.2.2.2.1
theorem dK_a_265 : dk_P cX10_on [(47, (.lreturn, 1)), (48, (.aload_n 0, 1)), (49, (.getfield 72, 3)), (52, (.getfield 89, 3)), (55, (.ifCond .le 21, 3)), (58, (.aload_n 0, 1)), (59, (.getfield 72, 3)), (62, (.getfield 160, 3))] := dk_of 47 (by decide +kernel)
theorem dX10_on_47 : decode cX10_on 47 = .ok (.lreturn, 1) := dK_a_265.1
theorem dX10_on_48 : decode cX10_on 48 = .ok (.aload_n 0, 1) := dK_a_265.2.1
theorem dX10_on_49 : decode cX10_on 49 = .ok (.getfield 72, 3) := dK_a_265.2.2.1
theorem dX10_on_52 : decode cX10_on 52 = .ok (.getfield 89, 3) := dK_a_265.2.2.2.1
theorem dX10_on_55 : decode cX10_on 55 = .ok (.ifCond .le 21, 3) := dK_a_265.2.2.2.2.1
theorem dX10_on_58 : decode cX10_on 58 = .ok (.aload_n 0, 1) := dK_a_265.2.2.2.2.2.1
theorem dX10_on_59 : decode cX10_on 59 = .ok (.getfield 72, 3) := dK_a_265.2.2.2.2.2.2.1
theorem dX10_on_62 : decode cX10_on 62 = .ok (.getfield 160, 3) := dK_a_265.2.2.2.2.2.2.2.1
theorem dK_a_266 : dk_P cX10_on [(65, (.aload_n 0, 1)), (66, (.getfield 72, 3)), (69, (.getfield 89, 3)), (72, (.irem, 1)), (73, (.goto 4, 3)), (76, (.iconst 0, 1)), (77, (.istore 4, 2)), (79, (.aload_n 0, 1))] := dk_of 65 (by decide +kernel)
theorem dX10_on_65 : decode cX10_on 65 = .ok (.aload_n 0, 1) := dK_a_266.1
theorem dX10_on_66 : decode cX10_on 66 = .ok (.getfield 72, 3) := dK_a_266.2.1
theorem dX10_on_69 : decode cX10_on 69 = .ok (.getfield 89, 3) := dK_a_266.2.2.1
theorem dX10_on_72 : decode cX10_on 72 = .ok (.irem, 1) := dK_a_266.2.2.2.1
theorem dX10_on_73 : decode cX10_on 73 = .ok (.goto 4, 3) := dK_a_266.2.2.2.2.1
theorem dX10_on_76 : decode cX10_on 76 = .ok (.iconst 0, 1) := dK_a_266.2.2.2.2.2.1
theorem dX10_on_77 : decode cX10_on 77 = .ok (.istore 4, 2) := dK_a_266.2.2.2.2.2.2.1
theorem dX10_on_79 : decode cX10_on 79 = .ok (.aload_n 0, 1) := dK_a_266.2.2.2.2.2.2.2.1
theorem dK_a_267 : dk_P cX10_on [(80, (.getfield 72, 3)), (83, (.getfield 89, 3)), (86, (.iload 4, 2)), (88, (.isub, 1)), (89, (.istore 5, 2)), (91, (.iload 4, 2)), (93, (.istore 6, 2)), (95, (.iload 6, 2))] := dk_of 80 (by decide +kernel)
theorem dX10_on_80 : decode cX10_on 80 = .ok (.getfield 72, 3) := dK_a_267.1
theorem dX10_on_83 : decode cX10_on 83 = .ok (.getfield 89, 3) := dK_a_267.2.1
theorem dX10_on_86 : decode cX10_on 86 = .ok (.iload 4, 2) := dK_a_267.2.2.1
theorem dX10_on_88 : decode cX10_on 88 = .ok (.isub, 1) := dK_a_267.2.2.2.1
theorem dX10_on_89 : decode cX10_on 89 = .ok (.istore 5, 2) := dK_a_267.2.2.2.2.1
theorem dX10_on_91 : decode cX10_on 91 = .ok (.iload 4, 2) := dK_a_267.2.2.2.2.2.1
theorem dX10_on_93 : decode cX10_on 93 = .ok (.istore 6, 2) := dK_a_267.2.2.2.2.2.2.1
theorem dX10_on_95 : decode cX10_on 95 = .ok (.iload 6, 2) := dK_a_267.2.2.2.2.2.2.2.1
theorem dK_a_268 : dk_P cX10_on [(97, (.aload_n 0, 1)), (98, (.getfield 72, 3)), (101, (.getfield 89, 3)), (104, (.if_icmp .ge 41, 3)), (107, (.aload_n 0, 1)), (108, (.iload 6, 2)), (110, (.iconst 0, 1)), (111, (.invokevirtual 251, 3))] := dk_of 97 (by decide +kernel)
theorem dX10_on_97 : decode cX10_on 97 = .ok (.aload_n 0, 1) := dK_a_268.1
theorem dX10_on_98 : decode cX10_on 98 = .ok (.getfield 72, 3) := dK_a_268.2.1
theorem dX10_on_101 : decode cX10_on 101 = .ok (.getfield 89, 3) := dK_a_268.2.2.1
theorem dX10_on_104 : decode cX10_on 104 = .ok (.if_icmp .ge 41, 3) := dK_a_268.2.2.2.1
theorem dX10_on_107 : decode cX10_on 107 = .ok (.aload_n 0, 1) := dK_a_268.2.2.2.2.1
theorem dX10_on_108 : decode cX10_on 108 = .ok (.iload 6, 2) := dK_a_268.2.2.2.2.2.1
theorem dX10_on_110 : decode cX10_on 110 = .ok (.iconst 0, 1) := dK_a_268.2.2.2.2.2.2.1
theorem dX10_on_111 : decode cX10_on 111 = .ok (.invokevirtual 251, 3) := dK_a_268.2.2.2.2.2.2.2.1
theorem dK_a_269 : dk_P cX10_on [(114, (.aload_n 0, 1)), (115, (.getfield 48, 3)), (118, (.iload 6, 2)), (120, (.aload_n 0, 1)), (121, (.getfield 35, 3)), (124, (.invokevirtual 269, 3)), (127, (.iconst 2, 1)), (128, (.aload_n 0, 1))] := dk_of 114 (by decide +kernel)
theorem dX10_on_114 : decode cX10_on 114 = .ok (.aload_n 0, 1) := dK_a_269.1
theorem dX10_on_115 : decode cX10_on 115 = .ok (.getfield 48, 3) := dK_a_269.2.1
theorem dX10_on_118 : decode cX10_on 118 = .ok (.iload 6, 2) := dK_a_269.2.2.1
theorem dX10_on_120 : decode cX10_on 120 = .ok (.aload_n 0, 1) := dK_a_269.2.2.2.1
theorem dX10_on_121 : decode cX10_on 121 = .ok (.getfield 35, 3) := dK_a_269.2.2.2.2.1
theorem dX10_on_124 : decode cX10_on 124 = .ok (.invokevirtual 269, 3) := dK_a_269.2.2.2.2.2.1
theorem dX10_on_127 : decode cX10_on 127 = .ok (.iconst 2, 1) := dK_a_269.2.2.2.2.2.2.1
theorem dX10_on_128 : decode cX10_on 128 = .ok (.aload_n 0, 1) := dK_a_269.2.2.2.2.2.2.2.1
theorem dK_a_270 : dk_P cX10_on [(129, (.getfield 72, 3)), (132, (.getfield 163, 3)), (135, (.imul, 1)), (136, (.lshr, 1)), (137, (.l2i, 1)), (138, (.iastore, 1)), (139, (.iinc 6 1, 3)), (142, (.goto (-47), 3))] := dk_of 129 (by decide +kernel)
theorem dX10_on_129 : decode cX10_on 129 = .ok (.getfield 72, 3) := dK_a_270.1
theorem dX10_on_132 : decode cX10_on 132 = .ok (.getfield 163, 3) := dK_a_270.2.1
theorem dX10_on_135 : decode cX10_on 135 = .ok (.imul, 1) := dK_a_270.2.2.1
theorem dX10_on_136 : decode cX10_on 136 = .ok (.lshr, 1) := dK_a_270.2.2.2.1
theorem dX10_on_137 : decode cX10_on 137 = .ok (.l2i, 1) := dK_a_270.2.2.2.2.1
theorem dX10_on_138 : decode cX10_on 138 = .ok (.iastore, 1) := dK_a_270.2.2.2.2.2.1
theorem dX10_on_139 : decode cX10_on 139 = .ok (.iinc 6 1, 3) := dK_a_270.2.2.2.2.2.2.1
theorem dX10_on_142 : decode cX10_on 142 = .ok (.goto (-47), 3) := dK_a_270.2.2.2.2.2.2.2.1
theorem dK_a_271 : dk_P cX10_on [(145, (.iconst 0, 1)), (146, (.istore 6, 2)), (148, (.iconst 0, 1)), (149, (.istore 7, 2)), (151, (.iload 7, 2)), (153, (.iconst 1, 1)), (154, (.iload 5, 2)), (156, (.ishl, 1))] := dk_of 145 (by decide +kernel)
theorem dX10_on_145 : decode cX10_on 145 = .ok (.iconst 0, 1) := dK_a_271.1
theorem dX10_on_146 : decode cX10_on 146 = .ok (.istore 6, 2) := dK_a_271.2.1
theorem dX10_on_148 : decode cX10_on 148 = .ok (.iconst 0, 1) := dK_a_271.2.2.1
theorem dX10_on_149 : decode cX10_on 149 = .ok (.istore 7, 2) := dK_a_271.2.2.2.1
theorem dX10_on_151 : decode cX10_on 151 = .ok (.iload 7, 2) := dK_a_271.2.2.2.2.1
theorem dX10_on_153 : decode cX10_on 153 = .ok (.iconst 1, 1) := dK_a_271.2.2.2.2.2.1
theorem dX10_on_154 : decode cX10_on 154 = .ok (.iload 5, 2) := dK_a_271.2.2.2.2.2.2.1
theorem dX10_on_156 : decode cX10_on 156 = .ok (.ishl, 1) := dK_a_271.2.2.2.2.2.2.2.1
theorem dK_a_272 : dk_P cX10_on [(157, (.if_icmp .ge 112, 3)), (160, (.aload_n 0, 1)), (161, (.getfield 72, 3)), (164, (.aload_n 0, 1)), (165, (.getfield 28, 3)), (168, (.iconst 0, 1)), (169, (.aload_n 0, 1)), (170, (.getfield 72, 3))] := dk_of 157 (by decide +kernel)
theorem dX10_on_157 : decode cX10_on 157 = .ok (.if_icmp .ge 112, 3) := dK_a_272.1
theorem dX10_on_160 : decode cX10_on 160 = .ok (.aload_n 0, 1) := dK_a_272.2.1
theorem dX10_on_161 : decode cX10_on 161 = .ok (.getfield 72, 3) := dK_a_272.2.2.1
theorem dX10_on_164 : decode cX10_on 164 = .ok (.aload_n 0, 1) := dK_a_272.2.2.2.1
theorem dX10_on_165 : decode cX10_on 165 = .ok (.getfield 28, 3) := dK_a_272.2.2.2.2.1
theorem dX10_on_168 : decode cX10_on 168 = .ok (.iconst 0, 1) := dK_a_272.2.2.2.2.2.1
theorem dX10_on_169 : decode cX10_on 169 = .ok (.aload_n 0, 1) := dK_a_272.2.2.2.2.2.2.1
theorem dX10_on_170 : decode cX10_on 170 = .ok (.getfield 72, 3) := dK_a_272.2.2.2.2.2.2.2.1
theorem dK_a_273 : dk_P cX10_on [(173, (.getfield 160, 3)), (176, (.invokevirtual 214, 3)), (179, (.iload 4, 2)), (181, (.istore 8, 2)), (183, (.iload 8, 2)), (185, (.aload_n 0, 1)), (186, (.getfield 72, 3)), (189, (.getfield 89, 3))] := dk_of 173 (by decide +kernel)
theorem dX10_on_173 : decode cX10_on 173 = .ok (.getfield 160, 3) := dK_a_273.1
theorem dX10_on_176 : decode cX10_on 176 = .ok (.invokevirtual 214, 3) := dK_a_273.2.1
theorem dX10_on_179 : decode cX10_on 179 = .ok (.iload 4, 2) := dK_a_273.2.2.1
theorem dX10_on_181 : decode cX10_on 181 = .ok (.istore 8, 2) := dK_a_273.2.2.2.1
theorem dX10_on_183 : decode cX10_on 183 = .ok (.iload 8, 2) := dK_a_273.2.2.2.2.1
theorem dX10_on_185 : decode cX10_on 185 = .ok (.aload_n 0, 1) := dK_a_273.2.2.2.2.2.1
theorem dX10_on_186 : decode cX10_on 186 = .ok (.getfield 72, 3) := dK_a_273.2.2.2.2.2.2.1
theorem dX10_on_189 : decode cX10_on 189 = .ok (.getfield 89, 3) := dK_a_273.2.2.2.2.2.2.2.1
theorem dK_a_274 : dk_P cX10_on [(192, (.if_icmp .ge 42, 3)), (195, (.aload_n 0, 1)), (196, (.getfield 28, 3)), (199, (.iload 8, 2)), (201, (.iload 7, 2)), (203, (.iload 8, 2)), (205, (.iload 4, 2)), (207, (.isub, 1))] := dk_of 192 (by decide +kernel)
theorem dX10_on_192 : decode cX10_on 192 = .ok (.if_icmp .ge 42, 3) := dK_a_274.1
theorem dX10_on_195 : decode cX10_on 195 = .ok (.aload_n 0, 1) := dK_a_274.2.1
theorem dX10_on_196 : decode cX10_on 196 = .ok (.getfield 28, 3) := dK_a_274.2.2.1
theorem dX10_on_199 : decode cX10_on 199 = .ok (.iload 8, 2) := dK_a_274.2.2.2.1
theorem dX10_on_201 : decode cX10_on 201 = .ok (.iload 7, 2) := dK_a_274.2.2.2.2.1
theorem dX10_on_203 : decode cX10_on 203 = .ok (.iload 8, 2) := dK_a_274.2.2.2.2.2.1
theorem dX10_on_205 : decode cX10_on 205 = .ok (.iload 4, 2) := dK_a_274.2.2.2.2.2.2.1
theorem dX10_on_207 : decode cX10_on 207 = .ok (.isub, 1) := dK_a_274.2.2.2.2.2.2.2.1
theorem dK_a_275 : dk_P cX10_on [(208, (.ishr, 1)), (209, (.iconst 1, 1)), (210, (.iand, 1)), (211, (.ifCond .eq 13, 3)), (214, (.aload_n 0, 1)), (215, (.getfield 48, 3)), (218, (.iload 8, 2)), (220, (.iaload, 1))] := dk_of 208 (by decide +kernel)
theorem dX10_on_208 : decode cX10_on 208 = .ok (.ishr, 1) := dK_a_275.1
theorem dX10_on_209 : decode cX10_on 209 = .ok (.iconst 1, 1) := dK_a_275.2.1
theorem dX10_on_210 : decode cX10_on 210 = .ok (.iand, 1) := dK_a_275.2.2.1
theorem dX10_on_211 : decode cX10_on 211 = .ok (.ifCond .eq 13, 3) := dK_a_275.2.2.2.1
theorem dX10_on_214 : decode cX10_on 214 = .ok (.aload_n 0, 1) := dK_a_275.2.2.2.2.1
theorem dX10_on_215 : decode cX10_on 215 = .ok (.getfield 48, 3) := dK_a_275.2.2.2.2.2.1
theorem dX10_on_218 : decode cX10_on 218 = .ok (.iload 8, 2) := dK_a_275.2.2.2.2.2.2.1
theorem dX10_on_220 : decode cX10_on 220 = .ok (.iaload, 1) := dK_a_275.2.2.2.2.2.2.2.1
theorem dK_a_276 : dk_P cX10_on [(221, (.goto 4, 3)), (224, (.iconst 0, 1)), (225, (.invokevirtual 339, 3)), (228, (.iinc 8 1, 3)), (231, (.goto (-48), 3)), (234, (.iload 6, 2))] := dk_of 221 (by decide +kernel)
theorem dX10_on_221 : decode cX10_on 221 = .ok (.goto 4, 3) := dK_a_276.1
theorem dX10_on_224 : decode cX10_on 224 = .ok (.iconst 0, 1) := dK_a_276.2.1
theorem dX10_on_225 : decode cX10_on 225 = .ok (.invokevirtual 339, 3) := dK_a_276.2.2.1
theorem dX10_on_228 : decode cX10_on 228 = .ok (.iinc 8 1, 3) := dK_a_276.2.2.2.1
theorem dX10_on_231 : decode cX10_on 231 = .ok (.goto (-48), 3) := dK_a_276.2.2.2.2.1
theorem dX10_on_234 : decode cX10_on 234 = .ok (.iload 6, 2) := dK_a_276.2.2.2.2.2.1
