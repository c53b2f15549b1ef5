theorem dK_c_0 : dk_P cX11_init [(0, (.aload_n 0, 1)), (1, (.invokespecial 1, 3)), (4, (.aload_n 0, 1)), (5, (.bipush 7, 2)), (7, (.newarray .int, 2)), (9, (.putfield 7, 3)), (12, (.aload_n 0, 1)), (13, (.iconst 4, 1))] := dk_of 0 (by decide +kernel)
theorem dX11_init_0 : decode cX11_init 0 = .ok (.aload_n 0, 1) := dK_c_0.1
theorem dX11_init_1 : decode cX11_init 1 = .ok (.invokespecial 1, 3) := dK_c_0.2.1
theorem dX11_init_4 : decode cX11_init 4 = .ok (.aload_n 0, 1) := dK_c_0.2.2.1
theorem dX11_init_5 : decode cX11_init 5 = .ok (.bipush 7, 2) := dK_c_0.2.2.2.1
theorem dX11_init_7 : decode cX11_init 7 = .ok (.newarray .int, 2) := dK_c_0.2.2.2.2.1
theorem dX11_init_9 : decode cX11_init 9 = .ok (.putfield 7, 3) := dK_c_0.2.2.2.2.2.1
theorem dX11_init_12 : decode cX11_init 12 = .ok (.aload_n 0, 1) := dK_c_0.2.2.2.2.2.2.1
theorem dX11_init_13 : decode cX11_init 13 = .ok (.iconst 4, 1) := dK_c_0.2.2.2.2.2.2.2.1
theorem dK_c_1 : dk_P cX11_init [(14, (.newarray .int, 2)), (16, (.putfield 13, 3)), (19, (.aload_n 0, 1)), (20, (.iconst 4, 1)), (21, (.newarray .int, 2)), (23, (.putfield 16, 3)), (26, (.aload_n 0, 1)), (27, (.iconst 4, 1))] := dk_of 14 (by decide +kernel)
theorem dX11_init_14 : decode cX11_init 14 = .ok (.newarray .int, 2) := dK_c_1.1
theorem dX11_init_16 : decode cX11_init 16 = .ok (.putfield 13, 3) := dK_c_1.2.1
theorem dX11_init_19 : decode cX11_init 19 = .ok (.aload_n 0, 1) := dK_c_1.2.2.1
theorem dX11_init_20 : decode cX11_init 20 = .ok (.iconst 4, 1) := dK_c_1.2.2.2.1
theorem dX11_init_21 : decode cX11_init 21 = .ok (.newarray .int, 2) := dK_c_1.2.2.2.2.1
theorem dX11_init_23 : decode cX11_init 23 = .ok (.putfield 16, 3) := dK_c_1.2.2.2.2.2.1
theorem dX11_init_26 : decode cX11_init 26 = .ok (.aload_n 0, 1) := dK_c_1.2.2.2.2.2.2.1
theorem dX11_init_27 : decode cX11_init 27 = .ok (.iconst 4, 1) := dK_c_1.2.2.2.2.2.2.2.1
theorem dK_c_2 : dk_P cX11_init [(28, (.newarray .int, 2)), (30, (.putfield 19, 3)), (33, (.aload_n 0, 1)), (34, (.iconst 4, 1)), (35, (.newarray .int, 2)), (37, (.putfield 22, 3)), (40, (.aload_n 0, 1)), (41, (.iconst 4, 1))] := dk_of 28 (by decide +kernel)
theorem dX11_init_28 : decode cX11_init 28 = .ok (.newarray .int, 2) := dK_c_2.1
theorem dX11_init_30 : decode cX11_init 30 = .ok (.putfield 19, 3) := dK_c_2.2.1
theorem dX11_init_33 : decode cX11_init 33 = .ok (.aload_n 0, 1) := dK_c_2.2.2.1
theorem dX11_init_34 : decode cX11_init 34 = .ok (.iconst 4, 1) := dK_c_2.2.2.2.1
theorem dX11_init_35 : decode cX11_init 35 = .ok (.newarray .int, 2) := dK_c_2.2.2.2.2.1
theorem dX11_init_37 : decode cX11_init 37 = .ok (.putfield 22, 3) := dK_c_2.2.2.2.2.2.1
theorem dX11_init_40 : decode cX11_init 40 = .ok (.aload_n 0, 1) := dK_c_2.2.2.2.2.2.2.1
theorem dX11_init_41 : decode cX11_init 41 = .ok (.iconst 4, 1) := dK_c_2.2.2.2.2.2.2.2.1
theorem dK_c_3 : dk_P cX11_init [(42, (.newarray .int, 2)), (44, (.putfield 25, 3)), (47, (.aload_n 0, 1)), (48, (.iconst 4, 1)), (49, (.newarray .int, 2)), (51, (.putfield 28, 3)), (54, (.aload_n 0, 1)), (55, (.iconst 4, 1))] := dk_of 42 (by decide +kernel)
theorem dX11_init_42 : decode cX11_init 42 = .ok (.newarray .int, 2) := dK_c_3.1
theorem dX11_init_44 : decode cX11_init 44 = .ok (.putfield 25, 3) := dK_c_3.2.1
theorem dX11_init_47 : decode cX11_init 47 = .ok (.aload_n 0, 1) := dK_c_3.2.2.1
theorem dX11_init_48 : decode cX11_init 48 = .ok (.iconst 4, 1) := dK_c_3.2.2.2.1
theorem dX11_init_49 : decode cX11_init 49 = .ok (.newarray .int, 2) := dK_c_3.2.2.2.2.1
theorem dX11_init_51 : decode cX11_init 51 = .ok (.putfield 28, 3) := dK_c_3.2.2.2.2.2.1
theorem dX11_init_54 : decode cX11_init 54 = .ok (.aload_n 0, 1) := dK_c_3.2.2.2.2.2.2.1
theorem dX11_init_55 : decode cX11_init 55 = .ok (.iconst 4, 1) := dK_c_3.2.2.2.2.2.2.2.1
theorem dK_c_4 : dk_P cX11_init [(56, (.newarray .int, 2)), (58, (.putfield 31, 3)), (61, (.aload_n 0, 1)), (62, (.iconst 4, 1)), (63, (.newarray .int, 2)), (65, (.putfield 34, 3)), (68, (.aload_n 0, 1)), (69, (.bipush 24, 2))] := dk_of 56 (by decide +kernel)
theorem dX11_init_56 : decode cX11_init 56 = .ok (.newarray .int, 2) := dK_c_4.1
theorem dX11_init_58 : decode cX11_init 58 = .ok (.putfield 31, 3) := dK_c_4.2.1
theorem dX11_init_61 : decode cX11_init 61 = .ok (.aload_n 0, 1) := dK_c_4.2.2.1
theorem dX11_init_62 : decode cX11_init 62 = .ok (.iconst 4, 1) := dK_c_4.2.2.2.1
theorem dX11_init_63 : decode cX11_init 63 = .ok (.newarray .int, 2) := dK_c_4.2.2.2.2.1
theorem dX11_init_65 : decode cX11_init 65 = .ok (.putfield 34, 3) := dK_c_4.2.2.2.2.2.1
theorem dX11_init_68 : decode cX11_init 68 = .ok (.aload_n 0, 1) := dK_c_4.2.2.2.2.2.2.1
theorem dX11_init_69 : decode cX11_init 69 = .ok (.bipush 24, 2) := dK_c_4.2.2.2.2.2.2.2.1
theorem dK_c_5 : dk_P cX11_init [(71, (.newarray .int, 2)), (73, (.putfield 37, 3)), (76, (.aload_n 0, 1)), (77, (.bipush 24, 2)), (79, (.newarray .int, 2)), (81, (.putfield 40, 3)), (84, (.aload_n 0, 1)), (85, (.bipush 24, 2))] := dk_of 71 (by decide +kernel)
theorem dX11_init_71 : decode cX11_init 71 = .ok (.newarray .int, 2) := dK_c_5.1
theorem dX11_init_73 : decode cX11_init 73 = .ok (.putfield 37, 3) := dK_c_5.2.1
theorem dX11_init_76 : decode cX11_init 76 = .ok (.aload_n 0, 1) := dK_c_5.2.2.1
theorem dX11_init_77 : decode cX11_init 77 = .ok (.bipush 24, 2) := dK_c_5.2.2.2.1
theorem dX11_init_79 : decode cX11_init 79 = .ok (.newarray .int, 2) := dK_c_5.2.2.2.2.1
theorem dX11_init_81 : decode cX11_init 81 = .ok (.putfield 40, 3) := dK_c_5.2.2.2.2.2.1
theorem dX11_init_84 : decode cX11_init 84 = .ok (.aload_n 0, 1) := dK_c_5.2.2.2.2.2.2.1
theorem dX11_init_85 : decode cX11_init 85 = .ok (.bipush 24, 2) := dK_c_5.2.2.2.2.2.2.2.1
theorem dK_c_6 : dk_P cX11_init [(87, (.newarray .int, 2)), (89, (.putfield 43, 3)), (92, (.aload_n 0, 1)), (93, (.bipush 96, 2)), (95, (.newarray .int, 2)), (97, (.putfield 46, 3)), (100, (.aload_n 0, 1)), (101, (.bipush 48, 2))] := dk_of 87 (by decide +kernel)
theorem dX11_init_87 : decode cX11_init 87 = .ok (.newarray .int, 2) := dK_c_6.1
theorem dX11_init_89 : decode cX11_init 89 = .ok (.putfield 43, 3) := dK_c_6.2.1
theorem dX11_init_92 : decode cX11_init 92 = .ok (.aload_n 0, 1) := dK_c_6.2.2.1
theorem dX11_init_93 : decode cX11_init 93 = .ok (.bipush 96, 2) := dK_c_6.2.2.2.1
theorem dX11_init_95 : decode cX11_init 95 = .ok (.newarray .int, 2) := dK_c_6.2.2.2.2.1
theorem dX11_init_97 : decode cX11_init 97 = .ok (.putfield 46, 3) := dK_c_6.2.2.2.2.2.1
theorem dX11_init_100 : decode cX11_init 100 = .ok (.aload_n 0, 1) := dK_c_6.2.2.2.2.2.2.1
theorem dX11_init_101 : decode cX11_init 101 = .ok (.bipush 48, 2) := dK_c_6.2.2.2.2.2.2.2.1
theorem dK_c_7 : dk_P cX11_init [(103, (.newarray .int, 2)), (105, (.putfield 49, 3)), (108, (.aload_n 0, 1)), (109, (.bipush 48, 2)), (111, (.newarray .int, 2)), (113, (.putfield 52, 3)), (116, (.aload_n 0, 1)), (117, (.sipush 384, 3))] := dk_of 103 (by decide +kernel)
theorem dX11_init_103 : decode cX11_init 103 = .ok (.newarray .int, 2) := dK_c_7.1
theorem dX11_init_105 : decode cX11_init 105 = .ok (.putfield 49, 3) := dK_c_7.2.1
theorem dX11_init_108 : decode cX11_init 108 = .ok (.aload_n 0, 1) := dK_c_7.2.2.1
theorem dX11_init_109 : decode cX11_init 109 = .ok (.bipush 48, 2) := dK_c_7.2.2.2.1
theorem dX11_init_111 : decode cX11_init 111 = .ok (.newarray .int, 2) := dK_c_7.2.2.2.2.1
theorem dX11_init_113 : decode cX11_init 113 = .ok (.putfield 52, 3) := dK_c_7.2.2.2.2.2.1
theorem dX11_init_116 : decode cX11_init 116 = .ok (.aload_n 0, 1) := dK_c_7.2.2.2.2.2.2.1
theorem dX11_init_117 : decode cX11_init 117 = .ok (.sipush 384, 3) := dK_c_7.2.2.2.2.2.2.2.1
theorem dK_c_8 : dk_P cX11_init [(120, (.newarray .int, 2)), (122, (.putfield 55, 3)), (125, (.aload_n 0, 1)), (126, (.sipush 240, 3)), (129, (.newarray .int, 2)), (131, (.putfield 58, 3)), (134, (.aload_n 0, 1)), (135, (.bipush 41, 2))] := dk_of 120 (by decide +kernel)
theorem dX11_init_120 : decode cX11_init 120 = .ok (.newarray .int, 2) := dK_c_8.1
theorem dX11_init_122 : decode cX11_init 122 = .ok (.putfield 55, 3) := dK_c_8.2.1
theorem dX11_init_125 : decode cX11_init 125 = .ok (.aload_n 0, 1) := dK_c_8.2.2.1
theorem dX11_init_126 : decode cX11_init 126 = .ok (.sipush 240, 3) := dK_c_8.2.2.2.1
theorem dX11_init_129 : decode cX11_init 129 = .ok (.newarray .int, 2) := dK_c_8.2.2.2.2.1
theorem dX11_init_131 : decode cX11_init 131 = .ok (.putfield 58, 3) := dK_c_8.2.2.2.2.2.1
theorem dX11_init_134 : decode cX11_init 134 = .ok (.aload_n 0, 1) := dK_c_8.2.2.2.2.2.2.1
theorem dX11_init_135 : decode cX11_init 135 = .ok (.bipush 41, 2) := dK_c_8.2.2.2.2.2.2.2.1
theorem dK_c_9 : dk_P cX11_init [(137, (.newarray .long, 2)), (139, (.putfield 61, 3)), (142, (.aload_n 0, 1)), (143, (.bipush 41, 2)), (145, (.newarray .long, 2)), (147, (.putfield 65, 3)), (150, (.aload_n 0, 1)), (151, (.iconst 4, 1))] := dk_of 137 (by decide +kernel)
theorem dX11_init_137 : decode cX11_init 137 = .ok (.newarray .long, 2) := dK_c_9.1
theorem dX11_init_139 : decode cX11_init 139 = .ok (.putfield 61, 3) := dK_c_9.2.1
theorem dX11_init_142 : decode cX11_init 142 = .ok (.aload_n 0, 1) := dK_c_9.2.2.1
theorem dX11_init_143 : decode cX11_init 143 = .ok (.bipush 41, 2) := dK_c_9.2.2.2.1
theorem dX11_init_145 : decode cX11_init 145 = .ok (.newarray .long, 2) := dK_c_9.2.2.2.2.1
theorem dX11_init_147 : decode cX11_init 147 = .ok (.putfield 65, 3) := dK_c_9.2.2.2.2.2.1
theorem dX11_init_150 : decode cX11_init 150 = .ok (.aload_n 0, 1) := dK_c_9.2.2.2.2.2.2.1
theorem dX11_init_151 : decode cX11_init 151 = .ok (.iconst 4, 1) := dK_c_9.2.2.2.2.2.2.2.1
theorem dK_c_10 : dk_P cX11_init [(152, (.newarray .int, 2)), (154, (.putfield 68, 3)), (157, (.aload_n 0, 1)), (158, (.iconst 4, 1)), (159, (.newarray .int, 2)), (161, (.putfield 71, 3)), (164, (.aload_n 0, 1)), (165, (.iconst 4, 1))] := dk_of 152 (by decide +kernel)
theorem dX11_init_152 : decode cX11_init 152 = .ok (.newarray .int, 2) := dK_c_10.1
theorem dX11_init_154 : decode cX11_init 154 = .ok (.putfield 68, 3) := dK_c_10.2.1
theorem dX11_init_157 : decode cX11_init 157 = .ok (.aload_n 0, 1) := dK_c_10.2.2.1
theorem dX11_init_158 : decode cX11_init 158 = .ok (.iconst 4, 1) := dK_c_10.2.2.2.1
theorem dX11_init_159 : decode cX11_init 159 = .ok (.newarray .int, 2) := dK_c_10.2.2.2.2.1
theorem dX11_init_161 : decode cX11_init 161 = .ok (.putfield 71, 3) := dK_c_10.2.2.2.2.2.1
theorem dX11_init_164 : decode cX11_init 164 = .ok (.aload_n 0, 1) := dK_c_10.2.2.2.2.2.2.1
theorem dX11_init_165 : decode cX11_init 165 = .ok (.iconst 4, 1) := dK_c_10.2.2.2.2.2.2.2.1
theorem dK_c_11 : dk_P cX11_init [(166, (.newarray .int, 2)), (168, (.putfield 74, 3)), (171, (.aload_n 0, 1)), (172, (.bipush 12, 2)), (174, (.newarray .int, 2)), (176, (.putfield 77, 3)), (179, (.aload_n 0, 1)), (180, (.iconst 4, 1))] := dk_of 166 (by decide +kernel)
theorem dX11_init_166 : decode cX11_init 166 = .ok (.newarray .int, 2) := dK_c_11.1
theorem dX11_init_168 : decode cX11_init 168 = .ok (.putfield 74, 3) := dK_c_11.2.1
theorem dX11_init_171 : decode cX11_init 171 = .ok (.aload_n 0, 1) := dK_c_11.2.2.1
theorem dX11_init_172 : decode cX11_init 172 = .ok (.bipush 12, 2) := dK_c_11.2.2.2.1
theorem dX11_init_174 : decode cX11_init 174 = .ok (.newarray .int, 2) := dK_c_11.2.2.2.2.1
theorem dX11_init_176 : decode cX11_init 176 = .ok (.putfield 77, 3) := dK_c_11.2.2.2.2.2.1
theorem dX11_init_179 : decode cX11_init 179 = .ok (.aload_n 0, 1) := dK_c_11.2.2.2.2.2.2.1
theorem dX11_init_180 : decode cX11_init 180 = .ok (.iconst 4, 1) := dK_c_11.2.2.2.2.2.2.2.1
theorem dK_c_12 : dk_P cX11_init [(181, (.newarray .int, 2)), (183, (.putfield 80, 3)), (186, (.aload_n 0, 1)), (187, (.sipush 1000, 3)), (190, (.newarray .long, 2)), (192, (.putfield 83, 3)), (195, (.aload_n 0, 1)), (196, (.sipush 1000, 3))] := dk_of 181 (by decide +kernel)
theorem dX11_init_181 : decode cX11_init 181 = .ok (.newarray .int, 2) := dK_c_12.1
theorem dX11_init_183 : decode cX11_init 183 = .ok (.putfield 80, 3) := dK_c_12.2.1
theorem dX11_init_186 : decode cX11_init 186 = .ok (.aload_n 0, 1) := dK_c_12.2.2.1
theorem dX11_init_187 : decode cX11_init 187 = .ok (.sipush 1000, 3) := dK_c_12.2.2.2.1
theorem dX11_init_190 : decode cX11_init 190 = .ok (.newarray .long, 2) := dK_c_12.2.2.2.2.1
theorem dX11_init_192 : decode cX11_init 192 = .ok (.putfield 83, 3) := dK_c_12.2.2.2.2.2.1
theorem dX11_init_195 : decode cX11_init 195 = .ok (.aload_n 0, 1) := dK_c_12.2.2.2.2.2.2.1
theorem dX11_init_196 : decode cX11_init 196 = .ok (.sipush 1000, 3) := dK_c_12.2.2.2.2.2.2.2.1
theorem dK_c_13 : dk_P cX11_init [(199, (.newarray .long, 2)), (201, (.putfield 86, 3)), (204, (.aload_n 0, 1)), (205, (.bipush 9, 2)), (207, (.newarray .int, 2)), (209, (.putfield 89, 3)), (212, (.aload_n 0, 1)), (213, (.bipush 6, 2))] := dk_of 199 (by decide +kernel)
theorem dX11_init_199 : decode cX11_init 199 = .ok (.newarray .long, 2) := dK_c_13.1
theorem dX11_init_201 : decode cX11_init 201 = .ok (.putfield 86, 3) := dK_c_13.2.1
theorem dX11_init_204 : decode cX11_init 204 = .ok (.aload_n 0, 1) := dK_c_13.2.2.1
theorem dX11_init_205 : decode cX11_init 205 = .ok (.bipush 9, 2) := dK_c_13.2.2.2.1
theorem dX11_init_207 : decode cX11_init 207 = .ok (.newarray .int, 2) := dK_c_13.2.2.2.2.1
theorem dX11_init_209 : decode cX11_init 209 = .ok (.putfield 89, 3) := dK_c_13.2.2.2.2.2.1
theorem dX11_init_212 : decode cX11_init 212 = .ok (.aload_n 0, 1) := dK_c_13.2.2.2.2.2.2.1
theorem dX11_init_213 : decode cX11_init 213 = .ok (.bipush 6, 2) := dK_c_13.2.2.2.2.2.2.2.1
theorem dK_c_14 : dk_P cX11_init [(215, (.newarray .int, 2)), (217, (.putfield 92, 3)), (220, (.aload_n 0, 1)), (221, (.bipush 10, 2)), (223, (.putfield 95, 3)), (226, (.aload_n 0, 1)), (227, (.iconst 2, 1)), (228, (.putfield 99, 3))] := dk_of 215 (by decide +kernel)
theorem dX11_init_215 : decode cX11_init 215 = .ok (.newarray .int, 2) := dK_c_14.1
theorem dX11_init_217 : decode cX11_init 217 = .ok (.putfield 92, 3) := dK_c_14.2.1
theorem dX11_init_220 : decode cX11_init 220 = .ok (.aload_n 0, 1) := dK_c_14.2.2.1
theorem dX11_init_221 : decode cX11_init 221 = .ok (.bipush 10, 2) := dK_c_14.2.2.2.1
theorem dX11_init_223 : decode cX11_init 223 = .ok (.putfield 95, 3) := dK_c_14.2.2.2.2.1
theorem dX11_init_226 : decode cX11_init 226 = .ok (.aload_n 0, 1) := dK_c_14.2.2.2.2.2.1
theorem dX11_init_227 : decode cX11_init 227 = .ok (.iconst 2, 1) := dK_c_14.2.2.2.2.2.2.1
theorem dX11_init_228 : decode cX11_init 228 = .ok (.putfield 99, 3) := dK_c_14.2.2.2.2.2.2.2.1
theorem dK_c_15 : dk_P cX11_init [(231, (.return_, 1))] := dk_of 231 (by decide +kernel)
theorem dX11_init_231 : decode cX11_init 231 = .ok (.return_, 1) := dK_c_15.1
theorem dK_c_16 : dk_P cX11_no [(0, (.aload_n 0, 1)), (1, (.getfield 7, 3)), (4, (.iload_n 1, 1)), (5, (.ineg, 1)), (6, (.dup2, 1)), (7, (.iaload, 1)), (8, (.iconst 1, 1)), (9, (.iadd, 1))] := dk_of 0 (by decide +kernel)
theorem dX11_no_0 : decode cX11_no 0 = .ok (.aload_n 0, 1) := dK_c_16.1
theorem dX11_no_1 : decode cX11_no 1 = .ok (.getfield 7, 3) := dK_c_16.2.1
theorem dX11_no_4 : decode cX11_no 4 = .ok (.iload_n 1, 1) := dK_c_16.2.2.1
theorem dX11_no_5 : decode cX11_no 5 = .ok (.ineg, 1) := dK_c_16.2.2.2.1
theorem dX11_no_6 : decode cX11_no 6 = .ok (.dup2, 1) := dK_c_16.2.2.2.2.1
theorem dX11_no_7 : decode cX11_no 7 = .ok (.iaload, 1) := dK_c_16.2.2.2.2.2.1
theorem dX11_no_8 : decode cX11_no 8 = .ok (.iconst 1, 1) := dK_c_16.2.2.2.2.2.2.1
theorem dX11_no_9 : decode cX11_no 9 = .ok (.iadd, 1) := dK_c_16.2.2.2.2.2.2.2.1
theorem dK_c_17 : dk_P cX11_no [(10, (.iastore, 1)), (11, (.iload_n 1, 1)), (12, (.ireturn, 1))] := dk_of 10 (by decide +kernel)
theorem dX11_no_10 : decode cX11_no 10 = .ok (.iastore, 1) := dK_c_17.1
theorem dX11_no_11 : decode cX11_no 11 = .ok (.iload_n 1, 1) := dK_c_17.2.1
theorem dX11_no_12 : decode cX11_no 12 = .ok (.ireturn, 1) := dK_c_17.2.2.1
theorem dK_c_18 : dk_P cX11_lower [(0, (.aload_n 0, 1)), (1, (.getfield 7, 3)), (4, (.iload_n 1, 1)), (5, (.ineg, 1)), (6, (.dup2, 1)), (7, (.iaload, 1)), (8, (.iconst 1, 1)), (9, (.iadd, 1))] := dk_of 0 (by decide +kernel)
theorem dX11_lower_0 : decode cX11_lower 0 = .ok (.aload_n 0, 1) := dK_c_18.1
theorem dX11_lower_1 : decode cX11_lower 1 = .ok (.getfield 7, 3) := dK_c_18.2.1
theorem dX11_lower_4 : decode cX11_lower 4 = .ok (.iload_n 1, 1) := dK_c_18.2.2.1
theorem dX11_lower_5 : decode cX11_lower 5 = .ok (.ineg, 1) := dK_c_18.2.2.2.1
theorem dX11_lower_6 : decode cX11_lower 6 = .ok (.dup2, 1) := dK_c_18.2.2.2.2.1
theorem dX11_lower_7 : decode cX11_lower 7 = .ok (.iaload, 1) := dK_c_18.2.2.2.2.2.1
theorem dX11_lower_8 : decode cX11_lower 8 = .ok (.iconst 1, 1) := dK_c_18.2.2.2.2.2.2.1
theorem dX11_lower_9 : decode cX11_lower 9 = .ok (.iadd, 1) := dK_c_18.2.2.2.2.2.2.2.1
theorem dK_c_19 : dk_P cX11_lower [(10, (.iastore, 1)), (11, (.ldc 102, 2)), (13, (.iload_n 1, 1)), (14, (.isub, 1)), (15, (.ireturn, 1))] := dk_of 10 (by decide +kernel)
theorem dX11_lower_10 : decode cX11_lower 10 = .ok (.iastore, 1) := dK_c_19.1
theorem dX11_lower_11 : decode cX11_lower 11 = .ok (.ldc 102, 2) := dK_c_19.2.1
theorem dX11_lower_13 : decode cX11_lower 13 = .ok (.iload_n 1, 1) := dK_c_19.2.2.1
theorem dX11_lower_14 : decode cX11_lower 14 = .ok (.isub, 1) := dK_c_19.2.2.2.1
theorem dX11_lower_15 : decode cX11_lower 15 = .ok (.ireturn, 1) := dK_c_19.2.2.2.2.1
theorem dK_c_20 : dk_P cX11_lowest [(0, (.aload_n 0, 1)), (1, (.getfield 7, 3)), (4, (.iload_n 1, 1)), (5, (.ineg, 1)), (6, (.dup2, 1)), (7, (.iaload, 1)), (8, (.iconst 1, 1)), (9, (.iadd, 1))] := dk_of 0 (by decide +kernel)
theorem dX11_lowest_0 : decode cX11_lowest 0 = .ok (.aload_n 0, 1) := dK_c_20.1
theorem dX11_lowest_1 : decode cX11_lowest 1 = .ok (.getfield 7, 3) := dK_c_20.2.1
theorem dX11_lowest_4 : decode cX11_lowest 4 = .ok (.iload_n 1, 1) := dK_c_20.2.2.1
theorem dX11_lowest_5 : decode cX11_lowest 5 = .ok (.ineg, 1) := dK_c_20.2.2.2.1
theorem dX11_lowest_6 : decode cX11_lowest 6 = .ok (.dup2, 1) := dK_c_20.2.2.2.2.1
theorem dX11_lowest_7 : decode cX11_lowest 7 = .ok (.iaload, 1) := dK_c_20.2.2.2.2.2.1
theorem dX11_lowest_8 : decode cX11_lowest 8 = .ok (.iconst 1, 1) := dK_c_20.2.2.2.2.2.2.1
theorem dX11_lowest_9 : decode cX11_lowest 9 = .ok (.iadd, 1) := dK_c_20.2.2.2.2.2.2.2.1
theorem dK_c_21 : dk_P cX11_lowest [(10, (.iastore, 1)), (11, (.ldc2_w 103, 3)), (14, (.iload_n 1, 1)), (15, (.i2l, 1)), (16, (.lsub, 1)), (17, (.lreturn, 1))] := dk_of 10 (by decide +kernel)
theorem dX11_lowest_10 : decode cX11_lowest 10 = .ok (.iastore, 1) := dK_c_21.1
theorem dX11_lowest_11 : decode cX11_lowest 11 = .ok (.ldc2_w 103, 3) := dK_c_21.2.1
theorem dX11_lowest_14 : decode cX11_lowest 14 = .ok (.iload_n 1, 1) := dK_c_21.2.2.1
theorem dX11_lowest_15 : decode cX11_lowest 15 = .ok (.i2l, 1) := dK_c_21.2.2.2.1
theorem dX11_lowest_16 : decode cX11_lowest 16 = .ok (.lsub, 1) := dK_c_21.2.2.2.2.1
theorem dX11_lowest_17 : decode cX11_lowest 17 = .ok (.lreturn, 1) := dK_c_21.2.2.2.2.2.1
theorem dK_c_22 : dk_P cX11_isIn [(0, (.iload_n 0, 1)), (1, (.iload_n 1, 1)), (2, (.if_icmp .lt 12, 3)), (5, (.iload_n 0, 1)), (6, (.iload_n 2, 1)), (7, (.if_icmp .gt 7, 3)), (10, (.iconst 1, 1)), (11, (.goto 4, 3))] := dk_of 0 (by decide +kernel)
theorem dX11_isIn_0 : decode cX11_isIn 0 = .ok (.iload_n 0, 1) := dK_c_22.1
theorem dX11_isIn_1 : decode cX11_isIn 1 = .ok (.iload_n 1, 1) := dK_c_22.2.1
theorem dX11_isIn_2 : decode cX11_isIn 2 = .ok (.if_icmp .lt 12, 3) := dK_c_22.2.2.1
theorem dX11_isIn_5 : decode cX11_isIn 5 = .ok (.iload_n 0, 1) := dK_c_22.2.2.2.1
theorem dX11_isIn_6 : decode cX11_isIn 6 = .ok (.iload_n 2, 1) := dK_c_22.2.2.2.2.1
theorem dX11_isIn_7 : decode cX11_isIn 7 = .ok (.if_icmp .gt 7, 3) := dK_c_22.2.2.2.2.2.1
theorem dX11_isIn_10 : decode cX11_isIn 10 = .ok (.iconst 1, 1) := dK_c_22.2.2.2.2.2.2.1
theorem dX11_isIn_11 : decode cX11_isIn 11 = .ok (.goto 4, 3) := dK_c_22.2.2.2.2.2.2.2.1
theorem dK_c_23 : dk_P cX11_isIn [(14, (.iconst 0, 1)), (15, (.ireturn, 1))] := dk_of 14 (by decide +kernel)
theorem dX11_isIn_14 : decode cX11_isIn 14 = .ok (.iconst 0, 1) := dK_c_23.1
theorem dX11_isIn_15 : decode cX11_isIn 15 = .ok (.ireturn, 1) := dK_c_23.2.1
theorem dK_c_24 : dk_P cX11_bound [(0, (.iload_n 0, 1)), (1, (.iload_n 1, 1)), (2, (.if_icmp .ge 8, 3)), (5, (.bipush (-4), 2)), (7, (.goto 14, 3)), (10, (.iload_n 0, 1)), (11, (.iload_n 2, 1)), (12, (.if_icmp .le 8, 3))] := dk_of 0 (by decide +kernel)
theorem dX11_bound_0 : decode cX11_bound 0 = .ok (.iload_n 0, 1) := dK_c_24.1
theorem dX11_bound_1 : decode cX11_bound 1 = .ok (.iload_n 1, 1) := dK_c_24.2.1
theorem dX11_bound_2 : decode cX11_bound 2 = .ok (.if_icmp .ge 8, 3) := dK_c_24.2.2.1
theorem dX11_bound_5 : decode cX11_bound 5 = .ok (.bipush (-4), 2) := dK_c_24.2.2.2.1
theorem dX11_bound_7 : decode cX11_bound 7 = .ok (.goto 14, 3) := dK_c_24.2.2.2.2.1
theorem dX11_bound_10 : decode cX11_bound 10 = .ok (.iload_n 0, 1) := dK_c_24.2.2.2.2.2.1
theorem dX11_bound_11 : decode cX11_bound 11 = .ok (.iload_n 2, 1) := dK_c_24.2.2.2.2.2.2.1
theorem dX11_bound_12 : decode cX11_bound 12 = .ok (.if_icmp .le 8, 3) := dK_c_24.2.2.2.2.2.2.2.1
theorem dK_c_25 : dk_P cX11_bound [(15, (.bipush (-6), 2)), (17, (.goto 4, 3)), (20, (.iconst 0, 1)), (21, (.ireturn, 1))] := dk_of 15 (by decide +kernel)
theorem dX11_bound_15 : decode cX11_bound 15 = .ok (.bipush (-6), 2) := dK_c_25.1
theorem dX11_bound_17 : decode cX11_bound 17 = .ok (.goto 4, 3) := dK_c_25.2.1
theorem dX11_bound_20 : decode cX11_bound 20 = .ok (.iconst 0, 1) := dK_c_25.2.2.1
theorem dX11_bound_21 : decode cX11_bound 21 = .ok (.ireturn, 1) := dK_c_25.2.2.2.1
theorem dK_c_26 : dk_P cX11_atLeast0 [(0, (.iload_n 0, 1)), (1, (.ifCond .ge 7, 3)), (4, (.iconst 0, 1)), (5, (.goto 4, 3)), (8, (.iload_n 0, 1)), (9, (.ireturn, 1))] := dk_of 0 (by decide +kernel)
theorem dX11_atLeast0_0 : decode cX11_atLeast0 0 = .ok (.iload_n 0, 1) := dK_c_26.1
theorem dX11_atLeast0_1 : decode cX11_atLeast0 1 = .ok (.ifCond .ge 7, 3) := dK_c_26.2.1
theorem dX11_atLeast0_4 : decode cX11_atLeast0 4 = .ok (.iconst 0, 1) := dK_c_26.2.2.1
theorem dX11_atLeast0_5 : decode cX11_atLeast0 5 = .ok (.goto 4, 3) := dK_c_26.2.2.2.1
theorem dX11_atLeast0_8 : decode cX11_atLeast0 8 = .ok (.iload_n 0, 1) := dK_c_26.2.2.2.2.1
theorem dX11_atLeast0_9 : decode cX11_atLeast0 9 = .ok (.ireturn, 1) := dK_c_26.2.2.2.2.2.1
theorem dK_c_27 : dk_P cX11_isJumper [(0, (.iload_n 1, 1)), (1, (.ifCond .lt 15, 3)), (4, (.iload_n 1, 1)), (5, (.aload_n 0, 1)), (6, (.getfield 105, 3)), (9, (.if_icmp .ge 7, 3)), (12, (.iconst 1, 1)), (13, (.goto 4, 3))] := dk_of 0 (by decide +kernel)
theorem dX11_isJumper_0 : decode cX11_isJumper 0 = .ok (.iload_n 1, 1) := dK_c_27.1
theorem dX11_isJumper_1 : decode cX11_isJumper 1 = .ok (.ifCond .lt 15, 3) := dK_c_27.2.1
theorem dX11_isJumper_4 : decode cX11_isJumper 4 = .ok (.iload_n 1, 1) := dK_c_27.2.2.1
theorem dX11_isJumper_5 : decode cX11_isJumper 5 = .ok (.aload_n 0, 1) := dK_c_27.2.2.2.1
theorem dX11_isJumper_6 : decode cX11_isJumper 6 = .ok (.getfield 105, 3) := dK_c_27.2.2.2.2.1
theorem dX11_isJumper_9 : decode cX11_isJumper 9 = .ok (.if_icmp .ge 7, 3) := dK_c_27.2.2.2.2.2.1
theorem dX11_isJumper_12 : decode cX11_isJumper 12 = .ok (.iconst 1, 1) := dK_c_27.2.2.2.2.2.2.1
theorem dX11_isJumper_13 : decode cX11_isJumper 13 = .ok (.goto 4, 3) := dK_c_27.2.2.2.2.2.2.2.1
theorem dK_c_28 : dk_P cX11_isJumper [(16, (.iconst 0, 1)), (17, (.ireturn, 1))] := dk_of 16 (by decide +kernel)
theorem dX11_isJumper_16 : decode cX11_isJumper 16 = .ok (.iconst 0, 1) := dK_c_28.1
theorem dX11_isJumper_17 : decode cX11_isJumper 17 = .ok (.ireturn, 1) := dK_c_28.2.1
theorem dK_c_29 : dk_P cX11_feed [(0, (.iload_n 1, 1)), (1, (.iconst 0, 1)), (2, (.sipush 255, 3)), (5, (.invokestatic 108, 3)), (8, (.istore_n 2, 1)), (9, (.iload_n 2, 1)), (10, (.ifCond .ne 15, 3)), (13, (.aload_n 0, 1))] := dk_of 0 (by decide +kernel)
theorem dX11_feed_0 : decode cX11_feed 0 = .ok (.iload_n 1, 1) := dK_c_29.1
theorem dX11_feed_1 : decode cX11_feed 1 = .ok (.iconst 0, 1) := dK_c_29.2.1
theorem dX11_feed_2 : decode cX11_feed 2 = .ok (.sipush 255, 3) := dK_c_29.2.2.1
theorem dX11_feed_5 : decode cX11_feed 5 = .ok (.invokestatic 108, 3) := dK_c_29.2.2.2.1
theorem dX11_feed_8 : decode cX11_feed 8 = .ok (.istore_n 2, 1) := dK_c_29.2.2.2.2.1
theorem dX11_feed_9 : decode cX11_feed 9 = .ok (.iload_n 2, 1) := dK_c_29.2.2.2.2.2.1
theorem dX11_feed_10 : decode cX11_feed 10 = .ok (.ifCond .ne 15, 3) := dK_c_29.2.2.2.2.2.2.1
theorem dX11_feed_13 : decode cX11_feed 13 = .ok (.aload_n 0, 1) := dK_c_29.2.2.2.2.2.2.2.1
theorem dK_c_30 : dk_P cX11_feed [(14, (.getfield 112, 3)), (17, (.bipush 96, 2)), (19, (.if_icmp .ne 6, 3)), (22, (.bipush (-6), 2)), (24, (.istore_n 2, 1)), (25, (.iload_n 2, 1)), (26, (.ifCond .eq 9, 3)), (29, (.aload_n 0, 1))] := dk_of 14 (by decide +kernel)
theorem dX11_feed_14 : decode cX11_feed 14 = .ok (.getfield 112, 3) := dK_c_30.1
theorem dX11_feed_17 : decode cX11_feed 17 = .ok (.bipush 96, 2) := dK_c_30.2.1
theorem dX11_feed_19 : decode cX11_feed 19 = .ok (.if_icmp .ne 6, 3) := dK_c_30.2.2.1
theorem dX11_feed_22 : decode cX11_feed 22 = .ok (.bipush (-6), 2) := dK_c_30.2.2.2.1
theorem dX11_feed_24 : decode cX11_feed 24 = .ok (.istore_n 2, 1) := dK_c_30.2.2.2.2.1
theorem dX11_feed_25 : decode cX11_feed 25 = .ok (.iload_n 2, 1) := dK_c_30.2.2.2.2.2.1
theorem dX11_feed_26 : decode cX11_feed 26 = .ok (.ifCond .eq 9, 3) := dK_c_30.2.2.2.2.2.2.1
theorem dX11_feed_29 : decode cX11_feed 29 = .ok (.aload_n 0, 1) := dK_c_30.2.2.2.2.2.2.2.1
theorem dK_c_31 : dk_P cX11_feed [(30, (.iload_n 2, 1)), (31, (.invokevirtual 115, 3)), (34, (.ireturn, 1)), (35, (.aload_n 0, 1)), (36, (.getfield 46, 3)), (39, (.aload_n 0, 1)), (40, (.getfield 112, 3)), (43, (.iload_n 1, 1))] := dk_of 30 (by decide +kernel)
theorem dX11_feed_30 : decode cX11_feed 30 = .ok (.iload_n 2, 1) := dK_c_31.1
theorem dX11_feed_31 : decode cX11_feed 31 = .ok (.invokevirtual 115, 3) := dK_c_31.2.1
theorem dX11_feed_34 : decode cX11_feed 34 = .ok (.ireturn, 1) := dK_c_31.2.2.1
theorem dX11_feed_35 : decode cX11_feed 35 = .ok (.aload_n 0, 1) := dK_c_31.2.2.2.1
theorem dX11_feed_36 : decode cX11_feed 36 = .ok (.getfield 46, 3) := dK_c_31.2.2.2.2.1
theorem dX11_feed_39 : decode cX11_feed 39 = .ok (.aload_n 0, 1) := dK_c_31.2.2.2.2.2.1
theorem dX11_feed_40 : decode cX11_feed 40 = .ok (.getfield 112, 3) := dK_c_31.2.2.2.2.2.2.1
theorem dX11_feed_43 : decode cX11_feed 43 = .ok (.iload_n 1, 1) := dK_c_31.2.2.2.2.2.2.2.1
theorem dK_c_32 : dk_P cX11_feed [(44, (.iastore, 1)), (45, (.aload_n 0, 1)), (46, (.dup, 1)), (47, (.getfield 112, 3)), (50, (.iconst 1, 1)), (51, (.iadd, 1)), (52, (.putfield 112, 3)), (55, (.aload_n 0, 1))] := dk_of 44 (by decide +kernel)
theorem dX11_feed_44 : decode cX11_feed 44 = .ok (.iastore, 1) := dK_c_32.1
theorem dX11_feed_45 : decode cX11_feed 45 = .ok (.aload_n 0, 1) := dK_c_32.2.1
theorem dX11_feed_46 : decode cX11_feed 46 = .ok (.dup, 1) := dK_c_32.2.2.1
theorem dX11_feed_47 : decode cX11_feed 47 = .ok (.getfield 112, 3) := dK_c_32.2.2.2.1
theorem dX11_feed_50 : decode cX11_feed 50 = .ok (.iconst 1, 1) := dK_c_32.2.2.2.2.1
theorem dX11_feed_51 : decode cX11_feed 51 = .ok (.iadd, 1) := dK_c_32.2.2.2.2.2.1
theorem dX11_feed_52 : decode cX11_feed 52 = .ok (.putfield 112, 3) := dK_c_32.2.2.2.2.2.2.1
theorem dX11_feed_55 : decode cX11_feed 55 = .ok (.aload_n 0, 1) := dK_c_32.2.2.2.2.2.2.2.1
theorem dK_c_33 : dk_P cX11_feed [(56, (.getfield 112, 3)), (59, (.ireturn, 1))] := dk_of 56 (by decide +kernel)
theorem dX11_feed_56 : decode cX11_feed 56 = .ok (.getfield 112, 3) := dK_c_33.1
theorem dX11_feed_59 : decode cX11_feed 59 = .ok (.ireturn, 1) := dK_c_33.2.1
theorem dK_c_34 : dk_P cX11_next [(0, (.aload_n 0, 1)), (1, (.getfield 119, 3)), (4, (.aload_n 0, 1)), (5, (.getfield 112, 3)), (8, (.if_icmp .ge 15, 3)), (11, (.aload_n 0, 1)), (12, (.getfield 46, 3)), (15, (.aload_n 0, 1))] := dk_of 0 (by decide +kernel)
theorem dX11_next_0 : decode cX11_next 0 = .ok (.aload_n 0, 1) := dK_c_34.1
theorem dX11_next_1 : decode cX11_next 1 = .ok (.getfield 119, 3) := dK_c_34.2.1
theorem dX11_next_4 : decode cX11_next 4 = .ok (.aload_n 0, 1) := dK_c_34.2.2.1
theorem dX11_next_5 : decode cX11_next 5 = .ok (.getfield 112, 3) := dK_c_34.2.2.2.1
theorem dX11_next_8 : decode cX11_next 8 = .ok (.if_icmp .ge 15, 3) := dK_c_34.2.2.2.2.1
theorem dX11_next_11 : decode cX11_next 11 = .ok (.aload_n 0, 1) := dK_c_34.2.2.2.2.2.1
theorem dX11_next_12 : decode cX11_next 12 = .ok (.getfield 46, 3) := dK_c_34.2.2.2.2.2.2.1
theorem dX11_next_15 : decode cX11_next 15 = .ok (.aload_n 0, 1) := dK_c_34.2.2.2.2.2.2.2.1
theorem dK_c_35 : dk_P cX11_next [(16, (.getfield 119, 3)), (19, (.iaload, 1)), (20, (.goto 4, 3)), (23, (.iconst (-1), 1)), (24, (.ireturn, 1))] := dk_of 16 (by decide +kernel)
theorem dX11_next_16 : decode cX11_next 16 = .ok (.getfield 119, 3) := dK_c_35.1
theorem dX11_next_19 : decode cX11_next 19 = .ok (.iaload, 1) := dK_c_35.2.1
theorem dX11_next_20 : decode cX11_next 20 = .ok (.goto 4, 3) := dK_c_35.2.2.1
theorem dX11_next_23 : decode cX11_next 23 = .ok (.iconst (-1), 1) := dK_c_35.2.2.2.1
theorem dX11_next_24 : decode cX11_next 24 = .ok (.ireturn, 1) := dK_c_35.2.2.2.2.1
theorem dK_c_36 : dk_P cX11_readsDigits [(0, (.iconst 0, 1)), (1, (.istore_n 3, 1)), (2, (.iconst 0, 1)), (3, (.istore 4, 2)), (5, (.iload 4, 2)), (7, (.iload_n 2, 1)), (8, (.if_icmp .ge 48, 3)), (11, (.aload_n 0, 1))] := dk_of 0 (by decide +kernel)
theorem dX11_readsDigits_0 : decode cX11_readsDigits 0 = .ok (.iconst 0, 1) := dK_c_36.1
theorem dX11_readsDigits_1 : decode cX11_readsDigits 1 = .ok (.istore_n 3, 1) := dK_c_36.2.1
theorem dX11_readsDigits_2 : decode cX11_readsDigits 2 = .ok (.iconst 0, 1) := dK_c_36.2.2.1
theorem dX11_readsDigits_3 : decode cX11_readsDigits 3 = .ok (.istore 4, 2) := dK_c_36.2.2.2.1
theorem dX11_readsDigits_5 : decode cX11_readsDigits 5 = .ok (.iload 4, 2) := dK_c_36.2.2.2.2.1
theorem dX11_readsDigits_7 : decode cX11_readsDigits 7 = .ok (.iload_n 2, 1) := dK_c_36.2.2.2.2.2.1
theorem dX11_readsDigits_8 : decode cX11_readsDigits 8 = .ok (.if_icmp .ge 48, 3) := dK_c_36.2.2.2.2.2.2.1
theorem dX11_readsDigits_11 : decode cX11_readsDigits 11 = .ok (.aload_n 0, 1) := dK_c_36.2.2.2.2.2.2.2.1
theorem dK_c_37 : dk_P cX11_readsDigits [(12, (.invokevirtual 122, 3)), (15, (.bipush 48, 2)), (17, (.bipush 57, 2)), (19, (.invokestatic 126, 3)), (22, (.ifCond .ne 5, 3)), (25, (.iconst 0, 1)), (26, (.ireturn, 1)), (27, (.bipush 10, 2))] := dk_of 12 (by decide +kernel)
theorem dX11_readsDigits_12 : decode cX11_readsDigits 12 = .ok (.invokevirtual 122, 3) := dK_c_37.1
theorem dX11_readsDigits_15 : decode cX11_readsDigits 15 = .ok (.bipush 48, 2) := dK_c_37.2.1
theorem dX11_readsDigits_17 : decode cX11_readsDigits 17 = .ok (.bipush 57, 2) := dK_c_37.2.2.1
theorem dX11_readsDigits_19 : decode cX11_readsDigits 19 = .ok (.invokestatic 126, 3) := dK_c_37.2.2.2.1
theorem dX11_readsDigits_22 : decode cX11_readsDigits 22 = .ok (.ifCond .ne 5, 3) := dK_c_37.2.2.2.2.1
theorem dX11_readsDigits_25 : decode cX11_readsDigits 25 = .ok (.iconst 0, 1) := dK_c_37.2.2.2.2.2.1
theorem dX11_readsDigits_26 : decode cX11_readsDigits 26 = .ok (.ireturn, 1) := dK_c_37.2.2.2.2.2.2.1
theorem dX11_readsDigits_27 : decode cX11_readsDigits 27 = .ok (.bipush 10, 2) := dK_c_37.2.2.2.2.2.2.2.1
theorem dK_c_38 : dk_P cX11_readsDigits [(29, (.iload_n 3, 1)), (30, (.imul, 1)), (31, (.aload_n 0, 1)), (32, (.invokevirtual 122, 3)), (35, (.iadd, 1)), (36, (.bipush 48, 2)), (38, (.isub, 1)), (39, (.istore_n 3, 1))] := dk_of 29 (by decide +kernel)
theorem dX11_readsDigits_29 : decode cX11_readsDigits 29 = .ok (.iload_n 3, 1) := dK_c_38.1
theorem dX11_readsDigits_30 : decode cX11_readsDigits 30 = .ok (.imul, 1) := dK_c_38.2.1
theorem dX11_readsDigits_31 : decode cX11_readsDigits 31 = .ok (.aload_n 0, 1) := dK_c_38.2.2.1
theorem dX11_readsDigits_32 : decode cX11_readsDigits 32 = .ok (.invokevirtual 122, 3) := dK_c_38.2.2.2.1
theorem dX11_readsDigits_35 : decode cX11_readsDigits 35 = .ok (.iadd, 1) := dK_c_38.2.2.2.2.1
theorem dX11_readsDigits_36 : decode cX11_readsDigits 36 = .ok (.bipush 48, 2) := dK_c_38.2.2.2.2.2.1
theorem dX11_readsDigits_38 : decode cX11_readsDigits 38 = .ok (.isub, 1) := dK_c_38.2.2.2.2.2.2.1
theorem dX11_readsDigits_39 : decode cX11_readsDigits 39 = .ok (.istore_n 3, 1) := dK_c_38.2.2.2.2.2.2.2.1
theorem dK_c_39 : dk_P cX11_readsDigits [(40, (.aload_n 0, 1)), (41, (.dup, 1)), (42, (.getfield 119, 3)), (45, (.iconst 1, 1)), (46, (.iadd, 1)), (47, (.putfield 119, 3)), (50, (.iinc 4 1, 3)), (53, (.goto (-48), 3))] := dk_of 40 (by decide +kernel)
theorem dX11_readsDigits_40 : decode cX11_readsDigits 40 = .ok (.aload_n 0, 1) := dK_c_39.1
theorem dX11_readsDigits_41 : decode cX11_readsDigits 41 = .ok (.dup, 1) := dK_c_39.2.1
theorem dX11_readsDigits_42 : decode cX11_readsDigits 42 = .ok (.getfield 119, 3) := dK_c_39.2.2.1
theorem dX11_readsDigits_45 : decode cX11_readsDigits 45 = .ok (.iconst 1, 1) := dK_c_39.2.2.2.1
theorem dX11_readsDigits_46 : decode cX11_readsDigits 46 = .ok (.iadd, 1) := dK_c_39.2.2.2.2.1
theorem dX11_readsDigits_47 : decode cX11_readsDigits 47 = .ok (.putfield 119, 3) := dK_c_39.2.2.2.2.2.1
theorem dX11_readsDigits_50 : decode cX11_readsDigits 50 = .ok (.iinc 4 1, 3) := dK_c_39.2.2.2.2.2.2.1
theorem dX11_readsDigits_53 : decode cX11_readsDigits 53 = .ok (.goto (-48), 3) := dK_c_39.2.2.2.2.2.2.2.1
theorem dK_c_40 : dk_P cX11_readsDigits [(56, (.aload_n 0, 1)), (57, (.getfield 55, 3)), (60, (.iload_n 1, 1)), (61, (.iload_n 3, 1)), (62, (.iastore, 1)), (63, (.iconst 1, 1)), (64, (.ireturn, 1))] := dk_of 56 (by decide +kernel)
theorem dX11_readsDigits_56 : decode cX11_readsDigits 56 = .ok (.aload_n 0, 1) := dK_c_40.1
theorem dX11_readsDigits_57 : decode cX11_readsDigits 57 = .ok (.getfield 55, 3) := dK_c_40.2.1
theorem dX11_readsDigits_60 : decode cX11_readsDigits 60 = .ok (.iload_n 1, 1) := dK_c_40.2.2.1
theorem dX11_readsDigits_61 : decode cX11_readsDigits 61 = .ok (.iload_n 3, 1) := dK_c_40.2.2.2.1
theorem dX11_readsDigits_62 : decode cX11_readsDigits 62 = .ok (.iastore, 1) := dK_c_40.2.2.2.2.1
theorem dX11_readsDigits_63 : decode cX11_readsDigits 63 = .ok (.iconst 1, 1) := dK_c_40.2.2.2.2.2.1
theorem dX11_readsDigits_64 : decode cX11_readsDigits 64 = .ok (.ireturn, 1) := dK_c_40.2.2.2.2.2.2.1
theorem dK_c_41 : dk_P cX11_readsWind [(0, (.aload_n 0, 1)), (1, (.invokevirtual 122, 3)), (4, (.bipush 43, 2)), (6, (.if_icmp .ne 7, 3)), (9, (.iconst 1, 1)), (10, (.goto 17, 3)), (13, (.aload_n 0, 1)), (14, (.invokevirtual 122, 3))] := dk_of 0 (by decide +kernel)
theorem dX11_readsWind_0 : decode cX11_readsWind 0 = .ok (.aload_n 0, 1) := dK_c_41.1
theorem dX11_readsWind_1 : decode cX11_readsWind 1 = .ok (.invokevirtual 122, 3) := dK_c_41.2.1
theorem dX11_readsWind_4 : decode cX11_readsWind 4 = .ok (.bipush 43, 2) := dK_c_41.2.2.1
theorem dX11_readsWind_6 : decode cX11_readsWind 6 = .ok (.if_icmp .ne 7, 3) := dK_c_41.2.2.2.1
theorem dX11_readsWind_9 : decode cX11_readsWind 9 = .ok (.iconst 1, 1) := dK_c_41.2.2.2.2.1
theorem dX11_readsWind_10 : decode cX11_readsWind 10 = .ok (.goto 17, 3) := dK_c_41.2.2.2.2.2.1
theorem dX11_readsWind_13 : decode cX11_readsWind 13 = .ok (.aload_n 0, 1) := dK_c_41.2.2.2.2.2.2.1
theorem dX11_readsWind_14 : decode cX11_readsWind 14 = .ok (.invokevirtual 122, 3) := dK_c_41.2.2.2.2.2.2.2.1
theorem dK_c_42 : dk_P cX11_readsWind [(17, (.bipush 45, 2)), (19, (.if_icmp .ne 7, 3)), (22, (.iconst (-1), 1)), (23, (.goto 4, 3)), (26, (.iconst 0, 1)), (27, (.istore_n 2, 1)), (28, (.iload_n 2, 1)), (29, (.ifCond .ne 5, 3))] := dk_of 17 (by decide +kernel)
theorem dX11_readsWind_17 : decode cX11_readsWind 17 = .ok (.bipush 45, 2) := dK_c_42.1
theorem dX11_readsWind_19 : decode cX11_readsWind 19 = .ok (.if_icmp .ne 7, 3) := dK_c_42.2.1
theorem dX11_readsWind_22 : decode cX11_readsWind 22 = .ok (.iconst (-1), 1) := dK_c_42.2.2.1
theorem dX11_readsWind_23 : decode cX11_readsWind 23 = .ok (.goto 4, 3) := dK_c_42.2.2.2.1
theorem dX11_readsWind_26 : decode cX11_readsWind 26 = .ok (.iconst 0, 1) := dK_c_42.2.2.2.2.1
theorem dX11_readsWind_27 : decode cX11_readsWind 27 = .ok (.istore_n 2, 1) := dK_c_42.2.2.2.2.2.1
theorem dX11_readsWind_28 : decode cX11_readsWind 28 = .ok (.iload_n 2, 1) := dK_c_42.2.2.2.2.2.2.1
theorem dX11_readsWind_29 : decode cX11_readsWind 29 = .ok (.ifCond .ne 5, 3) := dK_c_42.2.2.2.2.2.2.2.1
theorem dK_c_43 : dk_P cX11_readsWind [(32, (.iconst 0, 1)), (33, (.ireturn, 1)), (34, (.aload_n 0, 1)), (35, (.dup, 1)), (36, (.getfield 119, 3)), (39, (.iconst 1, 1)), (40, (.iadd, 1)), (41, (.putfield 119, 3))] := dk_of 32 (by decide +kernel)
theorem dX11_readsWind_32 : decode cX11_readsWind 32 = .ok (.iconst 0, 1) := dK_c_43.1
theorem dX11_readsWind_33 : decode cX11_readsWind 33 = .ok (.ireturn, 1) := dK_c_43.2.1
theorem dX11_readsWind_34 : decode cX11_readsWind 34 = .ok (.aload_n 0, 1) := dK_c_43.2.2.1
theorem dX11_readsWind_35 : decode cX11_readsWind 35 = .ok (.dup, 1) := dK_c_43.2.2.2.1
theorem dX11_readsWind_36 : decode cX11_readsWind 36 = .ok (.getfield 119, 3) := dK_c_43.2.2.2.2.1
theorem dX11_readsWind_39 : decode cX11_readsWind 39 = .ok (.iconst 1, 1) := dK_c_43.2.2.2.2.2.1
theorem dX11_readsWind_40 : decode cX11_readsWind 40 = .ok (.iadd, 1) := dK_c_43.2.2.2.2.2.2.1
theorem dX11_readsWind_41 : decode cX11_readsWind 41 = .ok (.putfield 119, 3) := dK_c_43.2.2.2.2.2.2.2.1
theorem dK_c_44 : dk_P cX11_readsWind [(44, (.aload_n 0, 1)), (45, (.iload_n 1, 1)), (46, (.iconst 1, 1)), (47, (.invokevirtual 130, 3)), (50, (.ifCond .ne 5, 3)), (53, (.iconst 0, 1)), (54, (.ireturn, 1)), (55, (.aload_n 0, 1))] := dk_of 44 (by decide +kernel)
theorem dX11_readsWind_44 : decode cX11_readsWind 44 = .ok (.aload_n 0, 1) := dK_c_44.1
theorem dX11_readsWind_45 : decode cX11_readsWind 45 = .ok (.iload_n 1, 1) := dK_c_44.2.1
theorem dX11_readsWind_46 : decode cX11_readsWind 46 = .ok (.iconst 1, 1) := dK_c_44.2.2.1
theorem dX11_readsWind_47 : decode cX11_readsWind 47 = .ok (.invokevirtual 130, 3) := dK_c_44.2.2.2.1
theorem dX11_readsWind_50 : decode cX11_readsWind 50 = .ok (.ifCond .ne 5, 3) := dK_c_44.2.2.2.2.1
theorem dX11_readsWind_53 : decode cX11_readsWind 53 = .ok (.iconst 0, 1) := dK_c_44.2.2.2.2.2.1
theorem dX11_readsWind_54 : decode cX11_readsWind 54 = .ok (.ireturn, 1) := dK_c_44.2.2.2.2.2.2.1
theorem dX11_readsWind_55 : decode cX11_readsWind 55 = .ok (.aload_n 0, 1) := dK_c_44.2.2.2.2.2.2.2.1
theorem dK_c_45 : dk_P cX11_readsWind [(56, (.getfield 55, 3)), (59, (.iload_n 1, 1)), (60, (.dup2, 1)), (61, (.iaload, 1)), (62, (.iload_n 2, 1)), (63, (.imul, 1)), (64, (.iastore, 1)), (65, (.iconst 1, 1))] := dk_of 56 (by decide +kernel)
theorem dX11_readsWind_56 : decode cX11_readsWind 56 = .ok (.getfield 55, 3) := dK_c_45.1
theorem dX11_readsWind_59 : decode cX11_readsWind 59 = .ok (.iload_n 1, 1) := dK_c_45.2.1
theorem dX11_readsWind_60 : decode cX11_readsWind 60 = .ok (.dup2, 1) := dK_c_45.2.2.1
theorem dX11_readsWind_61 : decode cX11_readsWind 61 = .ok (.iaload, 1) := dK_c_45.2.2.2.1
theorem dX11_readsWind_62 : decode cX11_readsWind 62 = .ok (.iload_n 2, 1) := dK_c_45.2.2.2.2.1
theorem dX11_readsWind_63 : decode cX11_readsWind 63 = .ok (.imul, 1) := dK_c_45.2.2.2.2.2.1
theorem dX11_readsWind_64 : decode cX11_readsWind 64 = .ok (.iastore, 1) := dK_c_45.2.2.2.2.2.2.1
theorem dX11_readsWind_65 : decode cX11_readsWind 65 = .ok (.iconst 1, 1) := dK_c_45.2.2.2.2.2.2.2.1
theorem dK_c_46 : dk_P cX11_readsWind [(66, (.ireturn, 1))] := dk_of 66 (by decide +kernel)
theorem dX11_readsWind_66 : decode cX11_readsWind 66 = .ok (.ireturn, 1) := dK_c_46.1
theorem dK_c_47 : dk_P cX11_readsJumper [(0, (.aload_n 0, 1)), (1, (.iload_n 1, 1)), (2, (.iconst 1, 1)), (3, (.invokevirtual 130, 3)), (6, (.ifCond .eq 86, 3)), (9, (.aload_n 0, 1)), (10, (.iload_n 1, 1)), (11, (.iconst 1, 1))] := dk_of 0 (by decide +kernel)
theorem dX11_readsJumper_0 : decode cX11_readsJumper 0 = .ok (.aload_n 0, 1) := dK_c_47.1
theorem dX11_readsJumper_1 : decode cX11_readsJumper 1 = .ok (.iload_n 1, 1) := dK_c_47.2.1
theorem dX11_readsJumper_2 : decode cX11_readsJumper 2 = .ok (.iconst 1, 1) := dK_c_47.2.2.1
theorem dX11_readsJumper_3 : decode cX11_readsJumper 3 = .ok (.invokevirtual 130, 3) := dK_c_47.2.2.2.1
theorem dX11_readsJumper_6 : decode cX11_readsJumper 6 = .ok (.ifCond .eq 86, 3) := dK_c_47.2.2.2.2.1
theorem dX11_readsJumper_9 : decode cX11_readsJumper 9 = .ok (.aload_n 0, 1) := dK_c_47.2.2.2.2.2.1
theorem dX11_readsJumper_10 : decode cX11_readsJumper 10 = .ok (.iload_n 1, 1) := dK_c_47.2.2.2.2.2.2.1
theorem dX11_readsJumper_11 : decode cX11_readsJumper 11 = .ok (.iconst 1, 1) := dK_c_47.2.2.2.2.2.2.2.1
theorem dK_c_48 : dk_P cX11_readsJumper [(12, (.iadd, 1)), (13, (.iconst 1, 1)), (14, (.invokevirtual 130, 3)), (17, (.ifCond .eq 75, 3)), (20, (.aload_n 0, 1)), (21, (.iload_n 1, 1)), (22, (.iconst 2, 1)), (23, (.iadd, 1))] := dk_of 12 (by decide +kernel)
theorem dX11_readsJumper_12 : decode cX11_readsJumper 12 = .ok (.iadd, 1) := dK_c_48.1
theorem dX11_readsJumper_13 : decode cX11_readsJumper 13 = .ok (.iconst 1, 1) := dK_c_48.2.1
theorem dX11_readsJumper_14 : decode cX11_readsJumper 14 = .ok (.invokevirtual 130, 3) := dK_c_48.2.2.1
theorem dX11_readsJumper_17 : decode cX11_readsJumper 17 = .ok (.ifCond .eq 75, 3) := dK_c_48.2.2.2.1
theorem dX11_readsJumper_20 : decode cX11_readsJumper 20 = .ok (.aload_n 0, 1) := dK_c_48.2.2.2.2.1
theorem dX11_readsJumper_21 : decode cX11_readsJumper 21 = .ok (.iload_n 1, 1) := dK_c_48.2.2.2.2.2.1
theorem dX11_readsJumper_22 : decode cX11_readsJumper 22 = .ok (.iconst 2, 1) := dK_c_48.2.2.2.2.2.2.1
theorem dX11_readsJumper_23 : decode cX11_readsJumper 23 = .ok (.iadd, 1) := dK_c_48.2.2.2.2.2.2.2.1
theorem dK_c_49 : dk_P cX11_readsJumper [(24, (.iconst 2, 1)), (25, (.invokevirtual 130, 3)), (28, (.ifCond .eq 64, 3)), (31, (.aload_n 0, 1)), (32, (.iload_n 1, 1)), (33, (.iconst 3, 1)), (34, (.iadd, 1)), (35, (.iconst 1, 1))] := dk_of 24 (by decide +kernel)
theorem dX11_readsJumper_24 : decode cX11_readsJumper 24 = .ok (.iconst 2, 1) := dK_c_49.1
theorem dX11_readsJumper_25 : decode cX11_readsJumper 25 = .ok (.invokevirtual 130, 3) := dK_c_49.2.1
theorem dX11_readsJumper_28 : decode cX11_readsJumper 28 = .ok (.ifCond .eq 64, 3) := dK_c_49.2.2.1
theorem dX11_readsJumper_31 : decode cX11_readsJumper 31 = .ok (.aload_n 0, 1) := dK_c_49.2.2.2.1
theorem dX11_readsJumper_32 : decode cX11_readsJumper 32 = .ok (.iload_n 1, 1) := dK_c_49.2.2.2.2.1
theorem dX11_readsJumper_33 : decode cX11_readsJumper 33 = .ok (.iconst 3, 1) := dK_c_49.2.2.2.2.2.1
theorem dX11_readsJumper_34 : decode cX11_readsJumper 34 = .ok (.iadd, 1) := dK_c_49.2.2.2.2.2.2.1
theorem dX11_readsJumper_35 : decode cX11_readsJumper 35 = .ok (.iconst 1, 1) := dK_c_49.2.2.2.2.2.2.2.1
theorem dK_c_50 : dk_P cX11_readsJumper [(36, (.invokevirtual 130, 3)), (39, (.ifCond .eq 53, 3)), (42, (.aload_n 0, 1)), (43, (.iload_n 1, 1)), (44, (.iconst 4, 1)), (45, (.iadd, 1)), (46, (.iconst 1, 1)), (47, (.invokevirtual 130, 3))] := dk_of 36 (by decide +kernel)
theorem dX11_readsJumper_36 : decode cX11_readsJumper 36 = .ok (.invokevirtual 130, 3) := dK_c_50.1
theorem dX11_readsJumper_39 : decode cX11_readsJumper 39 = .ok (.ifCond .eq 53, 3) := dK_c_50.2.1
theorem dX11_readsJumper_42 : decode cX11_readsJumper 42 = .ok (.aload_n 0, 1) := dK_c_50.2.2.1
theorem dX11_readsJumper_43 : decode cX11_readsJumper 43 = .ok (.iload_n 1, 1) := dK_c_50.2.2.2.1
theorem dX11_readsJumper_44 : decode cX11_readsJumper 44 = .ok (.iconst 4, 1) := dK_c_50.2.2.2.2.1
theorem dX11_readsJumper_45 : decode cX11_readsJumper 45 = .ok (.iadd, 1) := dK_c_50.2.2.2.2.2.1
theorem dX11_readsJumper_46 : decode cX11_readsJumper 46 = .ok (.iconst 1, 1) := dK_c_50.2.2.2.2.2.2.1
theorem dX11_readsJumper_47 : decode cX11_readsJumper 47 = .ok (.invokevirtual 130, 3) := dK_c_50.2.2.2.2.2.2.2.1
theorem dK_c_51 : dk_P cX11_readsJumper [(50, (.ifCond .eq 42, 3)), (53, (.aload_n 0, 1)), (54, (.iload_n 1, 1)), (55, (.iconst 5, 1)), (56, (.iadd, 1)), (57, (.iconst 2, 1)), (58, (.invokevirtual 130, 3)), (61, (.ifCond .eq 31, 3))] := dk_of 50 (by decide +kernel)
theorem dX11_readsJumper_50 : decode cX11_readsJumper 50 = .ok (.ifCond .eq 42, 3) := dK_c_51.1
theorem dX11_readsJumper_53 : decode cX11_readsJumper 53 = .ok (.aload_n 0, 1) := dK_c_51.2.1
theorem dX11_readsJumper_54 : decode cX11_readsJumper 54 = .ok (.iload_n 1, 1) := dK_c_51.2.2.1
theorem dX11_readsJumper_55 : decode cX11_readsJumper 55 = .ok (.iconst 5, 1) := dK_c_51.2.2.2.1
theorem dX11_readsJumper_56 : decode cX11_readsJumper 56 = .ok (.iadd, 1) := dK_c_51.2.2.2.2.1
theorem dX11_readsJumper_57 : decode cX11_readsJumper 57 = .ok (.iconst 2, 1) := dK_c_51.2.2.2.2.2.1
theorem dX11_readsJumper_58 : decode cX11_readsJumper 58 = .ok (.invokevirtual 130, 3) := dK_c_51.2.2.2.2.2.2.1
theorem dX11_readsJumper_61 : decode cX11_readsJumper 61 = .ok (.ifCond .eq 31, 3) := dK_c_51.2.2.2.2.2.2.2.1
theorem dK_c_52 : dk_P cX11_readsJumper [(64, (.aload_n 0, 1)), (65, (.iload_n 1, 1)), (66, (.bipush 6, 2)), (68, (.iadd, 1)), (69, (.iconst 1, 1)), (70, (.invokevirtual 130, 3)), (73, (.ifCond .eq 19, 3)), (76, (.aload_n 0, 1))] := dk_of 64 (by decide +kernel)
theorem dX11_readsJumper_64 : decode cX11_readsJumper 64 = .ok (.aload_n 0, 1) := dK_c_52.1
theorem dX11_readsJumper_65 : decode cX11_readsJumper 65 = .ok (.iload_n 1, 1) := dK_c_52.2.1
theorem dX11_readsJumper_66 : decode cX11_readsJumper 66 = .ok (.bipush 6, 2) := dK_c_52.2.2.1
theorem dX11_readsJumper_68 : decode cX11_readsJumper 68 = .ok (.iadd, 1) := dK_c_52.2.2.2.1
theorem dX11_readsJumper_69 : decode cX11_readsJumper 69 = .ok (.iconst 1, 1) := dK_c_52.2.2.2.2.1
theorem dX11_readsJumper_70 : decode cX11_readsJumper 70 = .ok (.invokevirtual 130, 3) := dK_c_52.2.2.2.2.2.1
theorem dX11_readsJumper_73 : decode cX11_readsJumper 73 = .ok (.ifCond .eq 19, 3) := dK_c_52.2.2.2.2.2.2.1
theorem dX11_readsJumper_76 : decode cX11_readsJumper 76 = .ok (.aload_n 0, 1) := dK_c_52.2.2.2.2.2.2.2.1
theorem dK_c_53 : dk_P cX11_readsJumper [(77, (.iload_n 1, 1)), (78, (.bipush 7, 2)), (80, (.iadd, 1)), (81, (.iconst 4, 1)), (82, (.invokevirtual 130, 3)), (85, (.ifCond .eq 7, 3)), (88, (.iconst 1, 1)), (89, (.goto 4, 3))] := dk_of 77 (by decide +kernel)
theorem dX11_readsJumper_77 : decode cX11_readsJumper 77 = .ok (.iload_n 1, 1) := dK_c_53.1
theorem dX11_readsJumper_78 : decode cX11_readsJumper 78 = .ok (.bipush 7, 2) := dK_c_53.2.1
theorem dX11_readsJumper_80 : decode cX11_readsJumper 80 = .ok (.iadd, 1) := dK_c_53.2.2.1
theorem dX11_readsJumper_81 : decode cX11_readsJumper 81 = .ok (.iconst 4, 1) := dK_c_53.2.2.2.1
theorem dX11_readsJumper_82 : decode cX11_readsJumper 82 = .ok (.invokevirtual 130, 3) := dK_c_53.2.2.2.2.1
theorem dX11_readsJumper_85 : decode cX11_readsJumper 85 = .ok (.ifCond .eq 7, 3) := dK_c_53.2.2.2.2.2.1
theorem dX11_readsJumper_88 : decode cX11_readsJumper 88 = .ok (.iconst 1, 1) := dK_c_53.2.2.2.2.2.2.1
theorem dX11_readsJumper_89 : decode cX11_readsJumper 89 = .ok (.goto 4, 3) := dK_c_53.2.2.2.2.2.2.2.1
theorem dK_c_54 : dk_P cX11_readsJumper [(92, (.iconst 0, 1)), (93, (.ireturn, 1))] := dk_of 92 (by decide +kernel)
theorem dX11_readsJumper_92 : decode cX11_readsJumper 92 = .ok (.iconst 0, 1) := dK_c_54.1
theorem dX11_readsJumper_93 : decode cX11_readsJumper 93 = .ok (.ireturn, 1) := dK_c_54.2.1
theorem dK_c_55 : dk_P cX11_readsAll [(0, (.iload_n 1, 1)), (1, (.lookupswitch 77 #[(103, 64), (106, 71), (110, 51), (116, 51), (119, 58)], 51)), (52, (.aload_n 0, 1)), (53, (.iload_n 2, 1)), (54, (.iconst 2, 1)), (55, (.invokevirtual 130, 3)), (58, (.ireturn, 1)), (59, (.aload_n 0, 1))] := dk_of 0 (by decide +kernel)
theorem dX11_readsAll_0 : decode cX11_readsAll 0 = .ok (.iload_n 1, 1) := dK_c_55.1
theorem dX11_readsAll_1 : decode cX11_readsAll 1 = .ok (.lookupswitch 77 #[(103, 64), (106, 71), (110, 51), (116, 51), (119, 58)], 51) := dK_c_55.2.1
theorem dX11_readsAll_52 : decode cX11_readsAll 52 = .ok (.aload_n 0, 1) := dK_c_55.2.2.1
theorem dX11_readsAll_53 : decode cX11_readsAll 53 = .ok (.iload_n 2, 1) := dK_c_55.2.2.2.1
theorem dX11_readsAll_54 : decode cX11_readsAll 54 = .ok (.iconst 2, 1) := dK_c_55.2.2.2.2.1
theorem dX11_readsAll_55 : decode cX11_readsAll 55 = .ok (.invokevirtual 130, 3) := dK_c_55.2.2.2.2.2.1
theorem dX11_readsAll_58 : decode cX11_readsAll 58 = .ok (.ireturn, 1) := dK_c_55.2.2.2.2.2.2.1
theorem dX11_readsAll_59 : decode cX11_readsAll 59 = .ok (.aload_n 0, 1) := dK_c_55.2.2.2.2.2.2.2.1
theorem dK_c_56 : dk_P cX11_readsAll [(60, (.iload_n 2, 1)), (61, (.invokevirtual 134, 3)), (64, (.ireturn, 1)), (65, (.aload_n 0, 1)), (66, (.iload_n 2, 1)), (67, (.iconst 1, 1)), (68, (.invokevirtual 130, 3)), (71, (.ireturn, 1))] := dk_of 60 (by decide +kernel)
theorem dX11_readsAll_60 : decode cX11_readsAll 60 = .ok (.iload_n 2, 1) := dK_c_56.1
theorem dX11_readsAll_61 : decode cX11_readsAll 61 = .ok (.invokevirtual 134, 3) := dK_c_56.2.1
theorem dX11_readsAll_64 : decode cX11_readsAll 64 = .ok (.ireturn, 1) := dK_c_56.2.2.1
theorem dX11_readsAll_65 : decode cX11_readsAll 65 = .ok (.aload_n 0, 1) := dK_c_56.2.2.2.1
theorem dX11_readsAll_66 : decode cX11_readsAll 66 = .ok (.iload_n 2, 1) := dK_c_56.2.2.2.2.1
theorem dX11_readsAll_67 : decode cX11_readsAll 67 = .ok (.iconst 1, 1) := dK_c_56.2.2.2.2.2.1
theorem dX11_readsAll_68 : decode cX11_readsAll 68 = .ok (.invokevirtual 130, 3) := dK_c_56.2.2.2.2.2.2.1
theorem dX11_readsAll_71 : decode cX11_readsAll 71 = .ok (.ireturn, 1) := dK_c_56.2.2.2.2.2.2.2.1
theorem dK_c_57 : dk_P cX11_readsAll [(72, (.aload_n 0, 1)), (73, (.iload_n 2, 1)), (74, (.invokevirtual 138, 3)), (77, (.ireturn, 1)), (78, (.iconst 1, 1)), (79, (.ireturn, 1))] := dk_of 72 (by decide +kernel)
theorem dX11_readsAll_72 : decode cX11_readsAll 72 = .ok (.aload_n 0, 1) := dK_c_57.1
theorem dX11_readsAll_73 : decode cX11_readsAll 73 = .ok (.iload_n 2, 1) := dK_c_57.2.1
theorem dX11_readsAll_74 : decode cX11_readsAll 74 = .ok (.invokevirtual 138, 3) := dK_c_57.2.2.1
theorem dX11_readsAll_77 : decode cX11_readsAll 77 = .ok (.ireturn, 1) := dK_c_57.2.2.2.1
theorem dX11_readsAll_78 : decode cX11_readsAll 78 = .ok (.iconst 1, 1) := dK_c_57.2.2.2.2.1
theorem dX11_readsAll_79 : decode cX11_readsAll 79 = .ok (.ireturn, 1) := dK_c_57.2.2.2.2.2.1
theorem dK_c_58 : dk_P cX11_statement [(0, (.aload_n 0, 1)), (1, (.invokevirtual 122, 3)), (4, (.istore_n 1, 1)), (5, (.iload_n 1, 1)), (6, (.bipush 110, 2)), (8, (.if_icmp .eq 41, 3)), (11, (.iload_n 1, 1)), (12, (.bipush 119, 2))] := dk_of 0 (by decide +kernel)
theorem dX11_statement_0 : decode cX11_statement 0 = .ok (.aload_n 0, 1) := dK_c_58.1
theorem dX11_statement_1 : decode cX11_statement 1 = .ok (.invokevirtual 122, 3) := dK_c_58.2.1
theorem dX11_statement_4 : decode cX11_statement 4 = .ok (.istore_n 1, 1) := dK_c_58.2.2.1
theorem dX11_statement_5 : decode cX11_statement 5 = .ok (.iload_n 1, 1) := dK_c_58.2.2.2.1
theorem dX11_statement_6 : decode cX11_statement 6 = .ok (.bipush 110, 2) := dK_c_58.2.2.2.2.1
theorem dX11_statement_8 : decode cX11_statement 8 = .ok (.if_icmp .eq 41, 3) := dK_c_58.2.2.2.2.2.1
theorem dX11_statement_11 : decode cX11_statement 11 = .ok (.iload_n 1, 1) := dK_c_58.2.2.2.2.2.2.1
theorem dX11_statement_12 : decode cX11_statement 12 = .ok (.bipush 119, 2) := dK_c_58.2.2.2.2.2.2.2.1
theorem dK_c_59 : dk_P cX11_statement [(14, (.if_icmp .eq 35, 3)), (17, (.iload_n 1, 1)), (18, (.bipush 103, 2)), (20, (.if_icmp .eq 29, 3)), (23, (.iload_n 1, 1)), (24, (.bipush 106, 2)), (26, (.if_icmp .eq 23, 3)), (29, (.iload_n 1, 1))] := dk_of 14 (by decide +kernel)
theorem dX11_statement_14 : decode cX11_statement 14 = .ok (.if_icmp .eq 35, 3) := dK_c_59.1
theorem dX11_statement_17 : decode cX11_statement 17 = .ok (.iload_n 1, 1) := dK_c_59.2.1
theorem dX11_statement_18 : decode cX11_statement 18 = .ok (.bipush 103, 2) := dK_c_59.2.2.1
theorem dX11_statement_20 : decode cX11_statement 20 = .ok (.if_icmp .eq 29, 3) := dK_c_59.2.2.2.1
theorem dX11_statement_23 : decode cX11_statement 23 = .ok (.iload_n 1, 1) := dK_c_59.2.2.2.2.1
theorem dX11_statement_24 : decode cX11_statement 24 = .ok (.bipush 106, 2) := dK_c_59.2.2.2.2.2.1
theorem dX11_statement_26 : decode cX11_statement 26 = .ok (.if_icmp .eq 23, 3) := dK_c_59.2.2.2.2.2.2.1
theorem dX11_statement_29 : decode cX11_statement 29 = .ok (.iload_n 1, 1) := dK_c_59.2.2.2.2.2.2.2.1
theorem dK_c_60 : dk_P cX11_statement [(30, (.bipush 116, 2)), (32, (.if_icmp .eq 17, 3)), (35, (.iload_n 1, 1)), (36, (.bipush 102, 2)), (38, (.if_icmp .eq 11, 3)), (41, (.iload_n 1, 1)), (42, (.bipush 112, 2)), (44, (.if_icmp .eq 5, 3))] := dk_of 30 (by decide +kernel)
theorem dX11_statement_30 : decode cX11_statement 30 = .ok (.bipush 116, 2) := dK_c_60.1
theorem dX11_statement_32 : decode cX11_statement 32 = .ok (.if_icmp .eq 17, 3) := dK_c_60.2.1
theorem dX11_statement_35 : decode cX11_statement 35 = .ok (.iload_n 1, 1) := dK_c_60.2.2.1
theorem dX11_statement_36 : decode cX11_statement 36 = .ok (.bipush 102, 2) := dK_c_60.2.2.2.1
theorem dX11_statement_38 : decode cX11_statement 38 = .ok (.if_icmp .eq 11, 3) := dK_c_60.2.2.2.2.1
theorem dX11_statement_41 : decode cX11_statement 41 = .ok (.iload_n 1, 1) := dK_c_60.2.2.2.2.2.1
theorem dX11_statement_42 : decode cX11_statement 42 = .ok (.bipush 112, 2) := dK_c_60.2.2.2.2.2.2.1
theorem dX11_statement_44 : decode cX11_statement 44 = .ok (.if_icmp .eq 5, 3) := dK_c_60.2.2.2.2.2.2.2.1
theorem dK_c_61 : dk_P cX11_statement [(47, (.iconst 0, 1)), (48, (.ireturn, 1)), (49, (.aload_n 0, 1)), (50, (.getfield 49, 3)), (53, (.aload_n 0, 1)), (54, (.getfield 141, 3)), (57, (.iload_n 1, 1)), (58, (.iastore, 1))] := dk_of 47 (by decide +kernel)
theorem dX11_statement_47 : decode cX11_statement 47 = .ok (.iconst 0, 1) := dK_c_61.1
theorem dX11_statement_48 : decode cX11_statement 48 = .ok (.ireturn, 1) := dK_c_61.2.1
theorem dX11_statement_49 : decode cX11_statement 49 = .ok (.aload_n 0, 1) := dK_c_61.2.2.1
theorem dX11_statement_50 : decode cX11_statement 50 = .ok (.getfield 49, 3) := dK_c_61.2.2.2.1
theorem dX11_statement_53 : decode cX11_statement 53 = .ok (.aload_n 0, 1) := dK_c_61.2.2.2.2.1
theorem dX11_statement_54 : decode cX11_statement 54 = .ok (.getfield 141, 3) := dK_c_61.2.2.2.2.2.1
theorem dX11_statement_57 : decode cX11_statement 57 = .ok (.iload_n 1, 1) := dK_c_61.2.2.2.2.2.2.1
theorem dX11_statement_58 : decode cX11_statement 58 = .ok (.iastore, 1) := dK_c_61.2.2.2.2.2.2.2.1
theorem dK_c_62 : dk_P cX11_statement [(59, (.aload_n 0, 1)), (60, (.getfield 52, 3)), (63, (.aload_n 0, 1)), (64, (.getfield 141, 3)), (67, (.aload_n 0, 1)), (68, (.getfield 119, 3)), (71, (.iastore, 1)), (72, (.aload_n 0, 1))] := dk_of 59 (by decide +kernel)
theorem dX11_statement_59 : decode cX11_statement 59 = .ok (.aload_n 0, 1) := dK_c_62.1
theorem dX11_statement_60 : decode cX11_statement 60 = .ok (.getfield 52, 3) := dK_c_62.2.1
theorem dX11_statement_63 : decode cX11_statement 63 = .ok (.aload_n 0, 1) := dK_c_62.2.2.1
theorem dX11_statement_64 : decode cX11_statement 64 = .ok (.getfield 141, 3) := dK_c_62.2.2.2.1
theorem dX11_statement_67 : decode cX11_statement 67 = .ok (.aload_n 0, 1) := dK_c_62.2.2.2.2.1
theorem dX11_statement_68 : decode cX11_statement 68 = .ok (.getfield 119, 3) := dK_c_62.2.2.2.2.2.1
theorem dX11_statement_71 : decode cX11_statement 71 = .ok (.iastore, 1) := dK_c_62.2.2.2.2.2.2.1
theorem dX11_statement_72 : decode cX11_statement 72 = .ok (.aload_n 0, 1) := dK_c_62.2.2.2.2.2.2.2.1
theorem dK_c_63 : dk_P cX11_statement [(73, (.dup, 1)), (74, (.getfield 119, 3)), (77, (.iconst 1, 1)), (78, (.iadd, 1)), (79, (.putfield 119, 3)), (82, (.aload_n 0, 1)), (83, (.iload_n 1, 1)), (84, (.bipush 8, 2))] := dk_of 73 (by decide +kernel)
theorem dX11_statement_73 : decode cX11_statement 73 = .ok (.dup, 1) := dK_c_63.1
theorem dX11_statement_74 : decode cX11_statement 74 = .ok (.getfield 119, 3) := dK_c_63.2.1
theorem dX11_statement_77 : decode cX11_statement 77 = .ok (.iconst 1, 1) := dK_c_63.2.2.1
theorem dX11_statement_78 : decode cX11_statement 78 = .ok (.iadd, 1) := dK_c_63.2.2.2.1
theorem dX11_statement_79 : decode cX11_statement 79 = .ok (.putfield 119, 3) := dK_c_63.2.2.2.2.1
theorem dX11_statement_82 : decode cX11_statement 82 = .ok (.aload_n 0, 1) := dK_c_63.2.2.2.2.2.1
theorem dX11_statement_83 : decode cX11_statement 83 = .ok (.iload_n 1, 1) := dK_c_63.2.2.2.2.2.2.1
theorem dX11_statement_84 : decode cX11_statement 84 = .ok (.bipush 8, 2) := dK_c_63.2.2.2.2.2.2.2.1
theorem dK_c_64 : dk_P cX11_statement [(86, (.aload_n 0, 1)), (87, (.getfield 141, 3)), (90, (.imul, 1)), (91, (.invokevirtual 144, 3)), (94, (.ifCond .eq 12, 3)), (97, (.aload_n 0, 1)), (98, (.invokevirtual 122, 3)), (101, (.bipush 59, 2))] := dk_of 86 (by decide +kernel)
theorem dX11_statement_86 : decode cX11_statement 86 = .ok (.aload_n 0, 1) := dK_c_64.1
theorem dX11_statement_87 : decode cX11_statement 87 = .ok (.getfield 141, 3) := dK_c_64.2.1
theorem dX11_statement_90 : decode cX11_statement 90 = .ok (.imul, 1) := dK_c_64.2.2.1
theorem dX11_statement_91 : decode cX11_statement 91 = .ok (.invokevirtual 144, 3) := dK_c_64.2.2.2.1
theorem dX11_statement_94 : decode cX11_statement 94 = .ok (.ifCond .eq 12, 3) := dK_c_64.2.2.2.2.1
theorem dX11_statement_97 : decode cX11_statement 97 = .ok (.aload_n 0, 1) := dK_c_64.2.2.2.2.2.1
theorem dX11_statement_98 : decode cX11_statement 98 = .ok (.invokevirtual 122, 3) := dK_c_64.2.2.2.2.2.2.1
theorem dX11_statement_101 : decode cX11_statement 101 = .ok (.bipush 59, 2) := dK_c_64.2.2.2.2.2.2.2.1
theorem dK_c_65 : dk_P cX11_statement [(103, (.if_icmp .eq 5, 3)), (106, (.iconst 0, 1)), (107, (.ireturn, 1)), (108, (.aload_n 0, 1)), (109, (.dup, 1)), (110, (.getfield 119, 3)), (113, (.iconst 1, 1)), (114, (.iadd, 1))] := dk_of 103 (by decide +kernel)
theorem dX11_statement_103 : decode cX11_statement 103 = .ok (.if_icmp .eq 5, 3) := dK_c_65.1
theorem dX11_statement_106 : decode cX11_statement 106 = .ok (.iconst 0, 1) := dK_c_65.2.1
theorem dX11_statement_107 : decode cX11_statement 107 = .ok (.ireturn, 1) := dK_c_65.2.2.1
theorem dX11_statement_108 : decode cX11_statement 108 = .ok (.aload_n 0, 1) := dK_c_65.2.2.2.1
theorem dX11_statement_109 : decode cX11_statement 109 = .ok (.dup, 1) := dK_c_65.2.2.2.2.1
theorem dX11_statement_110 : decode cX11_statement 110 = .ok (.getfield 119, 3) := dK_c_65.2.2.2.2.2.1
theorem dX11_statement_113 : decode cX11_statement 113 = .ok (.iconst 1, 1) := dK_c_65.2.2.2.2.2.2.1
theorem dX11_statement_114 : decode cX11_statement 114 = .ok (.iadd, 1) := dK_c_65.2.2.2.2.2.2.2.1
theorem dK_c_66 : dk_P cX11_statement [(115, (.putfield 119, 3)), (118, (.iconst 1, 1)), (119, (.ireturn, 1))] := dk_of 115 (by decide +kernel)
theorem dX11_statement_115 : decode cX11_statement 115 = .ok (.putfield 119, 3) := dK_c_66.1
theorem dX11_statement_118 : decode cX11_statement 118 = .ok (.iconst 1, 1) := dK_c_66.2.1
theorem dX11_statement_119 : decode cX11_statement 119 = .ok (.ireturn, 1) := dK_c_66.2.2.1
theorem dK_c_67 : dk_P cX11_comesJumper [(0, (.aload_n 0, 1)), (1, (.getfield 55, 3)), (4, (.iload_n 1, 1)), (5, (.iaload, 1)), (6, (.iconst 5, 1)), (7, (.if_icmp .gt 85, 3)), (10, (.aload_n 0, 1)), (11, (.getfield 55, 3))] := dk_of 0 (by decide +kernel)
theorem dX11_comesJumper_0 : decode cX11_comesJumper 0 = .ok (.aload_n 0, 1) := dK_c_67.1
theorem dX11_comesJumper_1 : decode cX11_comesJumper 1 = .ok (.getfield 55, 3) := dK_c_67.2.1
theorem dX11_comesJumper_4 : decode cX11_comesJumper 4 = .ok (.iload_n 1, 1) := dK_c_67.2.2.1
theorem dX11_comesJumper_5 : decode cX11_comesJumper 5 = .ok (.iaload, 1) := dK_c_67.2.2.2.1
theorem dX11_comesJumper_6 : decode cX11_comesJumper 6 = .ok (.iconst 5, 1) := dK_c_67.2.2.2.2.1
theorem dX11_comesJumper_7 : decode cX11_comesJumper 7 = .ok (.if_icmp .gt 85, 3) := dK_c_67.2.2.2.2.2.1
theorem dX11_comesJumper_10 : decode cX11_comesJumper 10 = .ok (.aload_n 0, 1) := dK_c_67.2.2.2.2.2.2.1
theorem dX11_comesJumper_11 : decode cX11_comesJumper 11 = .ok (.getfield 55, 3) := dK_c_67.2.2.2.2.2.2.2.1
theorem dK_c_68 : dk_P cX11_comesJumper [(14, (.iload_n 1, 1)), (15, (.iconst 2, 1)), (16, (.iadd, 1)), (17, (.iaload, 1)), (18, (.bipush 40, 2)), (20, (.if_icmp .lt 72, 3)), (23, (.aload_n 0, 1)), (24, (.getfield 55, 3))] := dk_of 14 (by decide +kernel)
theorem dX11_comesJumper_14 : decode cX11_comesJumper 14 = .ok (.iload_n 1, 1) := dK_c_68.1
theorem dX11_comesJumper_15 : decode cX11_comesJumper 15 = .ok (.iconst 2, 1) := dK_c_68.2.1
theorem dX11_comesJumper_16 : decode cX11_comesJumper 16 = .ok (.iadd, 1) := dK_c_68.2.2.1
theorem dX11_comesJumper_17 : decode cX11_comesJumper 17 = .ok (.iaload, 1) := dK_c_68.2.2.2.1
theorem dX11_comesJumper_18 : decode cX11_comesJumper 18 = .ok (.bipush 40, 2) := dK_c_68.2.2.2.2.1
theorem dX11_comesJumper_20 : decode cX11_comesJumper 20 = .ok (.if_icmp .lt 72, 3) := dK_c_68.2.2.2.2.2.1
theorem dX11_comesJumper_23 : decode cX11_comesJumper 23 = .ok (.aload_n 0, 1) := dK_c_68.2.2.2.2.2.2.1
theorem dX11_comesJumper_24 : decode cX11_comesJumper 24 = .ok (.getfield 55, 3) := dK_c_68.2.2.2.2.2.2.2.1
theorem dK_c_69 : dk_P cX11_comesJumper [(27, (.iload_n 1, 1)), (28, (.iconst 4, 1)), (29, (.iadd, 1)), (30, (.iaload, 1)), (31, (.bipush 6, 2)), (33, (.if_icmp .gt 59, 3)), (36, (.aload_n 0, 1)), (37, (.getfield 55, 3))] := dk_of 27 (by decide +kernel)
theorem dX11_comesJumper_27 : decode cX11_comesJumper 27 = .ok (.iload_n 1, 1) := dK_c_69.1
theorem dX11_comesJumper_28 : decode cX11_comesJumper 28 = .ok (.iconst 4, 1) := dK_c_69.2.1
theorem dX11_comesJumper_29 : decode cX11_comesJumper 29 = .ok (.iadd, 1) := dK_c_69.2.2.1
theorem dX11_comesJumper_30 : decode cX11_comesJumper 30 = .ok (.iaload, 1) := dK_c_69.2.2.2.1
theorem dX11_comesJumper_31 : decode cX11_comesJumper 31 = .ok (.bipush 6, 2) := dK_c_69.2.2.2.2.1
theorem dX11_comesJumper_33 : decode cX11_comesJumper 33 = .ok (.if_icmp .gt 59, 3) := dK_c_69.2.2.2.2.2.1
theorem dX11_comesJumper_36 : decode cX11_comesJumper 36 = .ok (.aload_n 0, 1) := dK_c_69.2.2.2.2.2.2.1
theorem dX11_comesJumper_37 : decode cX11_comesJumper 37 = .ok (.getfield 55, 3) := dK_c_69.2.2.2.2.2.2.2.1
theorem dK_c_70 : dk_P cX11_comesJumper [(40, (.iload_n 1, 1)), (41, (.iconst 5, 1)), (42, (.iadd, 1)), (43, (.iaload, 1)), (44, (.bipush 20, 2)), (46, (.if_icmp .lt 46, 3)), (49, (.aload_n 0, 1)), (50, (.getfield 55, 3))] := dk_of 40 (by decide +kernel)
theorem dX11_comesJumper_40 : decode cX11_comesJumper 40 = .ok (.iload_n 1, 1) := dK_c_70.1
theorem dX11_comesJumper_41 : decode cX11_comesJumper 41 = .ok (.iconst 5, 1) := dK_c_70.2.1
theorem dX11_comesJumper_42 : decode cX11_comesJumper 42 = .ok (.iadd, 1) := dK_c_70.2.2.1
theorem dX11_comesJumper_43 : decode cX11_comesJumper 43 = .ok (.iaload, 1) := dK_c_70.2.2.2.1
theorem dX11_comesJumper_44 : decode cX11_comesJumper 44 = .ok (.bipush 20, 2) := dK_c_70.2.2.2.2.1
theorem dX11_comesJumper_46 : decode cX11_comesJumper 46 = .ok (.if_icmp .lt 46, 3) := dK_c_70.2.2.2.2.2.1
theorem dX11_comesJumper_49 : decode cX11_comesJumper 49 = .ok (.aload_n 0, 1) := dK_c_70.2.2.2.2.2.2.1
theorem dX11_comesJumper_50 : decode cX11_comesJumper 50 = .ok (.getfield 55, 3) := dK_c_70.2.2.2.2.2.2.2.1
theorem dK_c_71 : dk_P cX11_comesJumper [(53, (.iload_n 1, 1)), (54, (.bipush 6, 2)), (56, (.iadd, 1)), (57, (.iaload, 1)), (58, (.iconst 4, 1)), (59, (.if_icmp .gt 33, 3)), (62, (.aload_n 0, 1)), (63, (.getfield 55, 3))] := dk_of 53 (by decide +kernel)
theorem dX11_comesJumper_53 : decode cX11_comesJumper 53 = .ok (.iload_n 1, 1) := dK_c_71.1
theorem dX11_comesJumper_54 : decode cX11_comesJumper 54 = .ok (.bipush 6, 2) := dK_c_71.2.1
theorem dX11_comesJumper_56 : decode cX11_comesJumper 56 = .ok (.iadd, 1) := dK_c_71.2.2.1
theorem dX11_comesJumper_57 : decode cX11_comesJumper 57 = .ok (.iaload, 1) := dK_c_71.2.2.2.1
theorem dX11_comesJumper_58 : decode cX11_comesJumper 58 = .ok (.iconst 4, 1) := dK_c_71.2.2.2.2.1
theorem dX11_comesJumper_59 : decode cX11_comesJumper 59 = .ok (.if_icmp .gt 33, 3) := dK_c_71.2.2.2.2.2.1
theorem dX11_comesJumper_62 : decode cX11_comesJumper 62 = .ok (.aload_n 0, 1) := dK_c_71.2.2.2.2.2.2.1
theorem dX11_comesJumper_63 : decode cX11_comesJumper 63 = .ok (.getfield 55, 3) := dK_c_71.2.2.2.2.2.2.2.1
theorem dK_c_72 : dk_P cX11_comesJumper [(66, (.iload_n 1, 1)), (67, (.bipush 7, 2)), (69, (.iadd, 1)), (70, (.iaload, 1)), (71, (.sipush 2400, 3)), (74, (.if_icmp .gt 18, 3)), (77, (.aload_n 0, 1)), (78, (.getfield 105, 3))] := dk_of 66 (by decide +kernel)
theorem dX11_comesJumper_66 : decode cX11_comesJumper 66 = .ok (.iload_n 1, 1) := dK_c_72.1
theorem dX11_comesJumper_67 : decode cX11_comesJumper 67 = .ok (.bipush 7, 2) := dK_c_72.2.1
theorem dX11_comesJumper_69 : decode cX11_comesJumper 69 = .ok (.iadd, 1) := dK_c_72.2.2.1
theorem dX11_comesJumper_70 : decode cX11_comesJumper 70 = .ok (.iaload, 1) := dK_c_72.2.2.2.1
theorem dX11_comesJumper_71 : decode cX11_comesJumper 71 = .ok (.sipush 2400, 3) := dK_c_72.2.2.2.2.1
theorem dX11_comesJumper_74 : decode cX11_comesJumper 74 = .ok (.if_icmp .gt 18, 3) := dK_c_72.2.2.2.2.2.1
theorem dX11_comesJumper_77 : decode cX11_comesJumper 77 = .ok (.aload_n 0, 1) := dK_c_72.2.2.2.2.2.2.1
theorem dX11_comesJumper_78 : decode cX11_comesJumper 78 = .ok (.getfield 105, 3) := dK_c_72.2.2.2.2.2.2.2.1
theorem dK_c_73 : dk_P cX11_comesJumper [(81, (.iconst 4, 1)), (82, (.if_icmp .eq 10, 3)), (85, (.aload_n 0, 1)), (86, (.getfield 147, 3)), (89, (.ifCond .le 5, 3)), (92, (.iconst 0, 1)), (93, (.ireturn, 1)), (94, (.aload_n 0, 1))] := dk_of 81 (by decide +kernel)
theorem dX11_comesJumper_81 : decode cX11_comesJumper 81 = .ok (.iconst 4, 1) := dK_c_73.1
theorem dX11_comesJumper_82 : decode cX11_comesJumper 82 = .ok (.if_icmp .eq 10, 3) := dK_c_73.2.1
theorem dX11_comesJumper_85 : decode cX11_comesJumper 85 = .ok (.aload_n 0, 1) := dK_c_73.2.2.1
theorem dX11_comesJumper_86 : decode cX11_comesJumper 86 = .ok (.getfield 147, 3) := dK_c_73.2.2.2.1
theorem dX11_comesJumper_89 : decode cX11_comesJumper 89 = .ok (.ifCond .le 5, 3) := dK_c_73.2.2.2.2.1
theorem dX11_comesJumper_92 : decode cX11_comesJumper 92 = .ok (.iconst 0, 1) := dK_c_73.2.2.2.2.2.1
theorem dX11_comesJumper_93 : decode cX11_comesJumper 93 = .ok (.ireturn, 1) := dK_c_73.2.2.2.2.2.2.1
theorem dX11_comesJumper_94 : decode cX11_comesJumper 94 = .ok (.aload_n 0, 1) := dK_c_73.2.2.2.2.2.2.2.1
theorem dK_c_74 : dk_P cX11_comesJumper [(95, (.getfield 13, 3)), (98, (.aload_n 0, 1)), (99, (.getfield 105, 3)), (102, (.aload_n 0, 1)), (103, (.getfield 55, 3)), (106, (.iload_n 1, 1)), (107, (.iaload, 1)), (108, (.iastore, 1))] := dk_of 95 (by decide +kernel)
theorem dX11_comesJumper_95 : decode cX11_comesJumper 95 = .ok (.getfield 13, 3) := dK_c_74.1
theorem dX11_comesJumper_98 : decode cX11_comesJumper 98 = .ok (.aload_n 0, 1) := dK_c_74.2.1
theorem dX11_comesJumper_99 : decode cX11_comesJumper 99 = .ok (.getfield 105, 3) := dK_c_74.2.2.1
theorem dX11_comesJumper_102 : decode cX11_comesJumper 102 = .ok (.aload_n 0, 1) := dK_c_74.2.2.2.1
theorem dX11_comesJumper_103 : decode cX11_comesJumper 103 = .ok (.getfield 55, 3) := dK_c_74.2.2.2.2.1
theorem dX11_comesJumper_106 : decode cX11_comesJumper 106 = .ok (.iload_n 1, 1) := dK_c_74.2.2.2.2.2.1
theorem dX11_comesJumper_107 : decode cX11_comesJumper 107 = .ok (.iaload, 1) := dK_c_74.2.2.2.2.2.2.1
theorem dX11_comesJumper_108 : decode cX11_comesJumper 108 = .ok (.iastore, 1) := dK_c_74.2.2.2.2.2.2.2.1
theorem dK_c_75 : dk_P cX11_comesJumper [(109, (.aload_n 0, 1)), (110, (.getfield 16, 3)), (113, (.aload_n 0, 1)), (114, (.getfield 105, 3)), (117, (.aload_n 0, 1)), (118, (.getfield 55, 3)), (121, (.iload_n 1, 1)), (122, (.iconst 1, 1))] := dk_of 109 (by decide +kernel)
theorem dX11_comesJumper_109 : decode cX11_comesJumper 109 = .ok (.aload_n 0, 1) := dK_c_75.1
theorem dX11_comesJumper_110 : decode cX11_comesJumper 110 = .ok (.getfield 16, 3) := dK_c_75.2.1
theorem dX11_comesJumper_113 : decode cX11_comesJumper 113 = .ok (.aload_n 0, 1) := dK_c_75.2.2.1
theorem dX11_comesJumper_114 : decode cX11_comesJumper 114 = .ok (.getfield 105, 3) := dK_c_75.2.2.2.1
theorem dX11_comesJumper_117 : decode cX11_comesJumper 117 = .ok (.aload_n 0, 1) := dK_c_75.2.2.2.2.1
theorem dX11_comesJumper_118 : decode cX11_comesJumper 118 = .ok (.getfield 55, 3) := dK_c_75.2.2.2.2.2.1
theorem dX11_comesJumper_121 : decode cX11_comesJumper 121 = .ok (.iload_n 1, 1) := dK_c_75.2.2.2.2.2.2.1
theorem dX11_comesJumper_122 : decode cX11_comesJumper 122 = .ok (.iconst 1, 1) := dK_c_75.2.2.2.2.2.2.2.1
theorem dK_c_76 : dk_P cX11_comesJumper [(123, (.iadd, 1)), (124, (.iaload, 1)), (125, (.iastore, 1)), (126, (.aload_n 0, 1)), (127, (.getfield 19, 3)), (130, (.aload_n 0, 1)), (131, (.getfield 105, 3)), (134, (.aload_n 0, 1))] := dk_of 123 (by decide +kernel)
theorem dX11_comesJumper_123 : decode cX11_comesJumper 123 = .ok (.iadd, 1) := dK_c_76.1
theorem dX11_comesJumper_124 : decode cX11_comesJumper 124 = .ok (.iaload, 1) := dK_c_76.2.1
theorem dX11_comesJumper_125 : decode cX11_comesJumper 125 = .ok (.iastore, 1) := dK_c_76.2.2.1
theorem dX11_comesJumper_126 : decode cX11_comesJumper 126 = .ok (.aload_n 0, 1) := dK_c_76.2.2.2.1
theorem dX11_comesJumper_127 : decode cX11_comesJumper 127 = .ok (.getfield 19, 3) := dK_c_76.2.2.2.2.1
theorem dX11_comesJumper_130 : decode cX11_comesJumper 130 = .ok (.aload_n 0, 1) := dK_c_76.2.2.2.2.2.1
theorem dX11_comesJumper_131 : decode cX11_comesJumper 131 = .ok (.getfield 105, 3) := dK_c_76.2.2.2.2.2.2.1
theorem dX11_comesJumper_134 : decode cX11_comesJumper 134 = .ok (.aload_n 0, 1) := dK_c_76.2.2.2.2.2.2.2.1
theorem dK_c_77 : dk_P cX11_comesJumper [(135, (.getfield 55, 3)), (138, (.iload_n 1, 1)), (139, (.iconst 2, 1)), (140, (.iadd, 1)), (141, (.iaload, 1)), (142, (.iastore, 1)), (143, (.aload_n 0, 1)), (144, (.getfield 22, 3))] := dk_of 135 (by decide +kernel)
theorem dX11_comesJumper_135 : decode cX11_comesJumper 135 = .ok (.getfield 55, 3) := dK_c_77.1
theorem dX11_comesJumper_138 : decode cX11_comesJumper 138 = .ok (.iload_n 1, 1) := dK_c_77.2.1
theorem dX11_comesJumper_139 : decode cX11_comesJumper 139 = .ok (.iconst 2, 1) := dK_c_77.2.2.1
theorem dX11_comesJumper_140 : decode cX11_comesJumper 140 = .ok (.iadd, 1) := dK_c_77.2.2.2.1
theorem dX11_comesJumper_141 : decode cX11_comesJumper 141 = .ok (.iaload, 1) := dK_c_77.2.2.2.2.1
theorem dX11_comesJumper_142 : decode cX11_comesJumper 142 = .ok (.iastore, 1) := dK_c_77.2.2.2.2.2.1
theorem dX11_comesJumper_143 : decode cX11_comesJumper 143 = .ok (.aload_n 0, 1) := dK_c_77.2.2.2.2.2.2.1
theorem dX11_comesJumper_144 : decode cX11_comesJumper 144 = .ok (.getfield 22, 3) := dK_c_77.2.2.2.2.2.2.2.1
theorem dK_c_78 : dk_P cX11_comesJumper [(147, (.aload_n 0, 1)), (148, (.getfield 105, 3)), (151, (.aload_n 0, 1)), (152, (.getfield 55, 3)), (155, (.iload_n 1, 1)), (156, (.iconst 3, 1)), (157, (.iadd, 1)), (158, (.iaload, 1))] := dk_of 147 (by decide +kernel)
theorem dX11_comesJumper_147 : decode cX11_comesJumper 147 = .ok (.aload_n 0, 1) := dK_c_78.1
theorem dX11_comesJumper_148 : decode cX11_comesJumper 148 = .ok (.getfield 105, 3) := dK_c_78.2.1
theorem dX11_comesJumper_151 : decode cX11_comesJumper 151 = .ok (.aload_n 0, 1) := dK_c_78.2.2.1
theorem dX11_comesJumper_152 : decode cX11_comesJumper 152 = .ok (.getfield 55, 3) := dK_c_78.2.2.2.1
theorem dX11_comesJumper_155 : decode cX11_comesJumper 155 = .ok (.iload_n 1, 1) := dK_c_78.2.2.2.2.1
theorem dX11_comesJumper_156 : decode cX11_comesJumper 156 = .ok (.iconst 3, 1) := dK_c_78.2.2.2.2.2.1
theorem dX11_comesJumper_157 : decode cX11_comesJumper 157 = .ok (.iadd, 1) := dK_c_78.2.2.2.2.2.2.1
theorem dX11_comesJumper_158 : decode cX11_comesJumper 158 = .ok (.iaload, 1) := dK_c_78.2.2.2.2.2.2.2.1
theorem dK_c_79 : dk_P cX11_comesJumper [(159, (.iastore, 1)), (160, (.aload_n 0, 1)), (161, (.getfield 25, 3)), (164, (.aload_n 0, 1)), (165, (.getfield 105, 3)), (168, (.aload_n 0, 1)), (169, (.getfield 55, 3)), (172, (.iload_n 1, 1))] := dk_of 159 (by decide +kernel)
theorem dX11_comesJumper_159 : decode cX11_comesJumper 159 = .ok (.iastore, 1) := dK_c_79.1
theorem dX11_comesJumper_160 : decode cX11_comesJumper 160 = .ok (.aload_n 0, 1) := dK_c_79.2.1
theorem dX11_comesJumper_161 : decode cX11_comesJumper 161 = .ok (.getfield 25, 3) := dK_c_79.2.2.1
theorem dX11_comesJumper_164 : decode cX11_comesJumper 164 = .ok (.aload_n 0, 1) := dK_c_79.2.2.2.1
theorem dX11_comesJumper_165 : decode cX11_comesJumper 165 = .ok (.getfield 105, 3) := dK_c_79.2.2.2.2.1
theorem dX11_comesJumper_168 : decode cX11_comesJumper 168 = .ok (.aload_n 0, 1) := dK_c_79.2.2.2.2.2.1
theorem dX11_comesJumper_169 : decode cX11_comesJumper 169 = .ok (.getfield 55, 3) := dK_c_79.2.2.2.2.2.2.1
theorem dX11_comesJumper_172 : decode cX11_comesJumper 172 = .ok (.iload_n 1, 1) := dK_c_79.2.2.2.2.2.2.2.1
theorem dK_c_80 : dk_P cX11_comesJumper [(173, (.iconst 4, 1)), (174, (.iadd, 1)), (175, (.iaload, 1)), (176, (.iastore, 1)), (177, (.aload_n 0, 1)), (178, (.getfield 28, 3)), (181, (.aload_n 0, 1)), (182, (.getfield 105, 3))] := dk_of 173 (by decide +kernel)
theorem dX11_comesJumper_173 : decode cX11_comesJumper 173 = .ok (.iconst 4, 1) := dK_c_80.1
theorem dX11_comesJumper_174 : decode cX11_comesJumper 174 = .ok (.iadd, 1) := dK_c_80.2.1
theorem dX11_comesJumper_175 : decode cX11_comesJumper 175 = .ok (.iaload, 1) := dK_c_80.2.2.1
theorem dX11_comesJumper_176 : decode cX11_comesJumper 176 = .ok (.iastore, 1) := dK_c_80.2.2.2.1
theorem dX11_comesJumper_177 : decode cX11_comesJumper 177 = .ok (.aload_n 0, 1) := dK_c_80.2.2.2.2.1
theorem dX11_comesJumper_178 : decode cX11_comesJumper 178 = .ok (.getfield 28, 3) := dK_c_80.2.2.2.2.2.1
theorem dX11_comesJumper_181 : decode cX11_comesJumper 181 = .ok (.aload_n 0, 1) := dK_c_80.2.2.2.2.2.2.1
theorem dX11_comesJumper_182 : decode cX11_comesJumper 182 = .ok (.getfield 105, 3) := dK_c_80.2.2.2.2.2.2.2.1
theorem dK_c_81 : dk_P cX11_comesJumper [(185, (.aload_n 0, 1)), (186, (.getfield 55, 3)), (189, (.iload_n 1, 1)), (190, (.iconst 5, 1)), (191, (.iadd, 1)), (192, (.iaload, 1)), (193, (.iastore, 1)), (194, (.aload_n 0, 1))] := dk_of 185 (by decide +kernel)
theorem dX11_comesJumper_185 : decode cX11_comesJumper 185 = .ok (.aload_n 0, 1) := dK_c_81.1
theorem dX11_comesJumper_186 : decode cX11_comesJumper 186 = .ok (.getfield 55, 3) := dK_c_81.2.1
theorem dX11_comesJumper_189 : decode cX11_comesJumper 189 = .ok (.iload_n 1, 1) := dK_c_81.2.2.1
theorem dX11_comesJumper_190 : decode cX11_comesJumper 190 = .ok (.iconst 5, 1) := dK_c_81.2.2.2.1
theorem dX11_comesJumper_191 : decode cX11_comesJumper 191 = .ok (.iadd, 1) := dK_c_81.2.2.2.2.1
theorem dX11_comesJumper_192 : decode cX11_comesJumper 192 = .ok (.iaload, 1) := dK_c_81.2.2.2.2.2.1
theorem dX11_comesJumper_193 : decode cX11_comesJumper 193 = .ok (.iastore, 1) := dK_c_81.2.2.2.2.2.2.1
theorem dX11_comesJumper_194 : decode cX11_comesJumper 194 = .ok (.aload_n 0, 1) := dK_c_81.2.2.2.2.2.2.2.1
theorem dK_c_82 : dk_P cX11_comesJumper [(195, (.getfield 31, 3)), (198, (.aload_n 0, 1)), (199, (.getfield 105, 3)), (202, (.aload_n 0, 1)), (203, (.getfield 55, 3)), (206, (.iload_n 1, 1)), (207, (.bipush 6, 2)), (209, (.iadd, 1))] := dk_of 195 (by decide +kernel)
theorem dX11_comesJumper_195 : decode cX11_comesJumper 195 = .ok (.getfield 31, 3) := dK_c_82.1
theorem dX11_comesJumper_198 : decode cX11_comesJumper 198 = .ok (.aload_n 0, 1) := dK_c_82.2.1
theorem dX11_comesJumper_199 : decode cX11_comesJumper 199 = .ok (.getfield 105, 3) := dK_c_82.2.2.1
theorem dX11_comesJumper_202 : decode cX11_comesJumper 202 = .ok (.aload_n 0, 1) := dK_c_82.2.2.2.1
theorem dX11_comesJumper_203 : decode cX11_comesJumper 203 = .ok (.getfield 55, 3) := dK_c_82.2.2.2.2.1
theorem dX11_comesJumper_206 : decode cX11_comesJumper 206 = .ok (.iload_n 1, 1) := dK_c_82.2.2.2.2.2.1
theorem dX11_comesJumper_207 : decode cX11_comesJumper 207 = .ok (.bipush 6, 2) := dK_c_82.2.2.2.2.2.2.1
theorem dX11_comesJumper_209 : decode cX11_comesJumper 209 = .ok (.iadd, 1) := dK_c_82.2.2.2.2.2.2.2.1
theorem dK_c_83 : dk_P cX11_comesJumper [(210, (.iaload, 1)), (211, (.iastore, 1)), (212, (.aload_n 0, 1)), (213, (.getfield 34, 3)), (216, (.aload_n 0, 1)), (217, (.getfield 105, 3)), (220, (.aload_n 0, 1)), (221, (.getfield 55, 3))] := dk_of 210 (by decide +kernel)
theorem dX11_comesJumper_210 : decode cX11_comesJumper 210 = .ok (.iaload, 1) := dK_c_83.1
theorem dX11_comesJumper_211 : decode cX11_comesJumper 211 = .ok (.iastore, 1) := dK_c_83.2.1
theorem dX11_comesJumper_212 : decode cX11_comesJumper 212 = .ok (.aload_n 0, 1) := dK_c_83.2.2.1
theorem dX11_comesJumper_213 : decode cX11_comesJumper 213 = .ok (.getfield 34, 3) := dK_c_83.2.2.2.1
theorem dX11_comesJumper_216 : decode cX11_comesJumper 216 = .ok (.aload_n 0, 1) := dK_c_83.2.2.2.2.1
theorem dX11_comesJumper_217 : decode cX11_comesJumper 217 = .ok (.getfield 105, 3) := dK_c_83.2.2.2.2.2.1
theorem dX11_comesJumper_220 : decode cX11_comesJumper 220 = .ok (.aload_n 0, 1) := dK_c_83.2.2.2.2.2.2.1
theorem dX11_comesJumper_221 : decode cX11_comesJumper 221 = .ok (.getfield 55, 3) := dK_c_83.2.2.2.2.2.2.2.1
theorem dK_c_84 : dk_P cX11_comesJumper [(224, (.iload_n 1, 1)), (225, (.bipush 7, 2)), (227, (.iadd, 1)), (228, (.iaload, 1)), (229, (.iastore, 1)), (230, (.aload_n 0, 1)), (231, (.dup, 1)), (232, (.getfield 105, 3))] := dk_of 224 (by decide +kernel)
theorem dX11_comesJumper_224 : decode cX11_comesJumper 224 = .ok (.iload_n 1, 1) := dK_c_84.1
theorem dX11_comesJumper_225 : decode cX11_comesJumper 225 = .ok (.bipush 7, 2) := dK_c_84.2.1
theorem dX11_comesJumper_227 : decode cX11_comesJumper 227 = .ok (.iadd, 1) := dK_c_84.2.2.1
theorem dX11_comesJumper_228 : decode cX11_comesJumper 228 = .ok (.iaload, 1) := dK_c_84.2.2.2.1
theorem dX11_comesJumper_229 : decode cX11_comesJumper 229 = .ok (.iastore, 1) := dK_c_84.2.2.2.2.1
theorem dX11_comesJumper_230 : decode cX11_comesJumper 230 = .ok (.aload_n 0, 1) := dK_c_84.2.2.2.2.2.1
theorem dX11_comesJumper_231 : decode cX11_comesJumper 231 = .ok (.dup, 1) := dK_c_84.2.2.2.2.2.2.1
theorem dX11_comesJumper_232 : decode cX11_comesJumper 232 = .ok (.getfield 105, 3) := dK_c_84.2.2.2.2.2.2.2.1
theorem dK_c_85 : dk_P cX11_comesJumper [(235, (.iconst 1, 1)), (236, (.iadd, 1)), (237, (.putfield 105, 3)), (240, (.iconst 1, 1)), (241, (.ireturn, 1))] := dk_of 235 (by decide +kernel)
theorem dX11_comesJumper_235 : decode cX11_comesJumper 235 = .ok (.iconst 1, 1) := dK_c_85.1
theorem dX11_comesJumper_236 : decode cX11_comesJumper 236 = .ok (.iadd, 1) := dK_c_85.2.1
theorem dX11_comesJumper_237 : decode cX11_comesJumper 237 = .ok (.putfield 105, 3) := dK_c_85.2.2.1
theorem dX11_comesJumper_240 : decode cX11_comesJumper 240 = .ok (.iconst 1, 1) := dK_c_85.2.2.2.1
theorem dX11_comesJumper_241 : decode cX11_comesJumper 241 = .ok (.ireturn, 1) := dK_c_85.2.2.2.2.1
theorem dK_c_86 : dk_P cX11_comesTry [(0, (.aload_n 0, 1)), (1, (.invokevirtual 150, 3)), (4, (.ifCond .ge 5, 3)), (7, (.iconst 0, 1)), (8, (.ireturn, 1)), (9, (.aload_n 0, 1)), (10, (.aload_n 0, 1)), (11, (.invokevirtual 150, 3))] := dk_of 0 (by decide +kernel)
theorem dX11_comesTry_0 : decode cX11_comesTry 0 = .ok (.aload_n 0, 1) := dK_c_86.1
theorem dX11_comesTry_1 : decode cX11_comesTry 1 = .ok (.invokevirtual 150, 3) := dK_c_86.2.1
theorem dX11_comesTry_4 : decode cX11_comesTry 4 = .ok (.ifCond .ge 5, 3) := dK_c_86.2.2.1
theorem dX11_comesTry_7 : decode cX11_comesTry 7 = .ok (.iconst 0, 1) := dK_c_86.2.2.2.1
theorem dX11_comesTry_8 : decode cX11_comesTry 8 = .ok (.ireturn, 1) := dK_c_86.2.2.2.2.1
theorem dX11_comesTry_9 : decode cX11_comesTry 9 = .ok (.aload_n 0, 1) := dK_c_86.2.2.2.2.2.1
theorem dX11_comesTry_10 : decode cX11_comesTry 10 = .ok (.aload_n 0, 1) := dK_c_86.2.2.2.2.2.2.1
theorem dX11_comesTry_11 : decode cX11_comesTry 11 = .ok (.invokevirtual 150, 3) := dK_c_86.2.2.2.2.2.2.2.1
theorem dK_c_87 : dk_P cX11_comesTry [(14, (.iload_n 1, 1)), (15, (.iload_n 2, 1)), (16, (.invokevirtual 153, 3)), (19, (.iconst 1, 1)), (20, (.ireturn, 1))] := dk_of 14 (by decide +kernel)
theorem dX11_comesTry_14 : decode cX11_comesTry 14 = .ok (.iload_n 1, 1) := dK_c_87.1
theorem dX11_comesTry_15 : decode cX11_comesTry 15 = .ok (.iload_n 2, 1) := dK_c_87.2.1
theorem dX11_comesTry_16 : decode cX11_comesTry 16 = .ok (.invokevirtual 153, 3) := dK_c_87.2.2.1
theorem dX11_comesTry_19 : decode cX11_comesTry 19 = .ok (.iconst 1, 1) := dK_c_87.2.2.2.1
theorem dX11_comesTry_20 : decode cX11_comesTry 20 = .ok (.ireturn, 1) := dK_c_87.2.2.2.2.1
theorem dK_c_88 : dk_P cX11_comes [(0, (.bipush 8, 2)), (2, (.iload_n 1, 1)), (3, (.imul, 1)), (4, (.istore_n 2, 1)), (5, (.aload_n 0, 1)), (6, (.getfield 55, 3)), (9, (.iload_n 2, 1)), (10, (.iaload, 1))] := dk_of 0 (by decide +kernel)
theorem dX11_comes_0 : decode cX11_comes 0 = .ok (.bipush 8, 2) := dK_c_88.1
theorem dX11_comes_2 : decode cX11_comes 2 = .ok (.iload_n 1, 1) := dK_c_88.2.1
theorem dX11_comes_3 : decode cX11_comes 3 = .ok (.imul, 1) := dK_c_88.2.2.1
theorem dX11_comes_4 : decode cX11_comes 4 = .ok (.istore_n 2, 1) := dK_c_88.2.2.2.1
theorem dX11_comes_5 : decode cX11_comes 5 = .ok (.aload_n 0, 1) := dK_c_88.2.2.2.2.1
theorem dX11_comes_6 : decode cX11_comes 6 = .ok (.getfield 55, 3) := dK_c_88.2.2.2.2.2.1
theorem dX11_comes_9 : decode cX11_comes 9 = .ok (.iload_n 2, 1) := dK_c_88.2.2.2.2.2.2.1
theorem dX11_comes_10 : decode cX11_comes 10 = .ok (.iaload, 1) := dK_c_88.2.2.2.2.2.2.2.1
theorem dK_c_89 : dk_P cX11_comes [(11, (.istore_n 3, 1)), (12, (.aload_n 0, 1)), (13, (.getfield 49, 3)), (16, (.iload_n 1, 1)), (17, (.iaload, 1)), (18, (.tableswitch 189 102 119 #[181, 121, 189, 189, 148, 189, 189, 189, 86, 189, 189, 189, 189, 189, 154, 189, 189, 114], 86)), (104, (.aload_n 0, 1)), (105, (.iload_n 3, 1))] := dk_of 11 (by decide +kernel)
theorem dX11_comes_11 : decode cX11_comes 11 = .ok (.istore_n 3, 1) := dK_c_89.1
theorem dX11_comes_12 : decode cX11_comes 12 = .ok (.aload_n 0, 1) := dK_c_89.2.1
theorem dX11_comes_13 : decode cX11_comes 13 = .ok (.getfield 49, 3) := dK_c_89.2.2.1
theorem dX11_comes_16 : decode cX11_comes 16 = .ok (.iload_n 1, 1) := dK_c_89.2.2.2.1
theorem dX11_comes_17 : decode cX11_comes 17 = .ok (.iaload, 1) := dK_c_89.2.2.2.2.1
theorem dX11_comes_18 : decode cX11_comes 18 = .ok (.tableswitch 189 102 119 #[181, 121, 189, 189, 148, 189, 189, 189, 86, 189, 189, 189, 189, 189, 154, 189, 189, 114], 86) := dK_c_89.2.2.2.2.2.1
theorem dX11_comes_104 : decode cX11_comes 104 = .ok (.aload_n 0, 1) := dK_c_89.2.2.2.2.2.2.1
theorem dX11_comes_105 : decode cX11_comes 105 = .ok (.iload_n 3, 1) := dK_c_89.2.2.2.2.2.2.2.1
theorem dK_c_90 : dk_P cX11_comes [(106, (.putfield 95, 3)), (109, (.iload_n 3, 1)), (110, (.iconst 4, 1)), (111, (.bipush 20, 2)), (113, (.invokestatic 126, 3)), (116, (.ifCond .eq 14, 3)), (119, (.aload_n 0, 1)), (120, (.getfield 147, 3))] := dk_of 106 (by decide +kernel)
theorem dX11_comes_106 : decode cX11_comes 106 = .ok (.putfield 95, 3) := dK_c_90.1
theorem dX11_comes_109 : decode cX11_comes 109 = .ok (.iload_n 3, 1) := dK_c_90.2.1
theorem dX11_comes_110 : decode cX11_comes 110 = .ok (.iconst 4, 1) := dK_c_90.2.2.1
theorem dX11_comes_111 : decode cX11_comes 111 = .ok (.bipush 20, 2) := dK_c_90.2.2.2.1
theorem dX11_comes_113 : decode cX11_comes 113 = .ok (.invokestatic 126, 3) := dK_c_90.2.2.2.2.1
theorem dX11_comes_116 : decode cX11_comes 116 = .ok (.ifCond .eq 14, 3) := dK_c_90.2.2.2.2.2.1
theorem dX11_comes_119 : decode cX11_comes 119 = .ok (.aload_n 0, 1) := dK_c_90.2.2.2.2.2.2.1
theorem dX11_comes_120 : decode cX11_comes 120 = .ok (.getfield 147, 3) := dK_c_90.2.2.2.2.2.2.2.1
theorem dK_c_91 : dk_P cX11_comes [(123, (.ifCond .ne 7, 3)), (126, (.iconst 1, 1)), (127, (.goto 4, 3)), (130, (.iconst 0, 1)), (131, (.ireturn, 1)), (132, (.aload_n 0, 1)), (133, (.iload_n 3, 1)), (134, (.putfield 157, 3))] := dk_of 123 (by decide +kernel)
theorem dX11_comes_123 : decode cX11_comes 123 = .ok (.ifCond .ne 7, 3) := dK_c_91.1
theorem dX11_comes_126 : decode cX11_comes 126 = .ok (.iconst 1, 1) := dK_c_91.2.1
theorem dX11_comes_127 : decode cX11_comes 127 = .ok (.goto 4, 3) := dK_c_91.2.2.1
theorem dX11_comes_130 : decode cX11_comes 130 = .ok (.iconst 0, 1) := dK_c_91.2.2.2.1
theorem dX11_comes_131 : decode cX11_comes 131 = .ok (.ireturn, 1) := dK_c_91.2.2.2.2.1
theorem dX11_comes_132 : decode cX11_comes 132 = .ok (.aload_n 0, 1) := dK_c_91.2.2.2.2.2.1
theorem dX11_comes_133 : decode cX11_comes 133 = .ok (.iload_n 3, 1) := dK_c_91.2.2.2.2.2.2.1
theorem dX11_comes_134 : decode cX11_comes 134 = .ok (.putfield 157, 3) := dK_c_91.2.2.2.2.2.2.2.1
theorem dK_c_92 : dk_P cX11_comes [(137, (.iconst 1, 1)), (138, (.ireturn, 1)), (139, (.aload_n 0, 1)), (140, (.iload_n 3, 1)), (141, (.putfield 99, 3)), (144, (.iload_n 3, 1)), (145, (.iconst 1, 1)), (146, (.iconst 4, 1))] := dk_of 137 (by decide +kernel)
theorem dX11_comes_137 : decode cX11_comes 137 = .ok (.iconst 1, 1) := dK_c_92.1
theorem dX11_comes_138 : decode cX11_comes 138 = .ok (.ireturn, 1) := dK_c_92.2.1
theorem dX11_comes_139 : decode cX11_comes 139 = .ok (.aload_n 0, 1) := dK_c_92.2.2.1
theorem dX11_comes_140 : decode cX11_comes 140 = .ok (.iload_n 3, 1) := dK_c_92.2.2.2.1
theorem dX11_comes_141 : decode cX11_comes 141 = .ok (.putfield 99, 3) := dK_c_92.2.2.2.2.1
theorem dX11_comes_144 : decode cX11_comes 144 = .ok (.iload_n 3, 1) := dK_c_92.2.2.2.2.2.1
theorem dX11_comes_145 : decode cX11_comes 145 = .ok (.iconst 1, 1) := dK_c_92.2.2.2.2.2.2.1
theorem dX11_comes_146 : decode cX11_comes 146 = .ok (.iconst 4, 1) := dK_c_92.2.2.2.2.2.2.2.1
theorem dK_c_93 : dk_P cX11_comes [(147, (.invokestatic 126, 3)), (150, (.ifCond .eq 14, 3)), (153, (.aload_n 0, 1)), (154, (.getfield 147, 3)), (157, (.ifCond .ne 7, 3)), (160, (.iconst 1, 1)), (161, (.goto 4, 3)), (164, (.iconst 0, 1))] := dk_of 147 (by decide +kernel)
theorem dX11_comes_147 : decode cX11_comes 147 = .ok (.invokestatic 126, 3) := dK_c_93.1
theorem dX11_comes_150 : decode cX11_comes 150 = .ok (.ifCond .eq 14, 3) := dK_c_93.2.1
theorem dX11_comes_153 : decode cX11_comes 153 = .ok (.aload_n 0, 1) := dK_c_93.2.2.1
theorem dX11_comes_154 : decode cX11_comes 154 = .ok (.getfield 147, 3) := dK_c_93.2.2.2.1
theorem dX11_comes_157 : decode cX11_comes 157 = .ok (.ifCond .ne 7, 3) := dK_c_93.2.2.2.2.1
theorem dX11_comes_160 : decode cX11_comes 160 = .ok (.iconst 1, 1) := dK_c_93.2.2.2.2.2.1
theorem dX11_comes_161 : decode cX11_comes 161 = .ok (.goto 4, 3) := dK_c_93.2.2.2.2.2.2.1
theorem dX11_comes_164 : decode cX11_comes 164 = .ok (.iconst 0, 1) := dK_c_93.2.2.2.2.2.2.2.1
theorem dK_c_94 : dk_P cX11_comes [(165, (.ireturn, 1)), (166, (.aload_n 0, 1)), (167, (.iload_n 2, 1)), (168, (.invokevirtual 160, 3)), (171, (.ireturn, 1)), (172, (.aload_n 0, 1)), (173, (.aload_n 0, 1)), (174, (.invokevirtual 150, 3))] := dk_of 165 (by decide +kernel)
theorem dX11_comes_165 : decode cX11_comes 165 = .ok (.ireturn, 1) := dK_c_94.1
theorem dX11_comes_166 : decode cX11_comes 166 = .ok (.aload_n 0, 1) := dK_c_94.2.1
theorem dX11_comes_167 : decode cX11_comes 167 = .ok (.iload_n 2, 1) := dK_c_94.2.2.1
theorem dX11_comes_168 : decode cX11_comes 168 = .ok (.invokevirtual 160, 3) := dK_c_94.2.2.2.1
theorem dX11_comes_171 : decode cX11_comes 171 = .ok (.ireturn, 1) := dK_c_94.2.2.2.2.1
theorem dX11_comes_172 : decode cX11_comes 172 = .ok (.aload_n 0, 1) := dK_c_94.2.2.2.2.2.1
theorem dX11_comes_173 : decode cX11_comes 173 = .ok (.aload_n 0, 1) := dK_c_94.2.2.2.2.2.2.1
theorem dX11_comes_174 : decode cX11_comes 174 = .ok (.invokevirtual 150, 3) := dK_c_94.2.2.2.2.2.2.2.1
theorem dK_c_95 : dk_P cX11_comes [(177, (.ifCond .ge 7, 3)), (180, (.iconst 0, 1)), (181, (.goto 13, 3)), (184, (.aload_n 0, 1)), (185, (.aload_n 0, 1)), (186, (.invokevirtual 150, 3)), (189, (.iload_n 3, 1)), (190, (.iconst 0, 1))] := dk_of 177 (by decide +kernel)
theorem dX11_comes_177 : decode cX11_comes 177 = .ok (.ifCond .ge 7, 3) := dK_c_95.1
theorem dX11_comes_180 : decode cX11_comes 180 = .ok (.iconst 0, 1) := dK_c_95.2.1
theorem dX11_comes_181 : decode cX11_comes 181 = .ok (.goto 13, 3) := dK_c_95.2.2.1
theorem dX11_comes_184 : decode cX11_comes 184 = .ok (.aload_n 0, 1) := dK_c_95.2.2.2.1
theorem dX11_comes_185 : decode cX11_comes 185 = .ok (.aload_n 0, 1) := dK_c_95.2.2.2.2.1
theorem dX11_comes_186 : decode cX11_comes 186 = .ok (.invokevirtual 150, 3) := dK_c_95.2.2.2.2.2.1
theorem dX11_comes_189 : decode cX11_comes 189 = .ok (.iload_n 3, 1) := dK_c_95.2.2.2.2.2.2.1
theorem dX11_comes_190 : decode cX11_comes 190 = .ok (.iconst 0, 1) := dK_c_95.2.2.2.2.2.2.2.1
theorem dK_c_96 : dk_P cX11_comes [(191, (.invokevirtual 163, 3)), (194, (.iload_n 3, 1)), (195, (.invokevirtual 166, 3)), (198, (.ireturn, 1)), (199, (.aload_n 0, 1)), (200, (.bipush (-9), 2)), (202, (.iconst 0, 1)), (203, (.invokevirtual 166, 3))] := dk_of 191 (by decide +kernel)
theorem dX11_comes_191 : decode cX11_comes 191 = .ok (.invokevirtual 163, 3) := dK_c_96.1
theorem dX11_comes_194 : decode cX11_comes 194 = .ok (.iload_n 3, 1) := dK_c_96.2.1
theorem dX11_comes_195 : decode cX11_comes 195 = .ok (.invokevirtual 166, 3) := dK_c_96.2.2.1
theorem dX11_comes_198 : decode cX11_comes 198 = .ok (.ireturn, 1) := dK_c_96.2.2.2.1
theorem dX11_comes_199 : decode cX11_comes 199 = .ok (.aload_n 0, 1) := dK_c_96.2.2.2.2.1
theorem dX11_comes_200 : decode cX11_comes 200 = .ok (.bipush (-9), 2) := dK_c_96.2.2.2.2.2.1
theorem dX11_comes_202 : decode cX11_comes 202 = .ok (.iconst 0, 1) := dK_c_96.2.2.2.2.2.2.1
theorem dX11_comes_203 : decode cX11_comes 203 = .ok (.invokevirtual 166, 3) := dK_c_96.2.2.2.2.2.2.2.1
theorem dK_c_97 : dk_P cX11_comes [(206, (.ireturn, 1)), (207, (.aload_n 0, 1)), (208, (.bipush (-8), 2)), (210, (.iconst 0, 1)), (211, (.invokevirtual 166, 3)), (214, (.ireturn, 1))] := dk_of 206 (by decide +kernel)
theorem dX11_comes_206 : decode cX11_comes 206 = .ok (.ireturn, 1) := dK_c_97.1
theorem dX11_comes_207 : decode cX11_comes 207 = .ok (.aload_n 0, 1) := dK_c_97.2.1
theorem dX11_comes_208 : decode cX11_comes 208 = .ok (.bipush (-8), 2) := dK_c_97.2.2.1
theorem dX11_comes_210 : decode cX11_comes 210 = .ok (.iconst 0, 1) := dK_c_97.2.2.2.1
theorem dX11_comes_211 : decode cX11_comes 211 = .ok (.invokevirtual 166, 3) := dK_c_97.2.2.2.2.1
theorem dX11_comes_214 : decode cX11_comes 214 = .ok (.ireturn, 1) := dK_c_97.2.2.2.2.2.1
theorem dK_c_98 : dk_P cX11_ground [(0, (.aload_n 0, 1)), (1, (.iconst 0, 1)), (2, (.putfield 119, 3)), (5, (.aload_n 0, 1)), (6, (.iconst 0, 1)), (7, (.putfield 141, 3)), (10, (.iconst 1, 1)), (11, (.istore_n 1, 1))] := dk_of 0 (by decide +kernel)
theorem dX11_ground_0 : decode cX11_ground 0 = .ok (.aload_n 0, 1) := dK_c_98.1
theorem dX11_ground_1 : decode cX11_ground 1 = .ok (.iconst 0, 1) := dK_c_98.2.1
theorem dX11_ground_2 : decode cX11_ground 2 = .ok (.putfield 119, 3) := dK_c_98.2.2.1
theorem dX11_ground_5 : decode cX11_ground 5 = .ok (.aload_n 0, 1) := dK_c_98.2.2.2.1
theorem dX11_ground_6 : decode cX11_ground 6 = .ok (.iconst 0, 1) := dK_c_98.2.2.2.2.1
theorem dX11_ground_7 : decode cX11_ground 7 = .ok (.putfield 141, 3) := dK_c_98.2.2.2.2.2.1
theorem dX11_ground_10 : decode cX11_ground 10 = .ok (.iconst 1, 1) := dK_c_98.2.2.2.2.2.2.1
theorem dX11_ground_11 : decode cX11_ground 11 = .ok (.istore_n 1, 1) := dK_c_98.2.2.2.2.2.2.2.1
theorem dK_c_99 : dk_P cX11_ground [(12, (.iload_n 1, 1)), (13, (.ifCond .eq 47, 3)), (16, (.aload_n 0, 1)), (17, (.getfield 119, 3)), (20, (.aload_n 0, 1)), (21, (.getfield 112, 3)), (24, (.if_icmp .lt 10, 3)), (27, (.aload_n 0, 1))] := dk_of 12 (by decide +kernel)
theorem dX11_ground_12 : decode cX11_ground 12 = .ok (.iload_n 1, 1) := dK_c_99.1
theorem dX11_ground_13 : decode cX11_ground 13 = .ok (.ifCond .eq 47, 3) := dK_c_99.2.1
theorem dX11_ground_16 : decode cX11_ground 16 = .ok (.aload_n 0, 1) := dK_c_99.2.2.1
theorem dX11_ground_17 : decode cX11_ground 17 = .ok (.getfield 119, 3) := dK_c_99.2.2.2.1
theorem dX11_ground_20 : decode cX11_ground 20 = .ok (.aload_n 0, 1) := dK_c_99.2.2.2.2.1
theorem dX11_ground_21 : decode cX11_ground 21 = .ok (.getfield 112, 3) := dK_c_99.2.2.2.2.2.1
theorem dX11_ground_24 : decode cX11_ground 24 = .ok (.if_icmp .lt 10, 3) := dK_c_99.2.2.2.2.2.2.1
theorem dX11_ground_27 : decode cX11_ground 27 = .ok (.aload_n 0, 1) := dK_c_99.2.2.2.2.2.2.2.1
theorem dK_c_100 : dk_P cX11_ground [(28, (.getfield 141, 3)), (31, (.ifCond .ne 29, 3)), (34, (.aload_n 0, 1)), (35, (.invokevirtual 169, 3)), (38, (.istore_n 1, 1)), (39, (.aload_n 0, 1)), (40, (.dup, 1)), (41, (.getfield 141, 3))] := dk_of 28 (by decide +kernel)
theorem dX11_ground_28 : decode cX11_ground 28 = .ok (.getfield 141, 3) := dK_c_100.1
theorem dX11_ground_31 : decode cX11_ground 31 = .ok (.ifCond .ne 29, 3) := dK_c_100.2.1
theorem dX11_ground_34 : decode cX11_ground 34 = .ok (.aload_n 0, 1) := dK_c_100.2.2.1
theorem dX11_ground_35 : decode cX11_ground 35 = .ok (.invokevirtual 169, 3) := dK_c_100.2.2.2.1
theorem dX11_ground_38 : decode cX11_ground 38 = .ok (.istore_n 1, 1) := dK_c_100.2.2.2.2.1
theorem dX11_ground_39 : decode cX11_ground 39 = .ok (.aload_n 0, 1) := dK_c_100.2.2.2.2.2.1
theorem dX11_ground_40 : decode cX11_ground 40 = .ok (.dup, 1) := dK_c_100.2.2.2.2.2.2.1
theorem dX11_ground_41 : decode cX11_ground 41 = .ok (.getfield 141, 3) := dK_c_100.2.2.2.2.2.2.2.1
theorem dK_c_101 : dk_P cX11_ground [(44, (.iload_n 1, 1)), (45, (.ifCond .eq 7, 3)), (48, (.iconst 1, 1)), (49, (.goto 4, 3)), (52, (.iconst 0, 1)), (53, (.iadd, 1)), (54, (.putfield 141, 3)), (57, (.goto (-45), 3))] := dk_of 44 (by decide +kernel)
theorem dX11_ground_44 : decode cX11_ground 44 = .ok (.iload_n 1, 1) := dK_c_101.1
theorem dX11_ground_45 : decode cX11_ground 45 = .ok (.ifCond .eq 7, 3) := dK_c_101.2.1
theorem dX11_ground_48 : decode cX11_ground 48 = .ok (.iconst 1, 1) := dK_c_101.2.2.1
theorem dX11_ground_49 : decode cX11_ground 49 = .ok (.goto 4, 3) := dK_c_101.2.2.2.1
theorem dX11_ground_52 : decode cX11_ground 52 = .ok (.iconst 0, 1) := dK_c_101.2.2.2.2.1
theorem dX11_ground_53 : decode cX11_ground 53 = .ok (.iadd, 1) := dK_c_101.2.2.2.2.2.1
theorem dX11_ground_54 : decode cX11_ground 54 = .ok (.putfield 141, 3) := dK_c_101.2.2.2.2.2.2.1
theorem dX11_ground_57 : decode cX11_ground 57 = .ok (.goto (-45), 3) := dK_c_101.2.2.2.2.2.2.2.1
theorem dK_c_102 : dk_P cX11_ground [(60, (.aload_n 0, 1)), (61, (.iconst 0, 1)), (62, (.putfield 112, 3)), (65, (.iload_n 1, 1)), (66, (.ifCond .ne 12, 3)), (69, (.sipush (-1000), 3)), (72, (.aload_n 0, 1)), (73, (.getfield 119, 3))] := dk_of 60 (by decide +kernel)
theorem dX11_ground_60 : decode cX11_ground 60 = .ok (.aload_n 0, 1) := dK_c_102.1
theorem dX11_ground_61 : decode cX11_ground 61 = .ok (.iconst 0, 1) := dK_c_102.2.1
theorem dX11_ground_62 : decode cX11_ground 62 = .ok (.putfield 112, 3) := dK_c_102.2.2.1
theorem dX11_ground_65 : decode cX11_ground 65 = .ok (.iload_n 1, 1) := dK_c_102.2.2.2.1
theorem dX11_ground_66 : decode cX11_ground 66 = .ok (.ifCond .ne 12, 3) := dK_c_102.2.2.2.2.1
theorem dX11_ground_69 : decode cX11_ground 69 = .ok (.sipush (-1000), 3) := dK_c_102.2.2.2.2.2.1
theorem dX11_ground_72 : decode cX11_ground 72 = .ok (.aload_n 0, 1) := dK_c_102.2.2.2.2.2.2.1
theorem dX11_ground_73 : decode cX11_ground 73 = .ok (.getfield 119, 3) := dK_c_102.2.2.2.2.2.2.2.1
theorem dK_c_103 : dk_P cX11_ground [(76, (.isub, 1)), (77, (.ireturn, 1)), (78, (.aload_n 0, 1)), (79, (.iconst 1, 1)), (80, (.iconst 1, 1)), (81, (.invokevirtual 173, 3)), (84, (.iconst 0, 1)), (85, (.istore_n 2, 1))] := dk_of 76 (by decide +kernel)
theorem dX11_ground_76 : decode cX11_ground 76 = .ok (.isub, 1) := dK_c_103.1
theorem dX11_ground_77 : decode cX11_ground 77 = .ok (.ireturn, 1) := dK_c_103.2.1
theorem dX11_ground_78 : decode cX11_ground 78 = .ok (.aload_n 0, 1) := dK_c_103.2.2.1
theorem dX11_ground_79 : decode cX11_ground 79 = .ok (.iconst 1, 1) := dK_c_103.2.2.2.1
theorem dX11_ground_80 : decode cX11_ground 80 = .ok (.iconst 1, 1) := dK_c_103.2.2.2.2.1
theorem dX11_ground_81 : decode cX11_ground 81 = .ok (.invokevirtual 173, 3) := dK_c_103.2.2.2.2.2.1
theorem dX11_ground_84 : decode cX11_ground 84 = .ok (.iconst 0, 1) := dK_c_103.2.2.2.2.2.2.1
theorem dX11_ground_85 : decode cX11_ground 85 = .ok (.istore_n 2, 1) := dK_c_103.2.2.2.2.2.2.2.1
theorem dK_c_104 : dk_P cX11_ground [(86, (.iload_n 2, 1)), (87, (.aload_n 0, 1)), (88, (.getfield 141, 3)), (91, (.if_icmp .ge 37, 3)), (94, (.aload_n 0, 1)), (95, (.iload_n 2, 1)), (96, (.invokevirtual 177, 3)), (99, (.ifCond .eq 6, 3))] := dk_of 86 (by decide +kernel)
theorem dX11_ground_86 : decode cX11_ground 86 = .ok (.iload_n 2, 1) := dK_c_104.1
theorem dX11_ground_87 : decode cX11_ground 87 = .ok (.aload_n 0, 1) := dK_c_104.2.1
theorem dX11_ground_88 : decode cX11_ground 88 = .ok (.getfield 141, 3) := dK_c_104.2.2.1
theorem dX11_ground_91 : decode cX11_ground 91 = .ok (.if_icmp .ge 37, 3) := dK_c_104.2.2.2.1
theorem dX11_ground_94 : decode cX11_ground 94 = .ok (.aload_n 0, 1) := dK_c_104.2.2.2.2.1
theorem dX11_ground_95 : decode cX11_ground 95 = .ok (.iload_n 2, 1) := dK_c_104.2.2.2.2.2.1
theorem dX11_ground_96 : decode cX11_ground 96 = .ok (.invokevirtual 177, 3) := dK_c_104.2.2.2.2.2.2.1
theorem dX11_ground_99 : decode cX11_ground 99 = .ok (.ifCond .eq 6, 3) := dK_c_104.2.2.2.2.2.2.2.1
theorem dK_c_105 : dk_P cX11_ground [(102, (.goto 20, 3)), (105, (.aload_n 0, 1)), (106, (.iconst 1, 1)), (107, (.iconst 0, 1)), (108, (.invokevirtual 173, 3)), (111, (.sipush (-2000), 3)), (114, (.aload_n 0, 1)), (115, (.getfield 52, 3))] := dk_of 102 (by decide +kernel)
theorem dX11_ground_102 : decode cX11_ground 102 = .ok (.goto 20, 3) := dK_c_105.1
theorem dX11_ground_105 : decode cX11_ground 105 = .ok (.aload_n 0, 1) := dK_c_105.2.1
theorem dX11_ground_106 : decode cX11_ground 106 = .ok (.iconst 1, 1) := dK_c_105.2.2.1
theorem dX11_ground_107 : decode cX11_ground 107 = .ok (.iconst 0, 1) := dK_c_105.2.2.2.1
theorem dX11_ground_108 : decode cX11_ground 108 = .ok (.invokevirtual 173, 3) := dK_c_105.2.2.2.2.1
theorem dX11_ground_111 : decode cX11_ground 111 = .ok (.sipush (-2000), 3) := dK_c_105.2.2.2.2.2.1
theorem dX11_ground_114 : decode cX11_ground 114 = .ok (.aload_n 0, 1) := dK_c_105.2.2.2.2.2.2.1
theorem dX11_ground_115 : decode cX11_ground 115 = .ok (.getfield 52, 3) := dK_c_105.2.2.2.2.2.2.2.1
theorem dK_c_106 : dk_P cX11_ground [(118, (.iload_n 2, 1)), (119, (.iaload, 1)), (120, (.isub, 1)), (121, (.ireturn, 1)), (122, (.iinc 2 1, 3)), (125, (.goto (-39), 3)), (128, (.aload_n 0, 1)), (129, (.getfield 141, 3))] := dk_of 118 (by decide +kernel)
theorem dX11_ground_118 : decode cX11_ground 118 = .ok (.iload_n 2, 1) := dK_c_106.1
theorem dX11_ground_119 : decode cX11_ground 119 = .ok (.iaload, 1) := dK_c_106.2.1
theorem dX11_ground_120 : decode cX11_ground 120 = .ok (.isub, 1) := dK_c_106.2.2.1
theorem dX11_ground_121 : decode cX11_ground 121 = .ok (.ireturn, 1) := dK_c_106.2.2.2.1
theorem dX11_ground_122 : decode cX11_ground 122 = .ok (.iinc 2 1, 3) := dK_c_106.2.2.2.2.1
theorem dX11_ground_125 : decode cX11_ground 125 = .ok (.goto (-39), 3) := dK_c_106.2.2.2.2.2.1
theorem dX11_ground_128 : decode cX11_ground 128 = .ok (.aload_n 0, 1) := dK_c_106.2.2.2.2.2.2.1
theorem dX11_ground_129 : decode cX11_ground 129 = .ok (.getfield 141, 3) := dK_c_106.2.2.2.2.2.2.2.1
theorem dK_c_107 : dk_P cX11_ground [(132, (.ireturn, 1))] := dk_of 132 (by decide +kernel)
theorem dX11_ground_132 : decode cX11_ground 132 = .ok (.ireturn, 1) := dK_c_107.1
theorem dK_c_108 : dk_P cX11_passes [(0, (.iconst 0, 1)), (1, (.istore_n 2, 1)), (2, (.iload_n 2, 1)), (3, (.aload_n 1, 1)), (4, (.arraylength, 1)), (5, (.if_icmp .ge 53, 3)), (8, (.aload_n 0, 1)), (9, (.getfield 180, 3))] := dk_of 0 (by decide +kernel)
theorem dX11_passes_0 : decode cX11_passes 0 = .ok (.iconst 0, 1) := dK_c_108.1
theorem dX11_passes_1 : decode cX11_passes 1 = .ok (.istore_n 2, 1) := dK_c_108.2.1
theorem dX11_passes_2 : decode cX11_passes 2 = .ok (.iload_n 2, 1) := dK_c_108.2.2.1
theorem dX11_passes_3 : decode cX11_passes 3 = .ok (.aload_n 1, 1) := dK_c_108.2.2.2.1
theorem dX11_passes_4 : decode cX11_passes 4 = .ok (.arraylength, 1) := dK_c_108.2.2.2.2.1
theorem dX11_passes_5 : decode cX11_passes 5 = .ok (.if_icmp .ge 53, 3) := dK_c_108.2.2.2.2.2.1
theorem dX11_passes_8 : decode cX11_passes 8 = .ok (.aload_n 0, 1) := dK_c_108.2.2.2.2.2.2.1
theorem dX11_passes_9 : decode cX11_passes 9 = .ok (.getfield 180, 3) := dK_c_108.2.2.2.2.2.2.2.1
theorem dK_c_109 : dk_P cX11_passes [(12, (.ifCond .eq 18, 3)), (15, (.aload_n 0, 1)), (16, (.getfield 58, 3)), (19, (.aload_n 0, 1)), (20, (.getfield 184, 3)), (23, (.aload_n 1, 1)), (24, (.iload_n 2, 1)), (25, (.iaload, 1))] := dk_of 12 (by decide +kernel)
theorem dX11_passes_12 : decode cX11_passes 12 = .ok (.ifCond .eq 18, 3) := dK_c_109.1
theorem dX11_passes_15 : decode cX11_passes 15 = .ok (.aload_n 0, 1) := dK_c_109.2.1
theorem dX11_passes_16 : decode cX11_passes 16 = .ok (.getfield 58, 3) := dK_c_109.2.2.1
theorem dX11_passes_19 : decode cX11_passes 19 = .ok (.aload_n 0, 1) := dK_c_109.2.2.2.1
theorem dX11_passes_20 : decode cX11_passes 20 = .ok (.getfield 184, 3) := dK_c_109.2.2.2.2.1
theorem dX11_passes_23 : decode cX11_passes 23 = .ok (.aload_n 1, 1) := dK_c_109.2.2.2.2.2.1
theorem dX11_passes_24 : decode cX11_passes 24 = .ok (.iload_n 2, 1) := dK_c_109.2.2.2.2.2.2.1
theorem dX11_passes_25 : decode cX11_passes 25 = .ok (.iaload, 1) := dK_c_109.2.2.2.2.2.2.2.1
theorem dK_c_110 : dk_P cX11_passes [(26, (.iastore, 1)), (27, (.goto 15, 3)), (30, (.aload_n 1, 1)), (31, (.iload_n 2, 1)), (32, (.aload_n 0, 1)), (33, (.getfield 58, 3)), (36, (.aload_n 0, 1)), (37, (.getfield 184, 3))] := dk_of 26 (by decide +kernel)
theorem dX11_passes_26 : decode cX11_passes 26 = .ok (.iastore, 1) := dK_c_110.1
theorem dX11_passes_27 : decode cX11_passes 27 = .ok (.goto 15, 3) := dK_c_110.2.1
theorem dX11_passes_30 : decode cX11_passes 30 = .ok (.aload_n 1, 1) := dK_c_110.2.2.1
theorem dX11_passes_31 : decode cX11_passes 31 = .ok (.iload_n 2, 1) := dK_c_110.2.2.2.1
theorem dX11_passes_32 : decode cX11_passes 32 = .ok (.aload_n 0, 1) := dK_c_110.2.2.2.2.1
theorem dX11_passes_33 : decode cX11_passes 33 = .ok (.getfield 58, 3) := dK_c_110.2.2.2.2.2.1
theorem dX11_passes_36 : decode cX11_passes 36 = .ok (.aload_n 0, 1) := dK_c_110.2.2.2.2.2.2.1
theorem dX11_passes_37 : decode cX11_passes 37 = .ok (.getfield 184, 3) := dK_c_110.2.2.2.2.2.2.2.1
theorem dK_c_111 : dk_P cX11_passes [(40, (.iaload, 1)), (41, (.iastore, 1)), (42, (.aload_n 0, 1)), (43, (.dup, 1)), (44, (.getfield 184, 3)), (47, (.iconst 1, 1)), (48, (.iadd, 1)), (49, (.putfield 184, 3))] := dk_of 40 (by decide +kernel)
theorem dX11_passes_40 : decode cX11_passes 40 = .ok (.iaload, 1) := dK_c_111.1
theorem dX11_passes_41 : decode cX11_passes 41 = .ok (.iastore, 1) := dK_c_111.2.1
theorem dX11_passes_42 : decode cX11_passes 42 = .ok (.aload_n 0, 1) := dK_c_111.2.2.1
theorem dX11_passes_43 : decode cX11_passes 43 = .ok (.dup, 1) := dK_c_111.2.2.2.1
theorem dX11_passes_44 : decode cX11_passes 44 = .ok (.getfield 184, 3) := dK_c_111.2.2.2.2.1
theorem dX11_passes_47 : decode cX11_passes 47 = .ok (.iconst 1, 1) := dK_c_111.2.2.2.2.2.1
theorem dX11_passes_48 : decode cX11_passes 48 = .ok (.iadd, 1) := dK_c_111.2.2.2.2.2.2.1
theorem dX11_passes_49 : decode cX11_passes 49 = .ok (.putfield 184, 3) := dK_c_111.2.2.2.2.2.2.2.1
theorem dK_c_112 : dk_P cX11_passes [(52, (.iinc 2 1, 3)), (55, (.goto (-53), 3)), (58, (.return_, 1))] := dk_of 52 (by decide +kernel)
theorem dX11_passes_52 : decode cX11_passes 52 = .ok (.iinc 2 1, 3) := dK_c_112.1
theorem dX11_passes_55 : decode cX11_passes 55 = .ok (.goto (-53), 3) := dK_c_112.2.1
theorem dX11_passes_58 : decode cX11_passes 58 = .ok (.return_, 1) := dK_c_112.2.2.1
theorem dK_c_113 : dk_P cX11_passOne [(0, (.aload_n 0, 1)), (1, (.getfield 180, 3)), (4, (.ifCond .eq 7, 3)), (7, (.iload_n 1, 1)), (8, (.goto 12, 3)), (11, (.aload_n 0, 1)), (12, (.getfield 58, 3)), (15, (.aload_n 0, 1))] := dk_of 0 (by decide +kernel)
theorem dX11_passOne_0 : decode cX11_passOne 0 = .ok (.aload_n 0, 1) := dK_c_113.1
theorem dX11_passOne_1 : decode cX11_passOne 1 = .ok (.getfield 180, 3) := dK_c_113.2.1
theorem dX11_passOne_4 : decode cX11_passOne 4 = .ok (.ifCond .eq 7, 3) := dK_c_113.2.2.1
theorem dX11_passOne_7 : decode cX11_passOne 7 = .ok (.iload_n 1, 1) := dK_c_113.2.2.2.1
theorem dX11_passOne_8 : decode cX11_passOne 8 = .ok (.goto 12, 3) := dK_c_113.2.2.2.2.1
theorem dX11_passOne_11 : decode cX11_passOne 11 = .ok (.aload_n 0, 1) := dK_c_113.2.2.2.2.2.1
theorem dX11_passOne_12 : decode cX11_passOne 12 = .ok (.getfield 58, 3) := dK_c_113.2.2.2.2.2.2.1
theorem dX11_passOne_15 : decode cX11_passOne 15 = .ok (.aload_n 0, 1) := dK_c_113.2.2.2.2.2.2.2.1
theorem dK_c_114 : dk_P cX11_passOne [(16, (.getfield 184, 3)), (19, (.iaload, 1)), (20, (.istore_n 2, 1)), (21, (.aload_n 0, 1)), (22, (.getfield 180, 3)), (25, (.ifCond .eq 13, 3)), (28, (.aload_n 0, 1)), (29, (.getfield 58, 3))] := dk_of 16 (by decide +kernel)
theorem dX11_passOne_16 : decode cX11_passOne 16 = .ok (.getfield 184, 3) := dK_c_114.1
theorem dX11_passOne_19 : decode cX11_passOne 19 = .ok (.iaload, 1) := dK_c_114.2.1
theorem dX11_passOne_20 : decode cX11_passOne 20 = .ok (.istore_n 2, 1) := dK_c_114.2.2.1
theorem dX11_passOne_21 : decode cX11_passOne 21 = .ok (.aload_n 0, 1) := dK_c_114.2.2.2.1
theorem dX11_passOne_22 : decode cX11_passOne 22 = .ok (.getfield 180, 3) := dK_c_114.2.2.2.2.1
theorem dX11_passOne_25 : decode cX11_passOne 25 = .ok (.ifCond .eq 13, 3) := dK_c_114.2.2.2.2.2.1
theorem dX11_passOne_28 : decode cX11_passOne 28 = .ok (.aload_n 0, 1) := dK_c_114.2.2.2.2.2.2.1
theorem dX11_passOne_29 : decode cX11_passOne 29 = .ok (.getfield 58, 3) := dK_c_114.2.2.2.2.2.2.2.1
theorem dK_c_115 : dk_P cX11_passOne [(32, (.aload_n 0, 1)), (33, (.getfield 184, 3)), (36, (.iload_n 1, 1)), (37, (.iastore, 1)), (38, (.aload_n 0, 1)), (39, (.dup, 1)), (40, (.getfield 184, 3)), (43, (.iconst 1, 1))] := dk_of 32 (by decide +kernel)
theorem dX11_passOne_32 : decode cX11_passOne 32 = .ok (.aload_n 0, 1) := dK_c_115.1
theorem dX11_passOne_33 : decode cX11_passOne 33 = .ok (.getfield 184, 3) := dK_c_115.2.1
theorem dX11_passOne_36 : decode cX11_passOne 36 = .ok (.iload_n 1, 1) := dK_c_115.2.2.1
theorem dX11_passOne_37 : decode cX11_passOne 37 = .ok (.iastore, 1) := dK_c_115.2.2.2.1
theorem dX11_passOne_38 : decode cX11_passOne 38 = .ok (.aload_n 0, 1) := dK_c_115.2.2.2.2.1
theorem dX11_passOne_39 : decode cX11_passOne 39 = .ok (.dup, 1) := dK_c_115.2.2.2.2.2.1
theorem dX11_passOne_40 : decode cX11_passOne 40 = .ok (.getfield 184, 3) := dK_c_115.2.2.2.2.2.2.1
theorem dX11_passOne_43 : decode cX11_passOne 43 = .ok (.iconst 1, 1) := dK_c_115.2.2.2.2.2.2.2.1
theorem dK_c_116 : dk_P cX11_passOne [(44, (.iadd, 1)), (45, (.putfield 184, 3)), (48, (.iload_n 2, 1)), (49, (.ireturn, 1))] := dk_of 44 (by decide +kernel)
theorem dX11_passOne_44 : decode cX11_passOne 44 = .ok (.iadd, 1) := dK_c_116.1
theorem dX11_passOne_45 : decode cX11_passOne 45 = .ok (.putfield 184, 3) := dK_c_116.2.1
theorem dX11_passOne_48 : decode cX11_passOne 48 = .ok (.iload_n 2, 1) := dK_c_116.2.2.1
theorem dX11_passOne_49 : decode cX11_passOne 49 = .ok (.ireturn, 1) := dK_c_116.2.2.2.1
theorem dK_c_117 : dk_P cX11_passesAll [(0, (.aload_n 0, 1)), (1, (.bipush 120, 2)), (3, (.iload_n 1, 1)), (4, (.imul, 1)), (5, (.putfield 184, 3)), (8, (.aload_n 0, 1)), (9, (.iload_n 2, 1)), (10, (.putfield 180, 3))] := dk_of 0 (by decide +kernel)
theorem dX11_passesAll_0 : decode cX11_passesAll 0 = .ok (.aload_n 0, 1) := dK_c_117.1
theorem dX11_passesAll_1 : decode cX11_passesAll 1 = .ok (.bipush 120, 2) := dK_c_117.2.1
theorem dX11_passesAll_3 : decode cX11_passesAll 3 = .ok (.iload_n 1, 1) := dK_c_117.2.2.1
theorem dX11_passesAll_4 : decode cX11_passesAll 4 = .ok (.imul, 1) := dK_c_117.2.2.2.1
theorem dX11_passesAll_5 : decode cX11_passesAll 5 = .ok (.putfield 184, 3) := dK_c_117.2.2.2.2.1
theorem dX11_passesAll_8 : decode cX11_passesAll 8 = .ok (.aload_n 0, 1) := dK_c_117.2.2.2.2.2.1
theorem dX11_passesAll_9 : decode cX11_passesAll 9 = .ok (.iload_n 2, 1) := dK_c_117.2.2.2.2.2.2.1
theorem dX11_passesAll_10 : decode cX11_passesAll 10 = .ok (.putfield 180, 3) := dK_c_117.2.2.2.2.2.2.2.1
theorem dK_c_118 : dk_P cX11_passesAll [(13, (.aload_n 0, 1)), (14, (.aload_n 0, 1)), (15, (.getfield 13, 3)), (18, (.invokevirtual 187, 3)), (21, (.aload_n 0, 1)), (22, (.aload_n 0, 1)), (23, (.getfield 16, 3)), (26, (.invokevirtual 187, 3))] := dk_of 13 (by decide +kernel)
theorem dX11_passesAll_13 : decode cX11_passesAll 13 = .ok (.aload_n 0, 1) := dK_c_118.1
theorem dX11_passesAll_14 : decode cX11_passesAll 14 = .ok (.aload_n 0, 1) := dK_c_118.2.1
theorem dX11_passesAll_15 : decode cX11_passesAll 15 = .ok (.getfield 13, 3) := dK_c_118.2.2.1
theorem dX11_passesAll_18 : decode cX11_passesAll 18 = .ok (.invokevirtual 187, 3) := dK_c_118.2.2.2.1
theorem dX11_passesAll_21 : decode cX11_passesAll 21 = .ok (.aload_n 0, 1) := dK_c_118.2.2.2.2.1
theorem dX11_passesAll_22 : decode cX11_passesAll 22 = .ok (.aload_n 0, 1) := dK_c_118.2.2.2.2.2.1
theorem dX11_passesAll_23 : decode cX11_passesAll 23 = .ok (.getfield 16, 3) := dK_c_118.2.2.2.2.2.2.1
theorem dX11_passesAll_26 : decode cX11_passesAll 26 = .ok (.invokevirtual 187, 3) := dK_c_118.2.2.2.2.2.2.2.1
theorem dK_c_119 : dk_P cX11_passesAll [(29, (.aload_n 0, 1)), (30, (.aload_n 0, 1)), (31, (.getfield 19, 3)), (34, (.invokevirtual 187, 3)), (37, (.aload_n 0, 1)), (38, (.aload_n 0, 1)), (39, (.getfield 22, 3)), (42, (.invokevirtual 187, 3))] := dk_of 29 (by decide +kernel)
theorem dX11_passesAll_29 : decode cX11_passesAll 29 = .ok (.aload_n 0, 1) := dK_c_119.1
theorem dX11_passesAll_30 : decode cX11_passesAll 30 = .ok (.aload_n 0, 1) := dK_c_119.2.1
theorem dX11_passesAll_31 : decode cX11_passesAll 31 = .ok (.getfield 19, 3) := dK_c_119.2.2.1
theorem dX11_passesAll_34 : decode cX11_passesAll 34 = .ok (.invokevirtual 187, 3) := dK_c_119.2.2.2.1
theorem dX11_passesAll_37 : decode cX11_passesAll 37 = .ok (.aload_n 0, 1) := dK_c_119.2.2.2.2.1
theorem dX11_passesAll_38 : decode cX11_passesAll 38 = .ok (.aload_n 0, 1) := dK_c_119.2.2.2.2.2.1
theorem dX11_passesAll_39 : decode cX11_passesAll 39 = .ok (.getfield 22, 3) := dK_c_119.2.2.2.2.2.2.1
theorem dX11_passesAll_42 : decode cX11_passesAll 42 = .ok (.invokevirtual 187, 3) := dK_c_119.2.2.2.2.2.2.2.1
theorem dK_c_120 : dk_P cX11_passesAll [(45, (.aload_n 0, 1)), (46, (.aload_n 0, 1)), (47, (.getfield 25, 3)), (50, (.invokevirtual 187, 3)), (53, (.aload_n 0, 1)), (54, (.aload_n 0, 1)), (55, (.getfield 28, 3)), (58, (.invokevirtual 187, 3))] := dk_of 45 (by decide +kernel)
theorem dX11_passesAll_45 : decode cX11_passesAll 45 = .ok (.aload_n 0, 1) := dK_c_120.1
theorem dX11_passesAll_46 : decode cX11_passesAll 46 = .ok (.aload_n 0, 1) := dK_c_120.2.1
theorem dX11_passesAll_47 : decode cX11_passesAll 47 = .ok (.getfield 25, 3) := dK_c_120.2.2.1
theorem dX11_passesAll_50 : decode cX11_passesAll 50 = .ok (.invokevirtual 187, 3) := dK_c_120.2.2.2.1
theorem dX11_passesAll_53 : decode cX11_passesAll 53 = .ok (.aload_n 0, 1) := dK_c_120.2.2.2.2.1
theorem dX11_passesAll_54 : decode cX11_passesAll 54 = .ok (.aload_n 0, 1) := dK_c_120.2.2.2.2.2.1
theorem dX11_passesAll_55 : decode cX11_passesAll 55 = .ok (.getfield 28, 3) := dK_c_120.2.2.2.2.2.2.1
theorem dX11_passesAll_58 : decode cX11_passesAll 58 = .ok (.invokevirtual 187, 3) := dK_c_120.2.2.2.2.2.2.2.1
theorem dK_c_121 : dk_P cX11_passesAll [(61, (.aload_n 0, 1)), (62, (.aload_n 0, 1)), (63, (.getfield 31, 3)), (66, (.invokevirtual 187, 3)), (69, (.aload_n 0, 1)), (70, (.aload_n 0, 1)), (71, (.getfield 34, 3)), (74, (.invokevirtual 187, 3))] := dk_of 61 (by decide +kernel)
theorem dX11_passesAll_61 : decode cX11_passesAll 61 = .ok (.aload_n 0, 1) := dK_c_121.1
theorem dX11_passesAll_62 : decode cX11_passesAll 62 = .ok (.aload_n 0, 1) := dK_c_121.2.1
theorem dX11_passesAll_63 : decode cX11_passesAll 63 = .ok (.getfield 31, 3) := dK_c_121.2.2.1
theorem dX11_passesAll_66 : decode cX11_passesAll 66 = .ok (.invokevirtual 187, 3) := dK_c_121.2.2.2.1
theorem dX11_passesAll_69 : decode cX11_passesAll 69 = .ok (.aload_n 0, 1) := dK_c_121.2.2.2.2.1
theorem dX11_passesAll_70 : decode cX11_passesAll 70 = .ok (.aload_n 0, 1) := dK_c_121.2.2.2.2.2.1
theorem dX11_passesAll_71 : decode cX11_passesAll 71 = .ok (.getfield 34, 3) := dK_c_121.2.2.2.2.2.2.1
theorem dX11_passesAll_74 : decode cX11_passesAll 74 = .ok (.invokevirtual 187, 3) := dK_c_121.2.2.2.2.2.2.2.1
theorem dK_c_122 : dk_P cX11_passesAll [(77, (.aload_n 0, 1)), (78, (.aload_n 0, 1)), (79, (.getfield 37, 3)), (82, (.invokevirtual 187, 3)), (85, (.aload_n 0, 1)), (86, (.aload_n 0, 1)), (87, (.getfield 40, 3)), (90, (.invokevirtual 187, 3))] := dk_of 77 (by decide +kernel)
theorem dX11_passesAll_77 : decode cX11_passesAll 77 = .ok (.aload_n 0, 1) := dK_c_122.1
theorem dX11_passesAll_78 : decode cX11_passesAll 78 = .ok (.aload_n 0, 1) := dK_c_122.2.1
theorem dX11_passesAll_79 : decode cX11_passesAll 79 = .ok (.getfield 37, 3) := dK_c_122.2.2.1
theorem dX11_passesAll_82 : decode cX11_passesAll 82 = .ok (.invokevirtual 187, 3) := dK_c_122.2.2.2.1
theorem dX11_passesAll_85 : decode cX11_passesAll 85 = .ok (.aload_n 0, 1) := dK_c_122.2.2.2.2.1
theorem dX11_passesAll_86 : decode cX11_passesAll 86 = .ok (.aload_n 0, 1) := dK_c_122.2.2.2.2.2.1
theorem dX11_passesAll_87 : decode cX11_passesAll 87 = .ok (.getfield 40, 3) := dK_c_122.2.2.2.2.2.2.1
theorem dX11_passesAll_90 : decode cX11_passesAll 90 = .ok (.invokevirtual 187, 3) := dK_c_122.2.2.2.2.2.2.2.1
theorem dK_c_123 : dk_P cX11_passesAll [(93, (.aload_n 0, 1)), (94, (.aload_n 0, 1)), (95, (.getfield 43, 3)), (98, (.invokevirtual 187, 3)), (101, (.aload_n 0, 1)), (102, (.aload_n 0, 1)), (103, (.aload_n 0, 1)), (104, (.getfield 95, 3))] := dk_of 93 (by decide +kernel)
theorem dX11_passesAll_93 : decode cX11_passesAll 93 = .ok (.aload_n 0, 1) := dK_c_123.1
theorem dX11_passesAll_94 : decode cX11_passesAll 94 = .ok (.aload_n 0, 1) := dK_c_123.2.1
theorem dX11_passesAll_95 : decode cX11_passesAll 95 = .ok (.getfield 43, 3) := dK_c_123.2.2.1
theorem dX11_passesAll_98 : decode cX11_passesAll 98 = .ok (.invokevirtual 187, 3) := dK_c_123.2.2.2.1
theorem dX11_passesAll_101 : decode cX11_passesAll 101 = .ok (.aload_n 0, 1) := dK_c_123.2.2.2.2.1
theorem dX11_passesAll_102 : decode cX11_passesAll 102 = .ok (.aload_n 0, 1) := dK_c_123.2.2.2.2.2.1
theorem dX11_passesAll_103 : decode cX11_passesAll 103 = .ok (.aload_n 0, 1) := dK_c_123.2.2.2.2.2.2.1
theorem dX11_passesAll_104 : decode cX11_passesAll 104 = .ok (.getfield 95, 3) := dK_c_123.2.2.2.2.2.2.2.1
theorem dK_c_124 : dk_P cX11_passesAll [(107, (.invokevirtual 191, 3)), (110, (.putfield 95, 3)), (113, (.aload_n 0, 1)), (114, (.aload_n 0, 1)), (115, (.aload_n 0, 1)), (116, (.getfield 99, 3)), (119, (.invokevirtual 191, 3)), (122, (.putfield 99, 3))] := dk_of 107 (by decide +kernel)
theorem dX11_passesAll_107 : decode cX11_passesAll 107 = .ok (.invokevirtual 191, 3) := dK_c_124.1
theorem dX11_passesAll_110 : decode cX11_passesAll 110 = .ok (.putfield 95, 3) := dK_c_124.2.1
theorem dX11_passesAll_113 : decode cX11_passesAll 113 = .ok (.aload_n 0, 1) := dK_c_124.2.2.1
theorem dX11_passesAll_114 : decode cX11_passesAll 114 = .ok (.aload_n 0, 1) := dK_c_124.2.2.2.1
theorem dX11_passesAll_115 : decode cX11_passesAll 115 = .ok (.aload_n 0, 1) := dK_c_124.2.2.2.2.1
theorem dX11_passesAll_116 : decode cX11_passesAll 116 = .ok (.getfield 99, 3) := dK_c_124.2.2.2.2.2.1
theorem dX11_passesAll_119 : decode cX11_passesAll 119 = .ok (.invokevirtual 191, 3) := dK_c_124.2.2.2.2.2.2.1
theorem dX11_passesAll_122 : decode cX11_passesAll 122 = .ok (.putfield 99, 3) := dK_c_124.2.2.2.2.2.2.2.1
theorem dK_c_125 : dk_P cX11_passesAll [(125, (.aload_n 0, 1)), (126, (.aload_n 0, 1)), (127, (.aload_n 0, 1)), (128, (.getfield 157, 3)), (131, (.invokevirtual 191, 3)), (134, (.putfield 157, 3)), (137, (.aload_n 0, 1)), (138, (.aload_n 0, 1))] := dk_of 125 (by decide +kernel)
theorem dX11_passesAll_125 : decode cX11_passesAll 125 = .ok (.aload_n 0, 1) := dK_c_125.1
theorem dX11_passesAll_126 : decode cX11_passesAll 126 = .ok (.aload_n 0, 1) := dK_c_125.2.1
theorem dX11_passesAll_127 : decode cX11_passesAll 127 = .ok (.aload_n 0, 1) := dK_c_125.2.2.1
theorem dX11_passesAll_128 : decode cX11_passesAll 128 = .ok (.getfield 157, 3) := dK_c_125.2.2.2.1
theorem dX11_passesAll_131 : decode cX11_passesAll 131 = .ok (.invokevirtual 191, 3) := dK_c_125.2.2.2.2.1
theorem dX11_passesAll_134 : decode cX11_passesAll 134 = .ok (.putfield 157, 3) := dK_c_125.2.2.2.2.2.1
theorem dX11_passesAll_137 : decode cX11_passesAll 137 = .ok (.aload_n 0, 1) := dK_c_125.2.2.2.2.2.2.1
theorem dX11_passesAll_138 : decode cX11_passesAll 138 = .ok (.aload_n 0, 1) := dK_c_125.2.2.2.2.2.2.2.1
theorem dK_c_126 : dk_P cX11_passesAll [(139, (.aload_n 0, 1)), (140, (.getfield 105, 3)), (143, (.invokevirtual 191, 3)), (146, (.putfield 105, 3)), (149, (.aload_n 0, 1)), (150, (.aload_n 0, 1)), (151, (.aload_n 0, 1)), (152, (.getfield 147, 3))] := dk_of 139 (by decide +kernel)
theorem dX11_passesAll_139 : decode cX11_passesAll 139 = .ok (.aload_n 0, 1) := dK_c_126.1
theorem dX11_passesAll_140 : decode cX11_passesAll 140 = .ok (.getfield 105, 3) := dK_c_126.2.1
theorem dX11_passesAll_143 : decode cX11_passesAll 143 = .ok (.invokevirtual 191, 3) := dK_c_126.2.2.1
theorem dX11_passesAll_146 : decode cX11_passesAll 146 = .ok (.putfield 105, 3) := dK_c_126.2.2.2.1
theorem dX11_passesAll_149 : decode cX11_passesAll 149 = .ok (.aload_n 0, 1) := dK_c_126.2.2.2.2.1
theorem dX11_passesAll_150 : decode cX11_passesAll 150 = .ok (.aload_n 0, 1) := dK_c_126.2.2.2.2.2.1
theorem dX11_passesAll_151 : decode cX11_passesAll 151 = .ok (.aload_n 0, 1) := dK_c_126.2.2.2.2.2.2.1
theorem dX11_passesAll_152 : decode cX11_passesAll 152 = .ok (.getfield 147, 3) := dK_c_126.2.2.2.2.2.2.2.1
theorem dK_c_127 : dk_P cX11_passesAll [(155, (.invokevirtual 191, 3)), (158, (.putfield 147, 3)), (161, (.return_, 1))] := dk_of 155 (by decide +kernel)
theorem dX11_passesAll_155 : decode cX11_passesAll 155 = .ok (.invokevirtual 191, 3) := dK_c_127.1
theorem dX11_passesAll_158 : decode cX11_passesAll 158 = .ok (.putfield 147, 3) := dK_c_127.2.1
theorem dX11_passesAll_161 : decode cX11_passesAll 161 = .ok (.return_, 1) := dK_c_127.2.2.1
theorem dK_c_128 : dk_P cX11_image [(0, (.aload_n 0, 1)), (1, (.iconst 1, 1)), (2, (.putfield 194, 3)), (5, (.aload_n 0, 1)), (6, (.iconst 0, 1)), (7, (.iconst 1, 1)), (8, (.invokevirtual 173, 3)), (11, (.aload_n 0, 1))] := dk_of 0 (by decide +kernel)
theorem dX11_image_0 : decode cX11_image 0 = .ok (.aload_n 0, 1) := dK_c_128.1
theorem dX11_image_1 : decode cX11_image 1 = .ok (.iconst 1, 1) := dK_c_128.2.1
theorem dX11_image_2 : decode cX11_image 2 = .ok (.putfield 194, 3) := dK_c_128.2.2.1
theorem dX11_image_5 : decode cX11_image 5 = .ok (.aload_n 0, 1) := dK_c_128.2.2.2.1
theorem dX11_image_6 : decode cX11_image 6 = .ok (.iconst 0, 1) := dK_c_128.2.2.2.2.1
theorem dX11_image_7 : decode cX11_image 7 = .ok (.iconst 1, 1) := dK_c_128.2.2.2.2.2.1
theorem dX11_image_8 : decode cX11_image 8 = .ok (.invokevirtual 173, 3) := dK_c_128.2.2.2.2.2.2.1
theorem dX11_image_11 : decode cX11_image 11 = .ok (.aload_n 0, 1) := dK_c_128.2.2.2.2.2.2.2.1
theorem dK_c_129 : dk_P cX11_image [(12, (.getfield 147, 3)), (15, (.ireturn, 1))] := dk_of 12 (by decide +kernel)
theorem dX11_image_12 : decode cX11_image 12 = .ok (.getfield 147, 3) := dK_c_129.1
theorem dX11_image_15 : decode cX11_image 15 = .ok (.ireturn, 1) := dK_c_129.2.1
theorem dK_c_130 : dk_P cX11_restore [(0, (.aload_n 0, 1)), (1, (.getfield 194, 3)), (4, (.ifCond .ne 10, 3)), (7, (.aload_n 0, 1)), (8, (.bipush (-3), 2)), (10, (.invokevirtual 115, 3)), (13, (.ireturn, 1)), (14, (.aload_n 0, 1))] := dk_of 0 (by decide +kernel)
theorem dX11_restore_0 : decode cX11_restore 0 = .ok (.aload_n 0, 1) := dK_c_130.1
theorem dX11_restore_1 : decode cX11_restore 1 = .ok (.getfield 194, 3) := dK_c_130.2.1
theorem dX11_restore_4 : decode cX11_restore 4 = .ok (.ifCond .ne 10, 3) := dK_c_130.2.2.1
theorem dX11_restore_7 : decode cX11_restore 7 = .ok (.aload_n 0, 1) := dK_c_130.2.2.2.1
theorem dX11_restore_8 : decode cX11_restore 8 = .ok (.bipush (-3), 2) := dK_c_130.2.2.2.2.1
theorem dX11_restore_10 : decode cX11_restore 10 = .ok (.invokevirtual 115, 3) := dK_c_130.2.2.2.2.2.1
theorem dX11_restore_13 : decode cX11_restore 13 = .ok (.ireturn, 1) := dK_c_130.2.2.2.2.2.2.1
theorem dX11_restore_14 : decode cX11_restore 14 = .ok (.aload_n 0, 1) := dK_c_130.2.2.2.2.2.2.2.1
theorem dK_c_131 : dk_P cX11_restore [(15, (.iconst 0, 1)), (16, (.iconst 0, 1)), (17, (.invokevirtual 173, 3)), (20, (.aload_n 0, 1)), (21, (.getfield 147, 3)), (24, (.ireturn, 1))] := dk_of 15 (by decide +kernel)
theorem dX11_restore_15 : decode cX11_restore 15 = .ok (.iconst 0, 1) := dK_c_131.1
theorem dX11_restore_16 : decode cX11_restore 16 = .ok (.iconst 0, 1) := dK_c_131.2.1
theorem dX11_restore_17 : decode cX11_restore 17 = .ok (.invokevirtual 173, 3) := dK_c_131.2.2.1
theorem dX11_restore_20 : decode cX11_restore 20 = .ok (.aload_n 0, 1) := dK_c_131.2.2.2.1
theorem dX11_restore_21 : decode cX11_restore 21 = .ok (.getfield 147, 3) := dK_c_131.2.2.2.2.1
theorem dX11_restore_24 : decode cX11_restore 24 = .ok (.ireturn, 1) := dK_c_131.2.2.2.2.2.1
theorem dK_c_132 : dk_P cX11_strideIn [(0, (.aload_n 0, 1)), (1, (.getfield 19, 3)), (4, (.iload_n 1, 1)), (5, (.iaload, 1)), (6, (.aload_n 0, 1)), (7, (.getfield 22, 3)), (10, (.iload_n 1, 1)), (11, (.iaload, 1))] := dk_of 0 (by decide +kernel)
theorem dX11_strideIn_0 : decode cX11_strideIn 0 = .ok (.aload_n 0, 1) := dK_c_132.1
theorem dX11_strideIn_1 : decode cX11_strideIn 1 = .ok (.getfield 19, 3) := dK_c_132.2.1
theorem dX11_strideIn_4 : decode cX11_strideIn 4 = .ok (.iload_n 1, 1) := dK_c_132.2.2.1
theorem dX11_strideIn_5 : decode cX11_strideIn 5 = .ok (.iaload, 1) := dK_c_132.2.2.2.1
theorem dX11_strideIn_6 : decode cX11_strideIn 6 = .ok (.aload_n 0, 1) := dK_c_132.2.2.2.2.1
theorem dX11_strideIn_7 : decode cX11_strideIn 7 = .ok (.getfield 22, 3) := dK_c_132.2.2.2.2.2.1
theorem dX11_strideIn_10 : decode cX11_strideIn 10 = .ok (.iload_n 1, 1) := dK_c_132.2.2.2.2.2.2.1
theorem dX11_strideIn_11 : decode cX11_strideIn 11 = .ok (.iaload, 1) := dK_c_132.2.2.2.2.2.2.2.1
theorem dK_c_133 : dk_P cX11_strideIn [(12, (.iload_n 2, 1)), (13, (.imul, 1)), (14, (.bipush 10, 2)), (16, (.idiv, 1)), (17, (.iadd, 1)), (18, (.iload_n 3, 1)), (19, (.iload_n 2, 1)), (20, (.imul, 1))] := dk_of 12 (by decide +kernel)
theorem dX11_strideIn_12 : decode cX11_strideIn 12 = .ok (.iload_n 2, 1) := dK_c_133.1
theorem dX11_strideIn_13 : decode cX11_strideIn 13 = .ok (.imul, 1) := dK_c_133.2.1
theorem dX11_strideIn_14 : decode cX11_strideIn 14 = .ok (.bipush 10, 2) := dK_c_133.2.2.1
theorem dX11_strideIn_16 : decode cX11_strideIn 16 = .ok (.idiv, 1) := dK_c_133.2.2.2.1
theorem dX11_strideIn_17 : decode cX11_strideIn 17 = .ok (.iadd, 1) := dK_c_133.2.2.2.2.1
theorem dX11_strideIn_18 : decode cX11_strideIn 18 = .ok (.iload_n 3, 1) := dK_c_133.2.2.2.2.2.1
theorem dX11_strideIn_19 : decode cX11_strideIn 19 = .ok (.iload_n 2, 1) := dK_c_133.2.2.2.2.2.2.1
theorem dX11_strideIn_20 : decode cX11_strideIn 20 = .ok (.imul, 1) := dK_c_133.2.2.2.2.2.2.2.1
theorem dK_c_134 : dk_P cX11_strideIn [(21, (.bipush 10, 2)), (23, (.idiv, 1)), (24, (.iadd, 1)), (25, (.istore 4, 2)), (27, (.aload_n 0, 1)), (28, (.getfield 13, 3)), (31, (.iload_n 1, 1)), (32, (.iaload, 1))] := dk_of 21 (by decide +kernel)
theorem dX11_strideIn_21 : decode cX11_strideIn 21 = .ok (.bipush 10, 2) := dK_c_134.1
theorem dX11_strideIn_23 : decode cX11_strideIn 23 = .ok (.idiv, 1) := dK_c_134.2.1
theorem dX11_strideIn_24 : decode cX11_strideIn 24 = .ok (.iadd, 1) := dK_c_134.2.2.1
theorem dX11_strideIn_25 : decode cX11_strideIn 25 = .ok (.istore 4, 2) := dK_c_134.2.2.2.1
theorem dX11_strideIn_27 : decode cX11_strideIn 27 = .ok (.aload_n 0, 1) := dK_c_134.2.2.2.2.1
theorem dX11_strideIn_28 : decode cX11_strideIn 28 = .ok (.getfield 13, 3) := dK_c_134.2.2.2.2.2.1
theorem dX11_strideIn_31 : decode cX11_strideIn 31 = .ok (.iload_n 1, 1) := dK_c_134.2.2.2.2.2.2.1
theorem dX11_strideIn_32 : decode cX11_strideIn 32 = .ok (.iaload, 1) := dK_c_134.2.2.2.2.2.2.2.1
theorem dK_c_135 : dk_P cX11_strideIn [(33, (.tableswitch 71 2 5 #[31, 71, 38, 52], 31)), (64, (.iload 4, 2)), (66, (.iload_n 2, 1)), (67, (.iconst 2, 1)), (68, (.irem, 1)), (69, (.iadd, 1)), (70, (.ireturn, 1)), (71, (.iload 4, 2))] := dk_of 33 (by decide +kernel)
theorem dX11_strideIn_33 : decode cX11_strideIn 33 = .ok (.tableswitch 71 2 5 #[31, 71, 38, 52], 31) := dK_c_135.1
theorem dX11_strideIn_64 : decode cX11_strideIn 64 = .ok (.iload 4, 2) := dK_c_135.2.1
theorem dX11_strideIn_66 : decode cX11_strideIn 66 = .ok (.iload_n 2, 1) := dK_c_135.2.2.1
theorem dX11_strideIn_67 : decode cX11_strideIn 67 = .ok (.iconst 2, 1) := dK_c_135.2.2.2.1
theorem dX11_strideIn_68 : decode cX11_strideIn 68 = .ok (.irem, 1) := dK_c_135.2.2.2.2.1
theorem dX11_strideIn_69 : decode cX11_strideIn 69 = .ok (.iadd, 1) := dK_c_135.2.2.2.2.2.1
theorem dX11_strideIn_70 : decode cX11_strideIn 70 = .ok (.ireturn, 1) := dK_c_135.2.2.2.2.2.2.1
theorem dX11_strideIn_71 : decode cX11_strideIn 71 = .ok (.iload 4, 2) := dK_c_135.2.2.2.2.2.2.2.1
theorem dK_c_136 : dk_P cX11_strideIn [(73, (.iload_n 2, 1)), (74, (.iconst 2, 1)), (75, (.irem, 1)), (76, (.iadd, 1)), (77, (.iload_n 3, 1)), (78, (.iload_n 2, 1)), (79, (.imul, 1)), (80, (.bipush 10, 2))] := dk_of 73 (by decide +kernel)
theorem dX11_strideIn_73 : decode cX11_strideIn 73 = .ok (.iload_n 2, 1) := dK_c_136.1
theorem dX11_strideIn_74 : decode cX11_strideIn 74 = .ok (.iconst 2, 1) := dK_c_136.2.1
theorem dX11_strideIn_75 : decode cX11_strideIn 75 = .ok (.irem, 1) := dK_c_136.2.2.1
theorem dX11_strideIn_76 : decode cX11_strideIn 76 = .ok (.iadd, 1) := dK_c_136.2.2.2.1
theorem dX11_strideIn_77 : decode cX11_strideIn 77 = .ok (.iload_n 3, 1) := dK_c_136.2.2.2.2.1
theorem dX11_strideIn_78 : decode cX11_strideIn 78 = .ok (.iload_n 2, 1) := dK_c_136.2.2.2.2.2.1
theorem dX11_strideIn_79 : decode cX11_strideIn 79 = .ok (.imul, 1) := dK_c_136.2.2.2.2.2.2.1
theorem dX11_strideIn_80 : decode cX11_strideIn 80 = .ok (.bipush 10, 2) := dK_c_136.2.2.2.2.2.2.2.1
theorem dK_c_137 : dk_P cX11_strideIn [(82, (.idiv, 1)), (83, (.iadd, 1)), (84, (.ireturn, 1)), (85, (.aload_n 0, 1)), (86, (.getfield 19, 3)), (89, (.iload_n 1, 1)), (90, (.iaload, 1)), (91, (.aload_n 0, 1))] := dk_of 82 (by decide +kernel)
theorem dX11_strideIn_82 : decode cX11_strideIn 82 = .ok (.idiv, 1) := dK_c_137.1
theorem dX11_strideIn_83 : decode cX11_strideIn 83 = .ok (.iadd, 1) := dK_c_137.2.1
theorem dX11_strideIn_84 : decode cX11_strideIn 84 = .ok (.ireturn, 1) := dK_c_137.2.2.1
theorem dX11_strideIn_85 : decode cX11_strideIn 85 = .ok (.aload_n 0, 1) := dK_c_137.2.2.2.1
theorem dX11_strideIn_86 : decode cX11_strideIn 86 = .ok (.getfield 19, 3) := dK_c_137.2.2.2.2.1
theorem dX11_strideIn_89 : decode cX11_strideIn 89 = .ok (.iload_n 1, 1) := dK_c_137.2.2.2.2.2.1
theorem dX11_strideIn_90 : decode cX11_strideIn 90 = .ok (.iaload, 1) := dK_c_137.2.2.2.2.2.2.1
theorem dX11_strideIn_91 : decode cX11_strideIn 91 = .ok (.aload_n 0, 1) := dK_c_137.2.2.2.2.2.2.2.1
theorem dK_c_138 : dk_P cX11_strideIn [(92, (.getfield 22, 3)), (95, (.iload_n 1, 1)), (96, (.iaload, 1)), (97, (.iload_n 2, 1)), (98, (.imul, 1)), (99, (.bipush 10, 2)), (101, (.idiv, 1)), (102, (.iadd, 1))] := dk_of 92 (by decide +kernel)
theorem dX11_strideIn_92 : decode cX11_strideIn 92 = .ok (.getfield 22, 3) := dK_c_138.1
theorem dX11_strideIn_95 : decode cX11_strideIn 95 = .ok (.iload_n 1, 1) := dK_c_138.2.1
theorem dX11_strideIn_96 : decode cX11_strideIn 96 = .ok (.iaload, 1) := dK_c_138.2.2.1
theorem dX11_strideIn_97 : decode cX11_strideIn 97 = .ok (.iload_n 2, 1) := dK_c_138.2.2.2.1
theorem dX11_strideIn_98 : decode cX11_strideIn 98 = .ok (.imul, 1) := dK_c_138.2.2.2.2.1
theorem dX11_strideIn_99 : decode cX11_strideIn 99 = .ok (.bipush 10, 2) := dK_c_138.2.2.2.2.2.1
theorem dX11_strideIn_101 : decode cX11_strideIn 101 = .ok (.idiv, 1) := dK_c_138.2.2.2.2.2.2.1
theorem dX11_strideIn_102 : decode cX11_strideIn 102 = .ok (.iadd, 1) := dK_c_138.2.2.2.2.2.2.2.1
theorem dK_c_139 : dk_P cX11_strideIn [(103, (.ireturn, 1)), (104, (.iload 4, 2)), (106, (.ireturn, 1))] := dk_of 103 (by decide +kernel)
theorem dX11_strideIn_103 : decode cX11_strideIn 103 = .ok (.ireturn, 1) := dK_c_139.1
theorem dX11_strideIn_104 : decode cX11_strideIn 104 = .ok (.iload 4, 2) := dK_c_139.2.1
theorem dX11_strideIn_106 : decode cX11_strideIn 106 = .ok (.ireturn, 1) := dK_c_139.2.2.1
theorem dK_c_140 : dk_P cX11_allStrides [(0, (.iconst 0, 1)), (1, (.istore_n 3, 1)), (2, (.iconst 0, 1)), (3, (.istore 4, 2)), (5, (.iload 4, 2)), (7, (.aload_n 0, 1)), (8, (.getfield 95, 3)), (11, (.if_icmp .ge 20, 3))] := dk_of 0 (by decide +kernel)
theorem dX11_allStrides_0 : decode cX11_allStrides 0 = .ok (.iconst 0, 1) := dK_c_140.1
theorem dX11_allStrides_1 : decode cX11_allStrides 1 = .ok (.istore_n 3, 1) := dK_c_140.2.1
theorem dX11_allStrides_2 : decode cX11_allStrides 2 = .ok (.iconst 0, 1) := dK_c_140.2.2.1
theorem dX11_allStrides_3 : decode cX11_allStrides 3 = .ok (.istore 4, 2) := dK_c_140.2.2.2.1
theorem dX11_allStrides_5 : decode cX11_allStrides 5 = .ok (.iload 4, 2) := dK_c_140.2.2.2.2.1
theorem dX11_allStrides_7 : decode cX11_allStrides 7 = .ok (.aload_n 0, 1) := dK_c_140.2.2.2.2.2.1
theorem dX11_allStrides_8 : decode cX11_allStrides 8 = .ok (.getfield 95, 3) := dK_c_140.2.2.2.2.2.2.1
theorem dX11_allStrides_11 : decode cX11_allStrides 11 = .ok (.if_icmp .ge 20, 3) := dK_c_140.2.2.2.2.2.2.2.1
theorem dK_c_141 : dk_P cX11_allStrides [(14, (.iload_n 3, 1)), (15, (.aload_n 0, 1)), (16, (.iload_n 1, 1)), (17, (.iload 4, 2)), (19, (.iload_n 2, 1)), (20, (.invokevirtual 197, 3)), (23, (.iadd, 1)), (24, (.istore_n 3, 1))] := dk_of 14 (by decide +kernel)
theorem dX11_allStrides_14 : decode cX11_allStrides 14 = .ok (.iload_n 3, 1) := dK_c_141.1
theorem dX11_allStrides_15 : decode cX11_allStrides 15 = .ok (.aload_n 0, 1) := dK_c_141.2.1
theorem dX11_allStrides_16 : decode cX11_allStrides 16 = .ok (.iload_n 1, 1) := dK_c_141.2.2.1
theorem dX11_allStrides_17 : decode cX11_allStrides 17 = .ok (.iload 4, 2) := dK_c_141.2.2.2.1
theorem dX11_allStrides_19 : decode cX11_allStrides 19 = .ok (.iload_n 2, 1) := dK_c_141.2.2.2.2.1
theorem dX11_allStrides_20 : decode cX11_allStrides 20 = .ok (.invokevirtual 197, 3) := dK_c_141.2.2.2.2.2.1
theorem dX11_allStrides_23 : decode cX11_allStrides 23 = .ok (.iadd, 1) := dK_c_141.2.2.2.2.2.2.1
theorem dX11_allStrides_24 : decode cX11_allStrides 24 = .ok (.istore_n 3, 1) := dK_c_141.2.2.2.2.2.2.2.1
theorem dK_c_142 : dk_P cX11_allStrides [(25, (.iinc 4 1, 3)), (28, (.goto (-23), 3)), (31, (.iload_n 3, 1)), (32, (.ireturn, 1))] := dk_of 25 (by decide +kernel)
theorem dX11_allStrides_25 : decode cX11_allStrides 25 = .ok (.iinc 4 1, 3) := dK_c_142.1
theorem dX11_allStrides_28 : decode cX11_allStrides 28 = .ok (.goto (-23), 3) := dK_c_142.2.1
theorem dX11_allStrides_31 : decode cX11_allStrides 31 = .ok (.iload_n 3, 1) := dK_c_142.2.2.1
theorem dX11_allStrides_32 : decode cX11_allStrides 32 = .ok (.ireturn, 1) := dK_c_142.2.2.2.1
theorem dK_c_143 : dk_P cX11_placeOf [(0, (.aload_n 0, 1)), (1, (.getfield 34, 3)), (4, (.iload_n 1, 1)), (5, (.iaload, 1)), (6, (.aload_n 0, 1)), (7, (.iload_n 1, 1)), (8, (.aload_n 0, 1)), (9, (.getfield 157, 3))] := dk_of 0 (by decide +kernel)
theorem dX11_placeOf_0 : decode cX11_placeOf 0 = .ok (.aload_n 0, 1) := dK_c_143.1
theorem dX11_placeOf_1 : decode cX11_placeOf 1 = .ok (.getfield 34, 3) := dK_c_143.2.1
theorem dX11_placeOf_4 : decode cX11_placeOf 4 = .ok (.iload_n 1, 1) := dK_c_143.2.2.1
theorem dX11_placeOf_5 : decode cX11_placeOf 5 = .ok (.iaload, 1) := dK_c_143.2.2.2.1
theorem dX11_placeOf_6 : decode cX11_placeOf 6 = .ok (.aload_n 0, 1) := dK_c_143.2.2.2.2.1
theorem dX11_placeOf_7 : decode cX11_placeOf 7 = .ok (.iload_n 1, 1) := dK_c_143.2.2.2.2.2.1
theorem dX11_placeOf_8 : decode cX11_placeOf 8 = .ok (.aload_n 0, 1) := dK_c_143.2.2.2.2.2.2.1
theorem dX11_placeOf_9 : decode cX11_placeOf 9 = .ok (.getfield 157, 3) := dK_c_143.2.2.2.2.2.2.2.1
theorem dK_c_144 : dk_P cX11_placeOf [(12, (.invokevirtual 200, 3)), (15, (.isub, 1)), (16, (.ireturn, 1))] := dk_of 12 (by decide +kernel)
theorem dX11_placeOf_12 : decode cX11_placeOf 12 = .ok (.invokevirtual 200, 3) := dK_c_144.1
theorem dX11_placeOf_15 : decode cX11_placeOf 15 = .ok (.isub, 1) := dK_c_144.2.1
theorem dX11_placeOf_16 : decode cX11_placeOf 16 = .ok (.ireturn, 1) := dK_c_144.2.2.1
theorem dK_c_145 : dk_P cX11_aimOf [(0, (.aload_n 0, 1)), (1, (.getfield 16, 3)), (4, (.iload_n 1, 1)), (5, (.iaload, 1)), (6, (.iconst 2, 1)), (7, (.iadd, 1)), (8, (.istore_n 2, 1)), (9, (.aload_n 0, 1))] := dk_of 0 (by decide +kernel)
theorem dX11_aimOf_0 : decode cX11_aimOf 0 = .ok (.aload_n 0, 1) := dK_c_145.1
theorem dX11_aimOf_1 : decode cX11_aimOf 1 = .ok (.getfield 16, 3) := dK_c_145.2.1
theorem dX11_aimOf_4 : decode cX11_aimOf 4 = .ok (.iload_n 1, 1) := dK_c_145.2.2.1
theorem dX11_aimOf_5 : decode cX11_aimOf 5 = .ok (.iaload, 1) := dK_c_145.2.2.2.1
theorem dX11_aimOf_6 : decode cX11_aimOf 6 = .ok (.iconst 2, 1) := dK_c_145.2.2.2.2.1
theorem dX11_aimOf_7 : decode cX11_aimOf 7 = .ok (.iadd, 1) := dK_c_145.2.2.2.2.2.1
theorem dX11_aimOf_8 : decode cX11_aimOf 8 = .ok (.istore_n 2, 1) := dK_c_145.2.2.2.2.2.2.1
theorem dX11_aimOf_9 : decode cX11_aimOf 9 = .ok (.aload_n 0, 1) := dK_c_145.2.2.2.2.2.2.2.1
theorem dK_c_146 : dk_P cX11_aimOf [(10, (.getfield 13, 3)), (13, (.iload_n 1, 1)), (14, (.iaload, 1)), (15, (.tableswitch 47 1 5 #[33, 35, 37, 35, 41], 33)), (48, (.iload_n 2, 1)), (49, (.ireturn, 1)), (50, (.iconst 1, 1)), (51, (.ireturn, 1))] := dk_of 10 (by decide +kernel)
theorem dX11_aimOf_10 : decode cX11_aimOf 10 = .ok (.getfield 13, 3) := dK_c_146.1
theorem dX11_aimOf_13 : decode cX11_aimOf 13 = .ok (.iload_n 1, 1) := dK_c_146.2.1
theorem dX11_aimOf_14 : decode cX11_aimOf 14 = .ok (.iaload, 1) := dK_c_146.2.2.1
theorem dX11_aimOf_15 : decode cX11_aimOf 15 = .ok (.tableswitch 47 1 5 #[33, 35, 37, 35, 41], 33) := dK_c_146.2.2.2.1
theorem dX11_aimOf_48 : decode cX11_aimOf 48 = .ok (.iload_n 2, 1) := dK_c_146.2.2.2.2.1
theorem dX11_aimOf_49 : decode cX11_aimOf 49 = .ok (.ireturn, 1) := dK_c_146.2.2.2.2.2.1
theorem dX11_aimOf_50 : decode cX11_aimOf 50 = .ok (.iconst 1, 1) := dK_c_146.2.2.2.2.2.2.1
theorem dX11_aimOf_51 : decode cX11_aimOf 51 = .ok (.ireturn, 1) := dK_c_146.2.2.2.2.2.2.2.1
theorem dK_c_147 : dk_P cX11_aimOf [(52, (.iload_n 2, 1)), (53, (.iconst 2, 1)), (54, (.idiv, 1)), (55, (.ireturn, 1)), (56, (.iload_n 2, 1)), (57, (.iconst 2, 1)), (58, (.idiv, 1)), (59, (.iconst 1, 1))] := dk_of 52 (by decide +kernel)
theorem dX11_aimOf_52 : decode cX11_aimOf 52 = .ok (.iload_n 2, 1) := dK_c_147.1
theorem dX11_aimOf_53 : decode cX11_aimOf 53 = .ok (.iconst 2, 1) := dK_c_147.2.1
theorem dX11_aimOf_54 : decode cX11_aimOf 54 = .ok (.idiv, 1) := dK_c_147.2.2.1
theorem dX11_aimOf_55 : decode cX11_aimOf 55 = .ok (.ireturn, 1) := dK_c_147.2.2.2.1
theorem dX11_aimOf_56 : decode cX11_aimOf 56 = .ok (.iload_n 2, 1) := dK_c_147.2.2.2.2.1
theorem dX11_aimOf_57 : decode cX11_aimOf 57 = .ok (.iconst 2, 1) := dK_c_147.2.2.2.2.2.1
theorem dX11_aimOf_58 : decode cX11_aimOf 58 = .ok (.idiv, 1) := dK_c_147.2.2.2.2.2.2.1
theorem dX11_aimOf_59 : decode cX11_aimOf 59 = .ok (.iconst 1, 1) := dK_c_147.2.2.2.2.2.2.2.1
theorem dK_c_148 : dk_P cX11_aimOf [(60, (.iadd, 1)), (61, (.ireturn, 1)), (62, (.iconst 0, 1)), (63, (.ireturn, 1))] := dk_of 60 (by decide +kernel)
theorem dX11_aimOf_60 : decode cX11_aimOf 60 = .ok (.iadd, 1) := dK_c_148.1
theorem dX11_aimOf_61 : decode cX11_aimOf 61 = .ok (.ireturn, 1) := dK_c_148.2.1
theorem dX11_aimOf_62 : decode cX11_aimOf 62 = .ok (.iconst 0, 1) := dK_c_148.2.2.1
theorem dX11_aimOf_63 : decode cX11_aimOf 63 = .ok (.ireturn, 1) := dK_c_148.2.2.2.1
theorem dK_c_149 : dk_P cX11_lengthOf [(0, (.iconst 4, 1)), (1, (.aload_n 0, 1)), (2, (.getfield 28, 3)), (5, (.iload_n 1, 1)), (6, (.iaload, 1)), (7, (.imul, 1)), (8, (.iconst 2, 1)), (9, (.aload_n 0, 1))] := dk_of 0 (by decide +kernel)
theorem dX11_lengthOf_0 : decode cX11_lengthOf 0 = .ok (.iconst 4, 1) := dK_c_149.1
theorem dX11_lengthOf_1 : decode cX11_lengthOf 1 = .ok (.aload_n 0, 1) := dK_c_149.2.1
theorem dX11_lengthOf_2 : decode cX11_lengthOf 2 = .ok (.getfield 28, 3) := dK_c_149.2.2.1
theorem dX11_lengthOf_5 : decode cX11_lengthOf 5 = .ok (.iload_n 1, 1) := dK_c_149.2.2.2.1
theorem dX11_lengthOf_6 : decode cX11_lengthOf 6 = .ok (.iaload, 1) := dK_c_149.2.2.2.2.1
theorem dX11_lengthOf_7 : decode cX11_lengthOf 7 = .ok (.imul, 1) := dK_c_149.2.2.2.2.2.1
theorem dX11_lengthOf_8 : decode cX11_lengthOf 8 = .ok (.iconst 2, 1) := dK_c_149.2.2.2.2.2.2.1
theorem dX11_lengthOf_9 : decode cX11_lengthOf 9 = .ok (.aload_n 0, 1) := dK_c_149.2.2.2.2.2.2.2.1
theorem dK_c_150 : dk_P cX11_lengthOf [(10, (.getfield 157, 3)), (13, (.imul, 1)), (14, (.iadd, 1)), (15, (.aload_n 0, 1)), (16, (.getfield 16, 3)), (19, (.iload_n 1, 1)), (20, (.iaload, 1)), (21, (.iadd, 1))] := dk_of 10 (by decide +kernel)
theorem dX11_lengthOf_10 : decode cX11_lengthOf 10 = .ok (.getfield 157, 3) := dK_c_150.1
theorem dX11_lengthOf_13 : decode cX11_lengthOf 13 = .ok (.imul, 1) := dK_c_150.2.1
theorem dX11_lengthOf_14 : decode cX11_lengthOf 14 = .ok (.iadd, 1) := dK_c_150.2.2.1
theorem dX11_lengthOf_15 : decode cX11_lengthOf 15 = .ok (.aload_n 0, 1) := dK_c_150.2.2.2.1
theorem dX11_lengthOf_16 : decode cX11_lengthOf 16 = .ok (.getfield 16, 3) := dK_c_150.2.2.2.2.1
theorem dX11_lengthOf_19 : decode cX11_lengthOf 19 = .ok (.iload_n 1, 1) := dK_c_150.2.2.2.2.2.1
theorem dX11_lengthOf_20 : decode cX11_lengthOf 20 = .ok (.iaload, 1) := dK_c_150.2.2.2.2.2.2.1
theorem dX11_lengthOf_21 : decode cX11_lengthOf 21 = .ok (.iadd, 1) := dK_c_150.2.2.2.2.2.2.2.1
theorem dK_c_151 : dk_P cX11_lengthOf [(22, (.iload_n 2, 1)), (23, (.isub, 1)), (24, (.iconst 2, 1)), (25, (.iload_n 3, 1)), (26, (.imul, 1)), (27, (.isub, 1)), (28, (.invokestatic 204, 3)), (31, (.istore 4, 2))] := dk_of 22 (by decide +kernel)
theorem dX11_lengthOf_22 : decode cX11_lengthOf 22 = .ok (.iload_n 2, 1) := dK_c_151.1
theorem dX11_lengthOf_23 : decode cX11_lengthOf 23 = .ok (.isub, 1) := dK_c_151.2.1
theorem dX11_lengthOf_24 : decode cX11_lengthOf 24 = .ok (.iconst 2, 1) := dK_c_151.2.2.1
theorem dX11_lengthOf_25 : decode cX11_lengthOf 25 = .ok (.iload_n 3, 1) := dK_c_151.2.2.2.1
theorem dX11_lengthOf_26 : decode cX11_lengthOf 26 = .ok (.imul, 1) := dK_c_151.2.2.2.2.1
theorem dX11_lengthOf_27 : decode cX11_lengthOf 27 = .ok (.isub, 1) := dK_c_151.2.2.2.2.2.1
theorem dX11_lengthOf_28 : decode cX11_lengthOf 28 = .ok (.invokestatic 204, 3) := dK_c_151.2.2.2.2.2.2.1
theorem dX11_lengthOf_31 : decode cX11_lengthOf 31 = .ok (.istore 4, 2) := dK_c_151.2.2.2.2.2.2.2.1
theorem dK_c_152 : dk_P cX11_lengthOf [(33, (.iload 4, 2)), (35, (.iconst 3, 1)), (36, (.isub, 1)), (37, (.invokestatic 204, 3)), (40, (.istore 5, 2)), (42, (.aload_n 0, 1)), (43, (.getfield 13, 3)), (46, (.iload_n 1, 1))] := dk_of 33 (by decide +kernel)
theorem dX11_lengthOf_33 : decode cX11_lengthOf 33 = .ok (.iload 4, 2) := dK_c_152.1
theorem dX11_lengthOf_35 : decode cX11_lengthOf 35 = .ok (.iconst 3, 1) := dK_c_152.2.1
theorem dX11_lengthOf_36 : decode cX11_lengthOf 36 = .ok (.isub, 1) := dK_c_152.2.2.1
theorem dX11_lengthOf_37 : decode cX11_lengthOf 37 = .ok (.invokestatic 204, 3) := dK_c_152.2.2.2.1
theorem dX11_lengthOf_40 : decode cX11_lengthOf 40 = .ok (.istore 5, 2) := dK_c_152.2.2.2.2.1
theorem dX11_lengthOf_42 : decode cX11_lengthOf 42 = .ok (.aload_n 0, 1) := dK_c_152.2.2.2.2.2.1
theorem dX11_lengthOf_43 : decode cX11_lengthOf 43 = .ok (.getfield 13, 3) := dK_c_152.2.2.2.2.2.2.1
theorem dX11_lengthOf_46 : decode cX11_lengthOf 46 = .ok (.iload_n 1, 1) := dK_c_152.2.2.2.2.2.2.2.1
theorem dK_c_153 : dk_P cX11_lengthOf [(47, (.iaload, 1)), (48, (.tableswitch 62 1 5 #[36, 39, 36, 44, 57], 36)), (84, (.iload 5, 2)), (86, (.ireturn, 1)), (87, (.iload 4, 2)), (89, (.iconst 3, 1)), (90, (.iadd, 1)), (91, (.ireturn, 1))] := dk_of 47 (by decide +kernel)
theorem dX11_lengthOf_47 : decode cX11_lengthOf 47 = .ok (.iaload, 1) := dK_c_153.1
theorem dX11_lengthOf_48 : decode cX11_lengthOf 48 = .ok (.tableswitch 62 1 5 #[36, 39, 36, 44, 57], 36) := dK_c_153.2.1
theorem dX11_lengthOf_84 : decode cX11_lengthOf 84 = .ok (.iload 5, 2) := dK_c_153.2.2.1
theorem dX11_lengthOf_86 : decode cX11_lengthOf 86 = .ok (.ireturn, 1) := dK_c_153.2.2.2.1
theorem dX11_lengthOf_87 : decode cX11_lengthOf 87 = .ok (.iload 4, 2) := dK_c_153.2.2.2.2.1
theorem dX11_lengthOf_89 : decode cX11_lengthOf 89 = .ok (.iconst 3, 1) := dK_c_153.2.2.2.2.2.1
theorem dX11_lengthOf_90 : decode cX11_lengthOf 90 = .ok (.iadd, 1) := dK_c_153.2.2.2.2.2.2.1
theorem dX11_lengthOf_91 : decode cX11_lengthOf 91 = .ok (.ireturn, 1) := dK_c_153.2.2.2.2.2.2.2.1
theorem dK_c_154 : dk_P cX11_lengthOf [(92, (.iload 4, 2)), (94, (.iconst 3, 1)), (95, (.iadd, 1)), (96, (.aload_n 0, 1)), (97, (.getfield 157, 3)), (100, (.iadd, 1)), (101, (.invokestatic 204, 3)), (104, (.ireturn, 1))] := dk_of 92 (by decide +kernel)
theorem dX11_lengthOf_92 : decode cX11_lengthOf 92 = .ok (.iload 4, 2) := dK_c_154.1
theorem dX11_lengthOf_94 : decode cX11_lengthOf 94 = .ok (.iconst 3, 1) := dK_c_154.2.1
theorem dX11_lengthOf_95 : decode cX11_lengthOf 95 = .ok (.iadd, 1) := dK_c_154.2.2.1
theorem dX11_lengthOf_96 : decode cX11_lengthOf 96 = .ok (.aload_n 0, 1) := dK_c_154.2.2.2.1
theorem dX11_lengthOf_97 : decode cX11_lengthOf 97 = .ok (.getfield 157, 3) := dK_c_154.2.2.2.2.1
theorem dX11_lengthOf_100 : decode cX11_lengthOf 100 = .ok (.iadd, 1) := dK_c_154.2.2.2.2.2.1
theorem dX11_lengthOf_101 : decode cX11_lengthOf 101 = .ok (.invokestatic 204, 3) := dK_c_154.2.2.2.2.2.2.1
theorem dX11_lengthOf_104 : decode cX11_lengthOf 104 = .ok (.ireturn, 1) := dK_c_154.2.2.2.2.2.2.2.1
theorem dK_c_155 : dk_P cX11_lengthOf [(105, (.iload 5, 2)), (107, (.iconst 1, 1)), (108, (.iadd, 1)), (109, (.ireturn, 1)), (110, (.iload 4, 2)), (112, (.ireturn, 1))] := dk_of 105 (by decide +kernel)
theorem dX11_lengthOf_105 : decode cX11_lengthOf 105 = .ok (.iload 5, 2) := dK_c_155.1
theorem dX11_lengthOf_107 : decode cX11_lengthOf 107 = .ok (.iconst 1, 1) := dK_c_155.2.1
theorem dX11_lengthOf_108 : decode cX11_lengthOf 108 = .ok (.iadd, 1) := dK_c_155.2.2.1
theorem dX11_lengthOf_109 : decode cX11_lengthOf 109 = .ok (.ireturn, 1) := dK_c_155.2.2.2.1
theorem dX11_lengthOf_110 : decode cX11_lengthOf 110 = .ok (.iload 4, 2) := dK_c_155.2.2.2.2.1
theorem dX11_lengthOf_112 : decode cX11_lengthOf 112 = .ok (.ireturn, 1) := dK_c_155.2.2.2.2.2.1
theorem dK_c_156 : dk_P cX11_jumper [(0, (.aload_n 0, 1)), (1, (.iload_n 1, 1)), (2, (.invokevirtual 207, 3)), (5, (.ifCond .ne 9, 3)), (8, (.aload_n 0, 1)), (9, (.iconst (-1), 1)), (10, (.invokevirtual 115, 3)), (13, (.ireturn, 1))] := dk_of 0 (by decide +kernel)
theorem dX11_jumper_0 : decode cX11_jumper 0 = .ok (.aload_n 0, 1) := dK_c_156.1
theorem dX11_jumper_1 : decode cX11_jumper 1 = .ok (.iload_n 1, 1) := dK_c_156.2.1
theorem dX11_jumper_2 : decode cX11_jumper 2 = .ok (.invokevirtual 207, 3) := dK_c_156.2.2.1
theorem dX11_jumper_5 : decode cX11_jumper 5 = .ok (.ifCond .ne 9, 3) := dK_c_156.2.2.2.1
theorem dX11_jumper_8 : decode cX11_jumper 8 = .ok (.aload_n 0, 1) := dK_c_156.2.2.2.2.1
theorem dX11_jumper_9 : decode cX11_jumper 9 = .ok (.iconst (-1), 1) := dK_c_156.2.2.2.2.2.1
theorem dX11_jumper_10 : decode cX11_jumper 10 = .ok (.invokevirtual 115, 3) := dK_c_156.2.2.2.2.2.2.1
theorem dX11_jumper_13 : decode cX11_jumper 13 = .ok (.ireturn, 1) := dK_c_156.2.2.2.2.2.2.2.1
theorem dK_c_157 : dk_P cX11_jumper [(14, (.iload_n 2, 1)), (15, (.tableswitch 161 0 11 #[61, 68, 75, 82, 89, 96, 103, 110, 117, 123, 139, 155], 61)), (76, (.aload_n 0, 1)), (77, (.getfield 13, 3)), (80, (.iload_n 1, 1)), (81, (.iaload, 1)), (82, (.ireturn, 1)), (83, (.aload_n 0, 1))] := dk_of 14 (by decide +kernel)
theorem dX11_jumper_14 : decode cX11_jumper 14 = .ok (.iload_n 2, 1) := dK_c_157.1
theorem dX11_jumper_15 : decode cX11_jumper 15 = .ok (.tableswitch 161 0 11 #[61, 68, 75, 82, 89, 96, 103, 110, 117, 123, 139, 155], 61) := dK_c_157.2.1
theorem dX11_jumper_76 : decode cX11_jumper 76 = .ok (.aload_n 0, 1) := dK_c_157.2.2.1
theorem dX11_jumper_77 : decode cX11_jumper 77 = .ok (.getfield 13, 3) := dK_c_157.2.2.2.1
theorem dX11_jumper_80 : decode cX11_jumper 80 = .ok (.iload_n 1, 1) := dK_c_157.2.2.2.2.1
theorem dX11_jumper_81 : decode cX11_jumper 81 = .ok (.iaload, 1) := dK_c_157.2.2.2.2.2.1
theorem dX11_jumper_82 : decode cX11_jumper 82 = .ok (.ireturn, 1) := dK_c_157.2.2.2.2.2.2.1
theorem dX11_jumper_83 : decode cX11_jumper 83 = .ok (.aload_n 0, 1) := dK_c_157.2.2.2.2.2.2.2.1
theorem dK_c_158 : dk_P cX11_jumper [(84, (.getfield 16, 3)), (87, (.iload_n 1, 1)), (88, (.iaload, 1)), (89, (.ireturn, 1)), (90, (.aload_n 0, 1)), (91, (.getfield 19, 3)), (94, (.iload_n 1, 1)), (95, (.iaload, 1))] := dk_of 84 (by decide +kernel)
theorem dX11_jumper_84 : decode cX11_jumper 84 = .ok (.getfield 16, 3) := dK_c_158.1
theorem dX11_jumper_87 : decode cX11_jumper 87 = .ok (.iload_n 1, 1) := dK_c_158.2.1
theorem dX11_jumper_88 : decode cX11_jumper 88 = .ok (.iaload, 1) := dK_c_158.2.2.1
theorem dX11_jumper_89 : decode cX11_jumper 89 = .ok (.ireturn, 1) := dK_c_158.2.2.2.1
theorem dX11_jumper_90 : decode cX11_jumper 90 = .ok (.aload_n 0, 1) := dK_c_158.2.2.2.2.1
theorem dX11_jumper_91 : decode cX11_jumper 91 = .ok (.getfield 19, 3) := dK_c_158.2.2.2.2.2.1
theorem dX11_jumper_94 : decode cX11_jumper 94 = .ok (.iload_n 1, 1) := dK_c_158.2.2.2.2.2.2.1
theorem dX11_jumper_95 : decode cX11_jumper 95 = .ok (.iaload, 1) := dK_c_158.2.2.2.2.2.2.2.1
theorem dK_c_159 : dk_P cX11_jumper [(96, (.ireturn, 1)), (97, (.aload_n 0, 1)), (98, (.getfield 22, 3)), (101, (.iload_n 1, 1)), (102, (.iaload, 1)), (103, (.ireturn, 1)), (104, (.aload_n 0, 1)), (105, (.getfield 25, 3))] := dk_of 96 (by decide +kernel)
theorem dX11_jumper_96 : decode cX11_jumper 96 = .ok (.ireturn, 1) := dK_c_159.1
theorem dX11_jumper_97 : decode cX11_jumper 97 = .ok (.aload_n 0, 1) := dK_c_159.2.1
theorem dX11_jumper_98 : decode cX11_jumper 98 = .ok (.getfield 22, 3) := dK_c_159.2.2.1
theorem dX11_jumper_101 : decode cX11_jumper 101 = .ok (.iload_n 1, 1) := dK_c_159.2.2.2.1
theorem dX11_jumper_102 : decode cX11_jumper 102 = .ok (.iaload, 1) := dK_c_159.2.2.2.2.1
theorem dX11_jumper_103 : decode cX11_jumper 103 = .ok (.ireturn, 1) := dK_c_159.2.2.2.2.2.1
theorem dX11_jumper_104 : decode cX11_jumper 104 = .ok (.aload_n 0, 1) := dK_c_159.2.2.2.2.2.2.1
theorem dX11_jumper_105 : decode cX11_jumper 105 = .ok (.getfield 25, 3) := dK_c_159.2.2.2.2.2.2.2.1
theorem dK_c_160 : dk_P cX11_jumper [(108, (.iload_n 1, 1)), (109, (.iaload, 1)), (110, (.ireturn, 1)), (111, (.aload_n 0, 1)), (112, (.getfield 28, 3)), (115, (.iload_n 1, 1)), (116, (.iaload, 1)), (117, (.ireturn, 1))] := dk_of 108 (by decide +kernel)
theorem dX11_jumper_108 : decode cX11_jumper 108 = .ok (.iload_n 1, 1) := dK_c_160.1
theorem dX11_jumper_109 : decode cX11_jumper 109 = .ok (.iaload, 1) := dK_c_160.2.1
theorem dX11_jumper_110 : decode cX11_jumper 110 = .ok (.ireturn, 1) := dK_c_160.2.2.1
theorem dX11_jumper_111 : decode cX11_jumper 111 = .ok (.aload_n 0, 1) := dK_c_160.2.2.2.1
theorem dX11_jumper_112 : decode cX11_jumper 112 = .ok (.getfield 28, 3) := dK_c_160.2.2.2.2.1
theorem dX11_jumper_115 : decode cX11_jumper 115 = .ok (.iload_n 1, 1) := dK_c_160.2.2.2.2.2.1
theorem dX11_jumper_116 : decode cX11_jumper 116 = .ok (.iaload, 1) := dK_c_160.2.2.2.2.2.2.1
theorem dX11_jumper_117 : decode cX11_jumper 117 = .ok (.ireturn, 1) := dK_c_160.2.2.2.2.2.2.2.1
theorem dK_c_161 : dk_P cX11_jumper [(118, (.aload_n 0, 1)), (119, (.getfield 31, 3)), (122, (.iload_n 1, 1)), (123, (.iaload, 1)), (124, (.ireturn, 1)), (125, (.aload_n 0, 1)), (126, (.getfield 34, 3)), (129, (.iload_n 1, 1))] := dk_of 118 (by decide +kernel)
theorem dX11_jumper_118 : decode cX11_jumper 118 = .ok (.aload_n 0, 1) := dK_c_161.1
theorem dX11_jumper_119 : decode cX11_jumper 119 = .ok (.getfield 31, 3) := dK_c_161.2.1
theorem dX11_jumper_122 : decode cX11_jumper 122 = .ok (.iload_n 1, 1) := dK_c_161.2.2.1
theorem dX11_jumper_123 : decode cX11_jumper 123 = .ok (.iaload, 1) := dK_c_161.2.2.2.1
theorem dX11_jumper_124 : decode cX11_jumper 124 = .ok (.ireturn, 1) := dK_c_161.2.2.2.2.1
theorem dX11_jumper_125 : decode cX11_jumper 125 = .ok (.aload_n 0, 1) := dK_c_161.2.2.2.2.2.1
theorem dX11_jumper_126 : decode cX11_jumper 126 = .ok (.getfield 34, 3) := dK_c_161.2.2.2.2.2.2.1
theorem dX11_jumper_129 : decode cX11_jumper 129 = .ok (.iload_n 1, 1) := dK_c_161.2.2.2.2.2.2.2.1
theorem dK_c_162 : dk_P cX11_jumper [(130, (.iaload, 1)), (131, (.ireturn, 1)), (132, (.aload_n 0, 1)), (133, (.iload_n 1, 1)), (134, (.invokevirtual 210, 3)), (137, (.ireturn, 1)), (138, (.aload_n 0, 1)), (139, (.iconst 0, 1))] := dk_of 130 (by decide +kernel)
theorem dX11_jumper_130 : decode cX11_jumper 130 = .ok (.iaload, 1) := dK_c_162.1
theorem dX11_jumper_131 : decode cX11_jumper 131 = .ok (.ireturn, 1) := dK_c_162.2.1
theorem dX11_jumper_132 : decode cX11_jumper 132 = .ok (.aload_n 0, 1) := dK_c_162.2.2.1
theorem dX11_jumper_133 : decode cX11_jumper 133 = .ok (.iload_n 1, 1) := dK_c_162.2.2.2.1
theorem dX11_jumper_134 : decode cX11_jumper 134 = .ok (.invokevirtual 210, 3) := dK_c_162.2.2.2.2.1
theorem dX11_jumper_137 : decode cX11_jumper 137 = .ok (.ireturn, 1) := dK_c_162.2.2.2.2.2.1
theorem dX11_jumper_138 : decode cX11_jumper 138 = .ok (.aload_n 0, 1) := dK_c_162.2.2.2.2.2.2.1
theorem dX11_jumper_139 : decode cX11_jumper 139 = .ok (.iconst 0, 1) := dK_c_162.2.2.2.2.2.2.2.1
theorem dK_c_163 : dk_P cX11_jumper [(140, (.aload_n 0, 1)), (141, (.getfield 147, 3)), (144, (.invokevirtual 213, 3)), (147, (.aload_n 0, 1)), (148, (.getfield 68, 3)), (151, (.iload_n 1, 1)), (152, (.iaload, 1)), (153, (.ireturn, 1))] := dk_of 140 (by decide +kernel)
theorem dX11_jumper_140 : decode cX11_jumper 140 = .ok (.aload_n 0, 1) := dK_c_163.1
theorem dX11_jumper_141 : decode cX11_jumper 141 = .ok (.getfield 147, 3) := dK_c_163.2.1
theorem dX11_jumper_144 : decode cX11_jumper 144 = .ok (.invokevirtual 213, 3) := dK_c_163.2.2.1
theorem dX11_jumper_147 : decode cX11_jumper 147 = .ok (.aload_n 0, 1) := dK_c_163.2.2.2.1
theorem dX11_jumper_148 : decode cX11_jumper 148 = .ok (.getfield 68, 3) := dK_c_163.2.2.2.2.1
theorem dX11_jumper_151 : decode cX11_jumper 151 = .ok (.iload_n 1, 1) := dK_c_163.2.2.2.2.2.1
theorem dX11_jumper_152 : decode cX11_jumper 152 = .ok (.iaload, 1) := dK_c_163.2.2.2.2.2.2.1
theorem dX11_jumper_153 : decode cX11_jumper 153 = .ok (.ireturn, 1) := dK_c_163.2.2.2.2.2.2.2.1
theorem dK_c_164 : dk_P cX11_jumper [(154, (.aload_n 0, 1)), (155, (.iconst 0, 1)), (156, (.aload_n 0, 1)), (157, (.getfield 147, 3)), (160, (.invokevirtual 213, 3)), (163, (.aload_n 0, 1)), (164, (.getfield 71, 3)), (167, (.iload_n 1, 1))] := dk_of 154 (by decide +kernel)
theorem dX11_jumper_154 : decode cX11_jumper 154 = .ok (.aload_n 0, 1) := dK_c_164.1
theorem dX11_jumper_155 : decode cX11_jumper 155 = .ok (.iconst 0, 1) := dK_c_164.2.1
theorem dX11_jumper_156 : decode cX11_jumper 156 = .ok (.aload_n 0, 1) := dK_c_164.2.2.1
theorem dX11_jumper_157 : decode cX11_jumper 157 = .ok (.getfield 147, 3) := dK_c_164.2.2.2.1
theorem dX11_jumper_160 : decode cX11_jumper 160 = .ok (.invokevirtual 213, 3) := dK_c_164.2.2.2.2.1
theorem dX11_jumper_163 : decode cX11_jumper 163 = .ok (.aload_n 0, 1) := dK_c_164.2.2.2.2.2.1
theorem dX11_jumper_164 : decode cX11_jumper 164 = .ok (.getfield 71, 3) := dK_c_164.2.2.2.2.2.2.1
theorem dX11_jumper_167 : decode cX11_jumper 167 = .ok (.iload_n 1, 1) := dK_c_164.2.2.2.2.2.2.2.1
theorem dK_c_165 : dk_P cX11_jumper [(168, (.iaload, 1)), (169, (.ireturn, 1)), (170, (.aload_n 0, 1)), (171, (.iload_n 1, 1)), (172, (.invokevirtual 217, 3)), (175, (.ireturn, 1)), (176, (.aload_n 0, 1)), (177, (.bipush (-2), 2))] := dk_of 168 (by decide +kernel)
theorem dX11_jumper_168 : decode cX11_jumper 168 = .ok (.iaload, 1) := dK_c_165.1
theorem dX11_jumper_169 : decode cX11_jumper 169 = .ok (.ireturn, 1) := dK_c_165.2.1
theorem dX11_jumper_170 : decode cX11_jumper 170 = .ok (.aload_n 0, 1) := dK_c_165.2.2.1
theorem dX11_jumper_171 : decode cX11_jumper 171 = .ok (.iload_n 1, 1) := dK_c_165.2.2.2.1
theorem dX11_jumper_172 : decode cX11_jumper 172 = .ok (.invokevirtual 217, 3) := dK_c_165.2.2.2.2.1
theorem dX11_jumper_175 : decode cX11_jumper 175 = .ok (.ireturn, 1) := dK_c_165.2.2.2.2.2.1
theorem dX11_jumper_176 : decode cX11_jumper 176 = .ok (.aload_n 0, 1) := dK_c_165.2.2.2.2.2.2.1
theorem dX11_jumper_177 : decode cX11_jumper 177 = .ok (.bipush (-2), 2) := dK_c_165.2.2.2.2.2.2.2.1
theorem dK_c_166 : dk_P cX11_jumper [(179, (.invokevirtual 115, 3)), (182, (.ireturn, 1))] := dk_of 179 (by decide +kernel)
theorem dX11_jumper_179 : decode cX11_jumper 179 = .ok (.invokevirtual 115, 3) := dK_c_166.1
theorem dX11_jumper_182 : decode cX11_jumper 182 = .ok (.ireturn, 1) := dK_c_166.2.1
theorem dK_c_167 : dk_P cX11_mark [(0, (.aload_n 0, 1)), (1, (.iload_n 1, 1)), (2, (.invokevirtual 207, 3)), (5, (.ifCond .ne 7, 3)), (8, (.iconst (-1), 1)), (9, (.goto 11, 3)), (12, (.iload_n 2, 1)), (13, (.iconst 0, 1))] := dk_of 0 (by decide +kernel)
theorem dX11_mark_0 : decode cX11_mark 0 = .ok (.aload_n 0, 1) := dK_c_167.1
theorem dX11_mark_1 : decode cX11_mark 1 = .ok (.iload_n 1, 1) := dK_c_167.2.1
theorem dX11_mark_2 : decode cX11_mark 2 = .ok (.invokevirtual 207, 3) := dK_c_167.2.2.1
theorem dX11_mark_5 : decode cX11_mark 5 = .ok (.ifCond .ne 7, 3) := dK_c_167.2.2.2.1
theorem dX11_mark_8 : decode cX11_mark 8 = .ok (.iconst (-1), 1) := dK_c_167.2.2.2.2.1
theorem dX11_mark_9 : decode cX11_mark 9 = .ok (.goto 11, 3) := dK_c_167.2.2.2.2.2.1
theorem dX11_mark_12 : decode cX11_mark 12 = .ok (.iload_n 2, 1) := dK_c_167.2.2.2.2.2.2.1
theorem dX11_mark_13 : decode cX11_mark 13 = .ok (.iconst 0, 1) := dK_c_167.2.2.2.2.2.2.2.1
theorem dK_c_168 : dk_P cX11_mark [(14, (.sipush 2400, 3)), (17, (.invokestatic 108, 3)), (20, (.istore_n 3, 1)), (21, (.iload_n 3, 1)), (22, (.ifCond .eq 9, 3)), (25, (.aload_n 0, 1)), (26, (.iload_n 3, 1)), (27, (.invokevirtual 115, 3))] := dk_of 14 (by decide +kernel)
theorem dX11_mark_14 : decode cX11_mark 14 = .ok (.sipush 2400, 3) := dK_c_168.1
theorem dX11_mark_17 : decode cX11_mark 17 = .ok (.invokestatic 108, 3) := dK_c_168.2.1
theorem dX11_mark_20 : decode cX11_mark 20 = .ok (.istore_n 3, 1) := dK_c_168.2.2.1
theorem dX11_mark_21 : decode cX11_mark 21 = .ok (.iload_n 3, 1) := dK_c_168.2.2.2.1
theorem dX11_mark_22 : decode cX11_mark 22 = .ok (.ifCond .eq 9, 3) := dK_c_168.2.2.2.2.1
theorem dX11_mark_25 : decode cX11_mark 25 = .ok (.aload_n 0, 1) := dK_c_168.2.2.2.2.2.1
theorem dX11_mark_26 : decode cX11_mark 26 = .ok (.iload_n 3, 1) := dK_c_168.2.2.2.2.2.2.1
theorem dX11_mark_27 : decode cX11_mark 27 = .ok (.invokevirtual 115, 3) := dK_c_168.2.2.2.2.2.2.2.1
theorem dK_c_169 : dk_P cX11_mark [(30, (.ireturn, 1)), (31, (.aload_n 0, 1)), (32, (.getfield 34, 3)), (35, (.iload_n 1, 1)), (36, (.iaload, 1)), (37, (.istore 4, 2)), (39, (.aload_n 0, 1)), (40, (.getfield 34, 3))] := dk_of 30 (by decide +kernel)
theorem dX11_mark_30 : decode cX11_mark 30 = .ok (.ireturn, 1) := dK_c_169.1
theorem dX11_mark_31 : decode cX11_mark 31 = .ok (.aload_n 0, 1) := dK_c_169.2.1
theorem dX11_mark_32 : decode cX11_mark 32 = .ok (.getfield 34, 3) := dK_c_169.2.2.1
theorem dX11_mark_35 : decode cX11_mark 35 = .ok (.iload_n 1, 1) := dK_c_169.2.2.2.1
theorem dX11_mark_36 : decode cX11_mark 36 = .ok (.iaload, 1) := dK_c_169.2.2.2.2.1
theorem dX11_mark_37 : decode cX11_mark 37 = .ok (.istore 4, 2) := dK_c_169.2.2.2.2.2.1
theorem dX11_mark_39 : decode cX11_mark 39 = .ok (.aload_n 0, 1) := dK_c_169.2.2.2.2.2.2.1
theorem dX11_mark_40 : decode cX11_mark 40 = .ok (.getfield 34, 3) := dK_c_169.2.2.2.2.2.2.2.1
theorem dK_c_170 : dk_P cX11_mark [(43, (.iload_n 1, 1)), (44, (.iload_n 2, 1)), (45, (.iastore, 1)), (46, (.iload 4, 2)), (48, (.ireturn, 1))] := dk_of 43 (by decide +kernel)
theorem dX11_mark_43 : decode cX11_mark 43 = .ok (.iload_n 1, 1) := dK_c_170.1
theorem dX11_mark_44 : decode cX11_mark 44 = .ok (.iload_n 2, 1) := dK_c_170.2.1
theorem dX11_mark_45 : decode cX11_mark 45 = .ok (.iastore, 1) := dK_c_170.2.2.1
theorem dX11_mark_46 : decode cX11_mark 46 = .ok (.iload 4, 2) := dK_c_170.2.2.2.1
theorem dX11_mark_48 : decode cX11_mark 48 = .ok (.ireturn, 1) := dK_c_170.2.2.2.2.1
theorem dK_c_171 : dk_P cX11_look [(0, (.aload_n 0, 1)), (1, (.iload_n 1, 1)), (2, (.invokevirtual 207, 3)), (5, (.ifCond .ne 7, 3)), (8, (.iconst (-1), 1)), (9, (.goto 9, 3)), (12, (.iload_n 2, 1)), (13, (.iconst 0, 1))] := dk_of 0 (by decide +kernel)
theorem dX11_look_0 : decode cX11_look 0 = .ok (.aload_n 0, 1) := dK_c_171.1
theorem dX11_look_1 : decode cX11_look 1 = .ok (.iload_n 1, 1) := dK_c_171.2.1
theorem dX11_look_2 : decode cX11_look 2 = .ok (.invokevirtual 207, 3) := dK_c_171.2.2.1
theorem dX11_look_5 : decode cX11_look 5 = .ok (.ifCond .ne 7, 3) := dK_c_171.2.2.2.1
theorem dX11_look_8 : decode cX11_look 8 = .ok (.iconst (-1), 1) := dK_c_171.2.2.2.2.1
theorem dX11_look_9 : decode cX11_look 9 = .ok (.goto 9, 3) := dK_c_171.2.2.2.2.2.1
theorem dX11_look_12 : decode cX11_look 12 = .ok (.iload_n 2, 1) := dK_c_171.2.2.2.2.2.2.1
theorem dX11_look_13 : decode cX11_look 13 = .ok (.iconst 0, 1) := dK_c_171.2.2.2.2.2.2.2.1
theorem dK_c_172 : dk_P cX11_look [(14, (.iconst 4, 1)), (15, (.invokestatic 108, 3)), (18, (.istore_n 3, 1)), (19, (.iload_n 3, 1)), (20, (.ifCond .eq 9, 3)), (23, (.aload_n 0, 1)), (24, (.iload_n 3, 1)), (25, (.invokevirtual 115, 3))] := dk_of 14 (by decide +kernel)
theorem dX11_look_14 : decode cX11_look 14 = .ok (.iconst 4, 1) := dK_c_172.1
theorem dX11_look_15 : decode cX11_look 15 = .ok (.invokestatic 108, 3) := dK_c_172.2.1
theorem dX11_look_18 : decode cX11_look 18 = .ok (.istore_n 3, 1) := dK_c_172.2.2.1
theorem dX11_look_19 : decode cX11_look 19 = .ok (.iload_n 3, 1) := dK_c_172.2.2.2.1
theorem dX11_look_20 : decode cX11_look 20 = .ok (.ifCond .eq 9, 3) := dK_c_172.2.2.2.2.1
theorem dX11_look_23 : decode cX11_look 23 = .ok (.aload_n 0, 1) := dK_c_172.2.2.2.2.2.1
theorem dX11_look_24 : decode cX11_look 24 = .ok (.iload_n 3, 1) := dK_c_172.2.2.2.2.2.2.1
theorem dX11_look_25 : decode cX11_look 25 = .ok (.invokevirtual 115, 3) := dK_c_172.2.2.2.2.2.2.2.1
theorem dK_c_173 : dk_P cX11_look [(28, (.ireturn, 1)), (29, (.aload_n 0, 1)), (30, (.getfield 31, 3)), (33, (.iload_n 1, 1)), (34, (.iaload, 1)), (35, (.istore 4, 2)), (37, (.aload_n 0, 1)), (38, (.getfield 31, 3))] := dk_of 28 (by decide +kernel)
theorem dX11_look_28 : decode cX11_look 28 = .ok (.ireturn, 1) := dK_c_173.1
theorem dX11_look_29 : decode cX11_look 29 = .ok (.aload_n 0, 1) := dK_c_173.2.1
theorem dX11_look_30 : decode cX11_look 30 = .ok (.getfield 31, 3) := dK_c_173.2.2.1
theorem dX11_look_33 : decode cX11_look 33 = .ok (.iload_n 1, 1) := dK_c_173.2.2.2.1
theorem dX11_look_34 : decode cX11_look 34 = .ok (.iaload, 1) := dK_c_173.2.2.2.2.1
theorem dX11_look_35 : decode cX11_look 35 = .ok (.istore 4, 2) := dK_c_173.2.2.2.2.2.1
theorem dX11_look_37 : decode cX11_look 37 = .ok (.aload_n 0, 1) := dK_c_173.2.2.2.2.2.2.1
theorem dX11_look_38 : decode cX11_look 38 = .ok (.getfield 31, 3) := dK_c_173.2.2.2.2.2.2.2.1
theorem dK_c_174 : dk_P cX11_look [(41, (.iload_n 1, 1)), (42, (.iload_n 2, 1)), (43, (.iastore, 1)), (44, (.iload 4, 2)), (46, (.ireturn, 1))] := dk_of 41 (by decide +kernel)
theorem dX11_look_41 : decode cX11_look 41 = .ok (.iload_n 1, 1) := dK_c_174.1
theorem dX11_look_42 : decode cX11_look 42 = .ok (.iload_n 2, 1) := dK_c_174.2.1
theorem dX11_look_43 : decode cX11_look 43 = .ok (.iastore, 1) := dK_c_174.2.2.1
theorem dX11_look_44 : decode cX11_look 44 = .ok (.iload 4, 2) := dK_c_174.2.2.2.1
theorem dX11_look_46 : decode cX11_look 46 = .ok (.ireturn, 1) := dK_c_174.2.2.2.2.1
theorem dK_c_175 : dk_P cX11_set [(0, (.iload_n 1, 1)), (1, (.iconst 0, 1)), (2, (.iconst 1, 1)), (3, (.invokestatic 126, 3)), (6, (.ifCond .ne 8, 3)), (9, (.bipush (-2), 2)), (11, (.goto 26, 3)), (14, (.iload_n 2, 1))] := dk_of 0 (by decide +kernel)
theorem dX11_set_0 : decode cX11_set 0 = .ok (.iload_n 1, 1) := dK_c_175.1
theorem dX11_set_1 : decode cX11_set 1 = .ok (.iconst 0, 1) := dK_c_175.2.1
theorem dX11_set_2 : decode cX11_set 2 = .ok (.iconst 1, 1) := dK_c_175.2.2.1
theorem dX11_set_3 : decode cX11_set 3 = .ok (.invokestatic 126, 3) := dK_c_175.2.2.2.1
theorem dX11_set_6 : decode cX11_set 6 = .ok (.ifCond .ne 8, 3) := dK_c_175.2.2.2.2.1
theorem dX11_set_9 : decode cX11_set 9 = .ok (.bipush (-2), 2) := dK_c_175.2.2.2.2.2.1
theorem dX11_set_11 : decode cX11_set 11 = .ok (.goto 26, 3) := dK_c_175.2.2.2.2.2.2.1
theorem dX11_set_14 : decode cX11_set 14 = .ok (.iload_n 2, 1) := dK_c_175.2.2.2.2.2.2.2.1
theorem dK_c_176 : dk_P cX11_set [(15, (.iload_n 1, 1)), (16, (.ifCond .ne 7, 3)), (19, (.iconst 4, 1)), (20, (.goto 4, 3)), (23, (.iconst 1, 1)), (24, (.iload_n 1, 1)), (25, (.ifCond .ne 8, 3)), (28, (.bipush 20, 2))] := dk_of 15 (by decide +kernel)
theorem dX11_set_15 : decode cX11_set 15 = .ok (.iload_n 1, 1) := dK_c_176.1
theorem dX11_set_16 : decode cX11_set 16 = .ok (.ifCond .ne 7, 3) := dK_c_176.2.1
theorem dX11_set_19 : decode cX11_set 19 = .ok (.iconst 4, 1) := dK_c_176.2.2.1
theorem dX11_set_20 : decode cX11_set 20 = .ok (.goto 4, 3) := dK_c_176.2.2.2.1
theorem dX11_set_23 : decode cX11_set 23 = .ok (.iconst 1, 1) := dK_c_176.2.2.2.2.1
theorem dX11_set_24 : decode cX11_set 24 = .ok (.iload_n 1, 1) := dK_c_176.2.2.2.2.2.1
theorem dX11_set_25 : decode cX11_set 25 = .ok (.ifCond .ne 8, 3) := dK_c_176.2.2.2.2.2.2.1
theorem dX11_set_28 : decode cX11_set 28 = .ok (.bipush 20, 2) := dK_c_176.2.2.2.2.2.2.2.1
theorem dK_c_177 : dk_P cX11_set [(30, (.goto 4, 3)), (33, (.iconst 4, 1)), (34, (.invokestatic 108, 3)), (37, (.istore_n 3, 1)), (38, (.iload_n 3, 1)), (39, (.ifCond .ne 13, 3)), (42, (.aload_n 0, 1)), (43, (.getfield 147, 3))] := dk_of 30 (by decide +kernel)
theorem dX11_set_30 : decode cX11_set 30 = .ok (.goto 4, 3) := dK_c_177.1
theorem dX11_set_33 : decode cX11_set 33 = .ok (.iconst 4, 1) := dK_c_177.2.1
theorem dX11_set_34 : decode cX11_set 34 = .ok (.invokestatic 108, 3) := dK_c_177.2.2.1
theorem dX11_set_37 : decode cX11_set 37 = .ok (.istore_n 3, 1) := dK_c_177.2.2.2.1
theorem dX11_set_38 : decode cX11_set 38 = .ok (.iload_n 3, 1) := dK_c_177.2.2.2.2.1
theorem dX11_set_39 : decode cX11_set 39 = .ok (.ifCond .ne 13, 3) := dK_c_177.2.2.2.2.2.1
theorem dX11_set_42 : decode cX11_set 42 = .ok (.aload_n 0, 1) := dK_c_177.2.2.2.2.2.2.1
theorem dX11_set_43 : decode cX11_set 43 = .ok (.getfield 147, 3) := dK_c_177.2.2.2.2.2.2.2.1
theorem dK_c_178 : dk_P cX11_set [(46, (.ifCond .le 6, 3)), (49, (.bipush (-3), 2)), (51, (.istore_n 3, 1)), (52, (.iload_n 3, 1)), (53, (.ifCond .eq 9, 3)), (56, (.aload_n 0, 1)), (57, (.iload_n 3, 1)), (58, (.invokevirtual 115, 3))] := dk_of 46 (by decide +kernel)
theorem dX11_set_46 : decode cX11_set 46 = .ok (.ifCond .le 6, 3) := dK_c_178.1
theorem dX11_set_49 : decode cX11_set 49 = .ok (.bipush (-3), 2) := dK_c_178.2.1
theorem dX11_set_51 : decode cX11_set 51 = .ok (.istore_n 3, 1) := dK_c_178.2.2.1
theorem dX11_set_52 : decode cX11_set 52 = .ok (.iload_n 3, 1) := dK_c_178.2.2.2.1
theorem dX11_set_53 : decode cX11_set 53 = .ok (.ifCond .eq 9, 3) := dK_c_178.2.2.2.2.1
theorem dX11_set_56 : decode cX11_set 56 = .ok (.aload_n 0, 1) := dK_c_178.2.2.2.2.2.1
theorem dX11_set_57 : decode cX11_set 57 = .ok (.iload_n 3, 1) := dK_c_178.2.2.2.2.2.2.1
theorem dX11_set_58 : decode cX11_set 58 = .ok (.invokevirtual 115, 3) := dK_c_178.2.2.2.2.2.2.2.1
theorem dK_c_179 : dk_P cX11_set [(61, (.ireturn, 1)), (62, (.iload_n 1, 1)), (63, (.ifCond .ne 10, 3)), (66, (.aload_n 0, 1)), (67, (.getfield 95, 3)), (70, (.goto 7, 3)), (73, (.aload_n 0, 1)), (74, (.getfield 99, 3))] := dk_of 61 (by decide +kernel)
theorem dX11_set_61 : decode cX11_set 61 = .ok (.ireturn, 1) := dK_c_179.1
theorem dX11_set_62 : decode cX11_set 62 = .ok (.iload_n 1, 1) := dK_c_179.2.1
theorem dX11_set_63 : decode cX11_set 63 = .ok (.ifCond .ne 10, 3) := dK_c_179.2.2.1
theorem dX11_set_66 : decode cX11_set 66 = .ok (.aload_n 0, 1) := dK_c_179.2.2.2.1
theorem dX11_set_67 : decode cX11_set 67 = .ok (.getfield 95, 3) := dK_c_179.2.2.2.2.1
theorem dX11_set_70 : decode cX11_set 70 = .ok (.goto 7, 3) := dK_c_179.2.2.2.2.2.1
theorem dX11_set_73 : decode cX11_set 73 = .ok (.aload_n 0, 1) := dK_c_179.2.2.2.2.2.2.1
theorem dX11_set_74 : decode cX11_set 74 = .ok (.getfield 99, 3) := dK_c_179.2.2.2.2.2.2.2.1
theorem dK_c_180 : dk_P cX11_set [(77, (.istore 4, 2)), (79, (.aload_n 0, 1)), (80, (.iload_n 1, 1)), (81, (.ifCond .ne 7, 3)), (84, (.iload_n 2, 1)), (85, (.goto 7, 3)), (88, (.aload_n 0, 1)), (89, (.getfield 95, 3))] := dk_of 77 (by decide +kernel)
theorem dX11_set_77 : decode cX11_set 77 = .ok (.istore 4, 2) := dK_c_180.1
theorem dX11_set_79 : decode cX11_set 79 = .ok (.aload_n 0, 1) := dK_c_180.2.1
theorem dX11_set_80 : decode cX11_set 80 = .ok (.iload_n 1, 1) := dK_c_180.2.2.1
theorem dX11_set_81 : decode cX11_set 81 = .ok (.ifCond .ne 7, 3) := dK_c_180.2.2.2.1
theorem dX11_set_84 : decode cX11_set 84 = .ok (.iload_n 2, 1) := dK_c_180.2.2.2.2.1
theorem dX11_set_85 : decode cX11_set 85 = .ok (.goto 7, 3) := dK_c_180.2.2.2.2.2.1
theorem dX11_set_88 : decode cX11_set 88 = .ok (.aload_n 0, 1) := dK_c_180.2.2.2.2.2.2.1
theorem dX11_set_89 : decode cX11_set 89 = .ok (.getfield 95, 3) := dK_c_180.2.2.2.2.2.2.2.1
theorem dK_c_181 : dk_P cX11_set [(92, (.putfield 95, 3)), (95, (.aload_n 0, 1)), (96, (.iload_n 1, 1)), (97, (.iconst 1, 1)), (98, (.if_icmp .ne 7, 3)), (101, (.iload_n 2, 1)), (102, (.goto 7, 3)), (105, (.aload_n 0, 1))] := dk_of 92 (by decide +kernel)
theorem dX11_set_92 : decode cX11_set 92 = .ok (.putfield 95, 3) := dK_c_181.1
theorem dX11_set_95 : decode cX11_set 95 = .ok (.aload_n 0, 1) := dK_c_181.2.1
theorem dX11_set_96 : decode cX11_set 96 = .ok (.iload_n 1, 1) := dK_c_181.2.2.1
theorem dX11_set_97 : decode cX11_set 97 = .ok (.iconst 1, 1) := dK_c_181.2.2.2.1
theorem dX11_set_98 : decode cX11_set 98 = .ok (.if_icmp .ne 7, 3) := dK_c_181.2.2.2.2.1
theorem dX11_set_101 : decode cX11_set 101 = .ok (.iload_n 2, 1) := dK_c_181.2.2.2.2.2.1
theorem dX11_set_102 : decode cX11_set 102 = .ok (.goto 7, 3) := dK_c_181.2.2.2.2.2.2.1
theorem dX11_set_105 : decode cX11_set 105 = .ok (.aload_n 0, 1) := dK_c_181.2.2.2.2.2.2.2.1
theorem dK_c_182 : dk_P cX11_set [(106, (.getfield 99, 3)), (109, (.putfield 99, 3)), (112, (.iload 4, 2)), (114, (.ireturn, 1))] := dk_of 106 (by decide +kernel)
theorem dX11_set_106 : decode cX11_set 106 = .ok (.getfield 99, 3) := dK_c_182.1
theorem dX11_set_109 : decode cX11_set 109 = .ok (.putfield 99, 3) := dK_c_182.2.1
theorem dX11_set_112 : decode cX11_set 112 = .ok (.iload 4, 2) := dK_c_182.2.2.1
theorem dX11_set_114 : decode cX11_set 114 = .ok (.ireturn, 1) := dK_c_182.2.2.2.1
theorem dK_c_183 : dk_P cX11_wind [(0, (.iload_n 1, 1)), (1, (.bipush (-9), 2)), (3, (.bipush 9, 2)), (5, (.invokestatic 108, 3)), (8, (.istore_n 2, 1)), (9, (.iload_n 2, 1)), (10, (.ifCond .eq 9, 3)), (13, (.aload_n 0, 1))] := dk_of 0 (by decide +kernel)
theorem dX11_wind_0 : decode cX11_wind 0 = .ok (.iload_n 1, 1) := dK_c_183.1
theorem dX11_wind_1 : decode cX11_wind 1 = .ok (.bipush (-9), 2) := dK_c_183.2.1
theorem dX11_wind_3 : decode cX11_wind 3 = .ok (.bipush 9, 2) := dK_c_183.2.2.1
theorem dX11_wind_5 : decode cX11_wind 5 = .ok (.invokestatic 108, 3) := dK_c_183.2.2.2.1
theorem dX11_wind_8 : decode cX11_wind 8 = .ok (.istore_n 2, 1) := dK_c_183.2.2.2.2.1
theorem dX11_wind_9 : decode cX11_wind 9 = .ok (.iload_n 2, 1) := dK_c_183.2.2.2.2.2.1
theorem dX11_wind_10 : decode cX11_wind 10 = .ok (.ifCond .eq 9, 3) := dK_c_183.2.2.2.2.2.2.1
theorem dX11_wind_13 : decode cX11_wind 13 = .ok (.aload_n 0, 1) := dK_c_183.2.2.2.2.2.2.2.1
theorem dK_c_184 : dk_P cX11_wind [(14, (.iload_n 2, 1)), (15, (.invokevirtual 220, 3)), (18, (.ireturn, 1)), (19, (.aload_n 0, 1)), (20, (.getfield 157, 3)), (23, (.istore_n 3, 1)), (24, (.aload_n 0, 1)), (25, (.iload_n 1, 1))] := dk_of 14 (by decide +kernel)
theorem dX11_wind_14 : decode cX11_wind 14 = .ok (.iload_n 2, 1) := dK_c_184.1
theorem dX11_wind_15 : decode cX11_wind 15 = .ok (.invokevirtual 220, 3) := dK_c_184.2.1
theorem dX11_wind_18 : decode cX11_wind 18 = .ok (.ireturn, 1) := dK_c_184.2.2.1
theorem dX11_wind_19 : decode cX11_wind 19 = .ok (.aload_n 0, 1) := dK_c_184.2.2.2.1
theorem dX11_wind_20 : decode cX11_wind 20 = .ok (.getfield 157, 3) := dK_c_184.2.2.2.2.1
theorem dX11_wind_23 : decode cX11_wind 23 = .ok (.istore_n 3, 1) := dK_c_184.2.2.2.2.2.1
theorem dX11_wind_24 : decode cX11_wind 24 = .ok (.aload_n 0, 1) := dK_c_184.2.2.2.2.2.2.1
theorem dX11_wind_25 : decode cX11_wind 25 = .ok (.iload_n 1, 1) := dK_c_184.2.2.2.2.2.2.2.1
theorem dK_c_185 : dk_P cX11_wind [(26, (.putfield 157, 3)), (29, (.iload_n 3, 1)), (30, (.ireturn, 1))] := dk_of 26 (by decide +kernel)
theorem dX11_wind_26 : decode cX11_wind 26 = .ok (.putfield 157, 3) := dK_c_185.1
theorem dX11_wind_29 : decode cX11_wind 29 = .ok (.iload_n 3, 1) := dK_c_185.2.1
theorem dX11_wind_30 : decode cX11_wind 30 = .ok (.ireturn, 1) := dK_c_185.2.2.1
theorem dK_c_186 : dk_P cX11_stride [(0, (.aload_n 0, 1)), (1, (.iload_n 1, 1)), (2, (.invokevirtual 207, 3)), (5, (.ifCond .ne 7, 3)), (8, (.iconst (-1), 1)), (9, (.goto 14, 3)), (12, (.iload_n 2, 1)), (13, (.iconst 0, 1))] := dk_of 0 (by decide +kernel)
theorem dX11_stride_0 : decode cX11_stride 0 = .ok (.aload_n 0, 1) := dK_c_186.1
theorem dX11_stride_1 : decode cX11_stride 1 = .ok (.iload_n 1, 1) := dK_c_186.2.1
theorem dX11_stride_2 : decode cX11_stride 2 = .ok (.invokevirtual 207, 3) := dK_c_186.2.2.1
theorem dX11_stride_5 : decode cX11_stride 5 = .ok (.ifCond .ne 7, 3) := dK_c_186.2.2.2.1
theorem dX11_stride_8 : decode cX11_stride 8 = .ok (.iconst (-1), 1) := dK_c_186.2.2.2.2.1
theorem dX11_stride_9 : decode cX11_stride 9 = .ok (.goto 14, 3) := dK_c_186.2.2.2.2.2.1
theorem dX11_stride_12 : decode cX11_stride 12 = .ok (.iload_n 2, 1) := dK_c_186.2.2.2.2.2.2.1
theorem dX11_stride_13 : decode cX11_stride 13 = .ok (.iconst 0, 1) := dK_c_186.2.2.2.2.2.2.2.1
theorem dK_c_187 : dk_P cX11_stride [(14, (.aload_n 0, 1)), (15, (.getfield 95, 3)), (18, (.iconst 1, 1)), (19, (.isub, 1)), (20, (.invokestatic 108, 3)), (23, (.istore_n 3, 1)), (24, (.iload_n 3, 1)), (25, (.ifCond .eq 11, 3))] := dk_of 14 (by decide +kernel)
theorem dX11_stride_14 : decode cX11_stride 14 = .ok (.aload_n 0, 1) := dK_c_187.1
theorem dX11_stride_15 : decode cX11_stride 15 = .ok (.getfield 95, 3) := dK_c_187.2.1
theorem dX11_stride_18 : decode cX11_stride 18 = .ok (.iconst 1, 1) := dK_c_187.2.2.1
theorem dX11_stride_19 : decode cX11_stride 19 = .ok (.isub, 1) := dK_c_187.2.2.2.1
theorem dX11_stride_20 : decode cX11_stride 20 = .ok (.invokestatic 108, 3) := dK_c_187.2.2.2.2.1
theorem dX11_stride_23 : decode cX11_stride 23 = .ok (.istore_n 3, 1) := dK_c_187.2.2.2.2.2.1
theorem dX11_stride_24 : decode cX11_stride 24 = .ok (.iload_n 3, 1) := dK_c_187.2.2.2.2.2.2.1
theorem dX11_stride_25 : decode cX11_stride 25 = .ok (.ifCond .eq 11, 3) := dK_c_187.2.2.2.2.2.2.2.1
theorem dK_c_188 : dk_P cX11_stride [(28, (.aload_n 0, 1)), (29, (.iload_n 3, 1)), (30, (.invokevirtual 115, 3)), (33, (.goto 13, 3)), (36, (.aload_n 0, 1)), (37, (.iload_n 1, 1)), (38, (.iload_n 2, 1)), (39, (.aload_n 0, 1))] := dk_of 28 (by decide +kernel)
theorem dX11_stride_28 : decode cX11_stride 28 = .ok (.aload_n 0, 1) := dK_c_188.1
theorem dX11_stride_29 : decode cX11_stride 29 = .ok (.iload_n 3, 1) := dK_c_188.2.1
theorem dX11_stride_30 : decode cX11_stride 30 = .ok (.invokevirtual 115, 3) := dK_c_188.2.2.1
theorem dX11_stride_33 : decode cX11_stride 33 = .ok (.goto 13, 3) := dK_c_188.2.2.2.1
theorem dX11_stride_36 : decode cX11_stride 36 = .ok (.aload_n 0, 1) := dK_c_188.2.2.2.2.1
theorem dX11_stride_37 : decode cX11_stride 37 = .ok (.iload_n 1, 1) := dK_c_188.2.2.2.2.2.1
theorem dX11_stride_38 : decode cX11_stride 38 = .ok (.iload_n 2, 1) := dK_c_188.2.2.2.2.2.2.1
theorem dX11_stride_39 : decode cX11_stride 39 = .ok (.aload_n 0, 1) := dK_c_188.2.2.2.2.2.2.2.1
theorem dK_c_189 : dk_P cX11_stride [(40, (.getfield 157, 3)), (43, (.invokevirtual 197, 3)), (46, (.ireturn, 1))] := dk_of 40 (by decide +kernel)
theorem dX11_stride_40 : decode cX11_stride 40 = .ok (.getfield 157, 3) := dK_c_189.1
theorem dX11_stride_43 : decode cX11_stride 43 = .ok (.invokevirtual 197, 3) := dK_c_189.2.1
theorem dX11_stride_46 : decode cX11_stride 46 = .ok (.ireturn, 1) := dK_c_189.2.2.1
theorem dK_c_190 : dk_P cX11_place [(0, (.aload_n 0, 1)), (1, (.iload_n 1, 1)), (2, (.invokevirtual 207, 3)), (5, (.ifCond .eq 11, 3)), (8, (.aload_n 0, 1)), (9, (.iload_n 1, 1)), (10, (.invokevirtual 223, 3)), (13, (.goto 8, 3))] := dk_of 0 (by decide +kernel)
theorem dX11_place_0 : decode cX11_place 0 = .ok (.aload_n 0, 1) := dK_c_190.1
theorem dX11_place_1 : decode cX11_place 1 = .ok (.iload_n 1, 1) := dK_c_190.2.1
theorem dX11_place_2 : decode cX11_place 2 = .ok (.invokevirtual 207, 3) := dK_c_190.2.2.1
theorem dX11_place_5 : decode cX11_place 5 = .ok (.ifCond .eq 11, 3) := dK_c_190.2.2.2.1
theorem dX11_place_8 : decode cX11_place 8 = .ok (.aload_n 0, 1) := dK_c_190.2.2.2.2.1
theorem dX11_place_9 : decode cX11_place 9 = .ok (.iload_n 1, 1) := dK_c_190.2.2.2.2.2.1
theorem dX11_place_10 : decode cX11_place 10 = .ok (.invokevirtual 223, 3) := dK_c_190.2.2.2.2.2.2.1
theorem dX11_place_13 : decode cX11_place 13 = .ok (.goto 8, 3) := dK_c_190.2.2.2.2.2.2.2.1
theorem dK_c_191 : dk_P cX11_place [(16, (.aload_n 0, 1)), (17, (.iconst (-1), 1)), (18, (.invokevirtual 220, 3)), (21, (.ireturn, 1))] := dk_of 16 (by decide +kernel)
theorem dX11_place_16 : decode cX11_place 16 = .ok (.aload_n 0, 1) := dK_c_191.1
theorem dX11_place_17 : decode cX11_place 17 = .ok (.iconst (-1), 1) := dK_c_191.2.1
theorem dX11_place_18 : decode cX11_place 18 = .ok (.invokevirtual 220, 3) := dK_c_191.2.2.1
theorem dX11_place_21 : decode cX11_place 21 = .ok (.ireturn, 1) := dK_c_191.2.2.2.1
theorem dK_c_192 : dk_P cX11_length [(0, (.aload_n 0, 1)), (1, (.iload_n 1, 1)), (2, (.invokevirtual 207, 3)), (5, (.ifCond .ne 7, 3)), (8, (.iconst (-1), 1)), (9, (.goto 35, 3)), (12, (.iload_n 2, 1)), (13, (.ifCond .lt 7, 3))] := dk_of 0 (by decide +kernel)
theorem dX11_length_0 : decode cX11_length 0 = .ok (.aload_n 0, 1) := dK_c_192.1
theorem dX11_length_1 : decode cX11_length 1 = .ok (.iload_n 1, 1) := dK_c_192.2.1
theorem dX11_length_2 : decode cX11_length 2 = .ok (.invokevirtual 207, 3) := dK_c_192.2.2.1
theorem dX11_length_5 : decode cX11_length 5 = .ok (.ifCond .ne 7, 3) := dK_c_192.2.2.2.1
theorem dX11_length_8 : decode cX11_length 8 = .ok (.iconst (-1), 1) := dK_c_192.2.2.2.2.1
theorem dX11_length_9 : decode cX11_length 9 = .ok (.goto 35, 3) := dK_c_192.2.2.2.2.2.1
theorem dX11_length_12 : decode cX11_length 12 = .ok (.iload_n 2, 1) := dK_c_192.2.2.2.2.2.2.1
theorem dX11_length_13 : decode cX11_length 13 = .ok (.ifCond .lt 7, 3) := dK_c_192.2.2.2.2.2.2.2.1
theorem dK_c_193 : dk_P cX11_length [(16, (.iload_n 3, 1)), (17, (.ifCond .ge 8, 3)), (20, (.bipush (-4), 2)), (22, (.goto 22, 3)), (25, (.iload_n 2, 1)), (26, (.sipush 300, 3)), (29, (.if_icmp .gt 9, 3)), (32, (.iload_n 3, 1))] := dk_of 16 (by decide +kernel)
theorem dX11_length_16 : decode cX11_length 16 = .ok (.iload_n 3, 1) := dK_c_193.1
theorem dX11_length_17 : decode cX11_length 17 = .ok (.ifCond .ge 8, 3) := dK_c_193.2.1
theorem dX11_length_20 : decode cX11_length 20 = .ok (.bipush (-4), 2) := dK_c_193.2.2.1
theorem dX11_length_22 : decode cX11_length 22 = .ok (.goto 22, 3) := dK_c_193.2.2.2.1
theorem dX11_length_25 : decode cX11_length 25 = .ok (.iload_n 2, 1) := dK_c_193.2.2.2.2.1
theorem dX11_length_26 : decode cX11_length 26 = .ok (.sipush 300, 3) := dK_c_193.2.2.2.2.2.1
theorem dX11_length_29 : decode cX11_length 29 = .ok (.if_icmp .gt 9, 3) := dK_c_193.2.2.2.2.2.2.1
theorem dX11_length_32 : decode cX11_length 32 = .ok (.iload_n 3, 1) := dK_c_193.2.2.2.2.2.2.2.1
theorem dK_c_194 : dk_P cX11_length [(33, (.bipush 99, 2)), (35, (.if_icmp .le 8, 3)), (38, (.bipush (-6), 2)), (40, (.goto 4, 3)), (43, (.iconst 0, 1)), (44, (.istore 4, 2)), (46, (.iload 4, 2)), (48, (.ifCond .eq 12, 3))] := dk_of 33 (by decide +kernel)
theorem dX11_length_33 : decode cX11_length 33 = .ok (.bipush 99, 2) := dK_c_194.1
theorem dX11_length_35 : decode cX11_length 35 = .ok (.if_icmp .le 8, 3) := dK_c_194.2.1
theorem dX11_length_38 : decode cX11_length 38 = .ok (.bipush (-6), 2) := dK_c_194.2.2.1
theorem dX11_length_40 : decode cX11_length 40 = .ok (.goto 4, 3) := dK_c_194.2.2.2.1
theorem dX11_length_43 : decode cX11_length 43 = .ok (.iconst 0, 1) := dK_c_194.2.2.2.2.1
theorem dX11_length_44 : decode cX11_length 44 = .ok (.istore 4, 2) := dK_c_194.2.2.2.2.2.1
theorem dX11_length_46 : decode cX11_length 46 = .ok (.iload 4, 2) := dK_c_194.2.2.2.2.2.2.1
theorem dX11_length_48 : decode cX11_length 48 = .ok (.ifCond .eq 12, 3) := dK_c_194.2.2.2.2.2.2.2.1
theorem dK_c_195 : dk_P cX11_length [(51, (.aload_n 0, 1)), (52, (.iload 4, 2)), (54, (.invokevirtual 115, 3)), (57, (.goto 10, 3)), (60, (.aload_n 0, 1)), (61, (.iload_n 1, 1)), (62, (.iload_n 2, 1)), (63, (.iload_n 3, 1))] := dk_of 51 (by decide +kernel)
theorem dX11_length_51 : decode cX11_length 51 = .ok (.aload_n 0, 1) := dK_c_195.1
theorem dX11_length_52 : decode cX11_length 52 = .ok (.iload 4, 2) := dK_c_195.2.1
theorem dX11_length_54 : decode cX11_length 54 = .ok (.invokevirtual 115, 3) := dK_c_195.2.2.1
theorem dX11_length_57 : decode cX11_length 57 = .ok (.goto 10, 3) := dK_c_195.2.2.2.1
theorem dX11_length_60 : decode cX11_length 60 = .ok (.aload_n 0, 1) := dK_c_195.2.2.2.2.1
theorem dX11_length_61 : decode cX11_length 61 = .ok (.iload_n 1, 1) := dK_c_195.2.2.2.2.2.1
theorem dX11_length_62 : decode cX11_length 62 = .ok (.iload_n 2, 1) := dK_c_195.2.2.2.2.2.2.1
theorem dX11_length_63 : decode cX11_length 63 = .ok (.iload_n 3, 1) := dK_c_195.2.2.2.2.2.2.2.1
theorem dK_c_196 : dk_P cX11_length [(64, (.invokevirtual 163, 3)), (67, (.ireturn, 1))] := dk_of 64 (by decide +kernel)
theorem dX11_length_64 : decode cX11_length 64 = .ok (.invokevirtual 163, 3) := dK_c_196.1
theorem dX11_length_67 : decode cX11_length 67 = .ok (.ireturn, 1) := dK_c_196.2.1
theorem dK_c_197 : dk_P cX11_findWays [(0, (.iconst 0, 1)), (1, (.istore_n 2, 1)), (2, (.iload_n 2, 1)), (3, (.aload_n 0, 1)), (4, (.arraylength, 1)), (5, (.if_icmp .ge 23, 3)), (8, (.aload_n 0, 1)), (9, (.iload_n 2, 1))] := dk_of 0 (by decide +kernel)
theorem dX11_findWays_0 : decode cX11_findWays 0 = .ok (.iconst 0, 1) := dK_c_197.1
theorem dX11_findWays_1 : decode cX11_findWays 1 = .ok (.istore_n 2, 1) := dK_c_197.2.1
theorem dX11_findWays_2 : decode cX11_findWays 2 = .ok (.iload_n 2, 1) := dK_c_197.2.2.1
theorem dX11_findWays_3 : decode cX11_findWays 3 = .ok (.aload_n 0, 1) := dK_c_197.2.2.2.1
theorem dX11_findWays_4 : decode cX11_findWays 4 = .ok (.arraylength, 1) := dK_c_197.2.2.2.2.1
theorem dX11_findWays_5 : decode cX11_findWays 5 = .ok (.if_icmp .ge 23, 3) := dK_c_197.2.2.2.2.2.1
theorem dX11_findWays_8 : decode cX11_findWays 8 = .ok (.aload_n 0, 1) := dK_c_197.2.2.2.2.2.2.1
theorem dX11_findWays_9 : decode cX11_findWays 9 = .ok (.iload_n 2, 1) := dK_c_197.2.2.2.2.2.2.2.1
theorem dK_c_198 : dk_P cX11_findWays [(10, (.iload_n 2, 1)), (11, (.bipush 20, 2)), (13, (.if_icmp .ne 7, 3)), (16, (.lconst 1, 1)), (17, (.goto 4, 3)), (20, (.lconst 0, 1)), (21, (.lastore, 1)), (22, (.iinc 2 1, 3))] := dk_of 10 (by decide +kernel)
theorem dX11_findWays_10 : decode cX11_findWays 10 = .ok (.iload_n 2, 1) := dK_c_198.1
theorem dX11_findWays_11 : decode cX11_findWays 11 = .ok (.bipush 20, 2) := dK_c_198.2.1
theorem dX11_findWays_13 : decode cX11_findWays 13 = .ok (.if_icmp .ne 7, 3) := dK_c_198.2.2.1
theorem dX11_findWays_16 : decode cX11_findWays 16 = .ok (.lconst 1, 1) := dK_c_198.2.2.2.1
theorem dX11_findWays_17 : decode cX11_findWays 17 = .ok (.goto 4, 3) := dK_c_198.2.2.2.2.1
theorem dX11_findWays_20 : decode cX11_findWays 20 = .ok (.lconst 0, 1) := dK_c_198.2.2.2.2.2.1
theorem dX11_findWays_21 : decode cX11_findWays 21 = .ok (.lastore, 1) := dK_c_198.2.2.2.2.2.2.1
theorem dX11_findWays_22 : decode cX11_findWays 22 = .ok (.iinc 2 1, 3) := dK_c_198.2.2.2.2.2.2.2.1
theorem dK_c_199 : dk_P cX11_findWays [(25, (.goto (-23), 3)), (28, (.iconst 0, 1)), (29, (.istore_n 2, 1)), (30, (.iload_n 2, 1)), (31, (.iconst 2, 1)), (32, (.iload_n 1, 1)), (33, (.imul, 1)), (34, (.if_icmp .ge 84, 3))] := dk_of 25 (by decide +kernel)
theorem dX11_findWays_25 : decode cX11_findWays 25 = .ok (.goto (-23), 3) := dK_c_199.1
theorem dX11_findWays_28 : decode cX11_findWays 28 = .ok (.iconst 0, 1) := dK_c_199.2.1
theorem dX11_findWays_29 : decode cX11_findWays 29 = .ok (.istore_n 2, 1) := dK_c_199.2.2.1
theorem dX11_findWays_30 : decode cX11_findWays 30 = .ok (.iload_n 2, 1) := dK_c_199.2.2.2.1
theorem dX11_findWays_31 : decode cX11_findWays 31 = .ok (.iconst 2, 1) := dK_c_199.2.2.2.2.1
theorem dX11_findWays_32 : decode cX11_findWays 32 = .ok (.iload_n 1, 1) := dK_c_199.2.2.2.2.2.1
theorem dX11_findWays_33 : decode cX11_findWays 33 = .ok (.imul, 1) := dK_c_199.2.2.2.2.2.2.1
theorem dX11_findWays_34 : decode cX11_findWays 34 = .ok (.if_icmp .ge 84, 3) := dK_c_199.2.2.2.2.2.2.2.1
theorem dK_c_200 : dk_P cX11_findWays [(37, (.iload_n 2, 1)), (38, (.iconst 2, 1)), (39, (.irem, 1)), (40, (.ifCond .ne 7, 3)), (43, (.iconst 1, 1)), (44, (.goto 4, 3)), (47, (.iconst (-1), 1)), (48, (.istore_n 3, 1))] := dk_of 37 (by decide +kernel)
theorem dX11_findWays_37 : decode cX11_findWays 37 = .ok (.iload_n 2, 1) := dK_c_200.1
theorem dX11_findWays_38 : decode cX11_findWays 38 = .ok (.iconst 2, 1) := dK_c_200.2.1
theorem dX11_findWays_39 : decode cX11_findWays 39 = .ok (.irem, 1) := dK_c_200.2.2.1
theorem dX11_findWays_40 : decode cX11_findWays 40 = .ok (.ifCond .ne 7, 3) := dK_c_200.2.2.2.1
theorem dX11_findWays_43 : decode cX11_findWays 43 = .ok (.iconst 1, 1) := dK_c_200.2.2.2.2.1
theorem dX11_findWays_44 : decode cX11_findWays 44 = .ok (.goto 4, 3) := dK_c_200.2.2.2.2.2.1
theorem dX11_findWays_47 : decode cX11_findWays 47 = .ok (.iconst (-1), 1) := dK_c_200.2.2.2.2.2.2.1
theorem dX11_findWays_48 : decode cX11_findWays 48 = .ok (.istore_n 3, 1) := dK_c_200.2.2.2.2.2.2.2.1
theorem dK_c_201 : dk_P cX11_findWays [(49, (.iconst 0, 1)), (50, (.istore 4, 2)), (52, (.iload 4, 2)), (54, (.aload_n 0, 1)), (55, (.arraylength, 1)), (56, (.if_icmp .ge 56, 3)), (59, (.iload_n 3, 1)), (60, (.ifCond .le 13, 3))] := dk_of 49 (by decide +kernel)
theorem dX11_findWays_49 : decode cX11_findWays 49 = .ok (.iconst 0, 1) := dK_c_201.1
theorem dX11_findWays_50 : decode cX11_findWays 50 = .ok (.istore 4, 2) := dK_c_201.2.1
theorem dX11_findWays_52 : decode cX11_findWays 52 = .ok (.iload 4, 2) := dK_c_201.2.2.1
theorem dX11_findWays_54 : decode cX11_findWays 54 = .ok (.aload_n 0, 1) := dK_c_201.2.2.2.1
theorem dX11_findWays_55 : decode cX11_findWays 55 = .ok (.arraylength, 1) := dK_c_201.2.2.2.2.1
theorem dX11_findWays_56 : decode cX11_findWays 56 = .ok (.if_icmp .ge 56, 3) := dK_c_201.2.2.2.2.2.1
theorem dX11_findWays_59 : decode cX11_findWays 59 = .ok (.iload_n 3, 1) := dK_c_201.2.2.2.2.2.2.1
theorem dX11_findWays_60 : decode cX11_findWays 60 = .ok (.ifCond .le 13, 3) := dK_c_201.2.2.2.2.2.2.2.1
theorem dK_c_202 : dk_P cX11_findWays [(63, (.aload_n 0, 1)), (64, (.arraylength, 1)), (65, (.iconst 1, 1)), (66, (.isub, 1)), (67, (.iload 4, 2)), (69, (.isub, 1)), (70, (.goto 5, 3)), (73, (.iload 4, 2))] := dk_of 63 (by decide +kernel)
theorem dX11_findWays_63 : decode cX11_findWays 63 = .ok (.aload_n 0, 1) := dK_c_202.1
theorem dX11_findWays_64 : decode cX11_findWays 64 = .ok (.arraylength, 1) := dK_c_202.2.1
theorem dX11_findWays_65 : decode cX11_findWays 65 = .ok (.iconst 1, 1) := dK_c_202.2.2.1
theorem dX11_findWays_66 : decode cX11_findWays 66 = .ok (.isub, 1) := dK_c_202.2.2.2.1
theorem dX11_findWays_67 : decode cX11_findWays 67 = .ok (.iload 4, 2) := dK_c_202.2.2.2.2.1
theorem dX11_findWays_69 : decode cX11_findWays 69 = .ok (.isub, 1) := dK_c_202.2.2.2.2.2.1
theorem dX11_findWays_70 : decode cX11_findWays 70 = .ok (.goto 5, 3) := dK_c_202.2.2.2.2.2.2.1
theorem dX11_findWays_73 : decode cX11_findWays 73 = .ok (.iload 4, 2) := dK_c_202.2.2.2.2.2.2.2.1
theorem dK_c_203 : dk_P cX11_findWays [(75, (.istore 5, 2)), (77, (.iload 5, 2)), (79, (.iload_n 3, 1)), (80, (.isub, 1)), (81, (.istore 6, 2)), (83, (.iload 6, 2)), (85, (.ifCond .lt 21, 3)), (88, (.iload 6, 2))] := dk_of 75 (by decide +kernel)
theorem dX11_findWays_75 : decode cX11_findWays 75 = .ok (.istore 5, 2) := dK_c_203.1
theorem dX11_findWays_77 : decode cX11_findWays 77 = .ok (.iload 5, 2) := dK_c_203.2.1
theorem dX11_findWays_79 : decode cX11_findWays 79 = .ok (.iload_n 3, 1) := dK_c_203.2.2.1
theorem dX11_findWays_80 : decode cX11_findWays 80 = .ok (.isub, 1) := dK_c_203.2.2.2.1
theorem dX11_findWays_81 : decode cX11_findWays 81 = .ok (.istore 6, 2) := dK_c_203.2.2.2.2.1
theorem dX11_findWays_83 : decode cX11_findWays 83 = .ok (.iload 6, 2) := dK_c_203.2.2.2.2.2.1
theorem dX11_findWays_85 : decode cX11_findWays 85 = .ok (.ifCond .lt 21, 3) := dK_c_203.2.2.2.2.2.2.1
theorem dX11_findWays_88 : decode cX11_findWays 88 = .ok (.iload 6, 2) := dK_c_203.2.2.2.2.2.2.2.1
theorem dK_c_204 : dk_P cX11_findWays [(90, (.aload_n 0, 1)), (91, (.arraylength, 1)), (92, (.if_icmp .ge 14, 3)), (95, (.aload_n 0, 1)), (96, (.iload 5, 2)), (98, (.dup2, 1)), (99, (.laload, 1)), (100, (.aload_n 0, 1))] := dk_of 90 (by decide +kernel)
theorem dX11_findWays_90 : decode cX11_findWays 90 = .ok (.aload_n 0, 1) := dK_c_204.1
theorem dX11_findWays_91 : decode cX11_findWays 91 = .ok (.arraylength, 1) := dK_c_204.2.1
theorem dX11_findWays_92 : decode cX11_findWays 92 = .ok (.if_icmp .ge 14, 3) := dK_c_204.2.2.1
theorem dX11_findWays_95 : decode cX11_findWays 95 = .ok (.aload_n 0, 1) := dK_c_204.2.2.2.1
theorem dX11_findWays_96 : decode cX11_findWays 96 = .ok (.iload 5, 2) := dK_c_204.2.2.2.2.1
theorem dX11_findWays_98 : decode cX11_findWays 98 = .ok (.dup2, 1) := dK_c_204.2.2.2.2.2.1
theorem dX11_findWays_99 : decode cX11_findWays 99 = .ok (.laload, 1) := dK_c_204.2.2.2.2.2.2.1
theorem dX11_findWays_100 : decode cX11_findWays 100 = .ok (.aload_n 0, 1) := dK_c_204.2.2.2.2.2.2.2.1
theorem dK_c_205 : dk_P cX11_findWays [(101, (.iload 6, 2)), (103, (.laload, 1)), (104, (.ladd, 1)), (105, (.lastore, 1)), (106, (.iinc 4 1, 3)), (109, (.goto (-57), 3)), (112, (.iinc 2 1, 3)), (115, (.goto (-85), 3))] := dk_of 101 (by decide +kernel)
theorem dX11_findWays_101 : decode cX11_findWays 101 = .ok (.iload 6, 2) := dK_c_205.1
theorem dX11_findWays_103 : decode cX11_findWays 103 = .ok (.laload, 1) := dK_c_205.2.1
theorem dX11_findWays_104 : decode cX11_findWays 104 = .ok (.ladd, 1) := dK_c_205.2.2.1
theorem dX11_findWays_105 : decode cX11_findWays 105 = .ok (.lastore, 1) := dK_c_205.2.2.2.1
theorem dX11_findWays_106 : decode cX11_findWays 106 = .ok (.iinc 4 1, 3) := dK_c_205.2.2.2.2.1
theorem dX11_findWays_109 : decode cX11_findWays 109 = .ok (.goto (-57), 3) := dK_c_205.2.2.2.2.2.1
theorem dX11_findWays_112 : decode cX11_findWays 112 = .ok (.iinc 2 1, 3) := dK_c_205.2.2.2.2.2.2.1
theorem dX11_findWays_115 : decode cX11_findWays 115 = .ok (.goto (-85), 3) := dK_c_205.2.2.2.2.2.2.2.1
theorem dK_c_206 : dk_P cX11_findWays [(118, (.return_, 1))] := dk_of 118 (by decide +kernel)
theorem dX11_findWays_118 : decode cX11_findWays 118 = .ok (.return_, 1) := dK_c_206.1
theorem dK_c_207 : dk_P cX11_counted [(0, (.aload_n 0, 1)), (1, (.getfield 31, 3)), (4, (.iload_n 1, 1)), (5, (.iaload, 1)), (6, (.istore 5, 2)), (8, (.aload_n 0, 1)), (9, (.getfield 61, 3)), (12, (.aload_n 0, 1))] := dk_of 0 (by decide +kernel)
theorem dX11_counted_0 : decode cX11_counted 0 = .ok (.aload_n 0, 1) := dK_c_207.1
theorem dX11_counted_1 : decode cX11_counted 1 = .ok (.getfield 31, 3) := dK_c_207.2.1
theorem dX11_counted_4 : decode cX11_counted 4 = .ok (.iload_n 1, 1) := dK_c_207.2.2.1
theorem dX11_counted_5 : decode cX11_counted 5 = .ok (.iaload, 1) := dK_c_207.2.2.2.1
theorem dX11_counted_6 : decode cX11_counted 6 = .ok (.istore 5, 2) := dK_c_207.2.2.2.2.1
theorem dX11_counted_8 : decode cX11_counted 8 = .ok (.aload_n 0, 1) := dK_c_207.2.2.2.2.2.1
theorem dX11_counted_9 : decode cX11_counted 9 = .ok (.getfield 61, 3) := dK_c_207.2.2.2.2.2.2.1
theorem dX11_counted_12 : decode cX11_counted 12 = .ok (.aload_n 0, 1) := dK_c_207.2.2.2.2.2.2.2.1
theorem dK_c_208 : dk_P cX11_counted [(13, (.getfield 95, 3)), (16, (.iload 5, 2)), (18, (.isub, 1)), (19, (.invokestatic 226, 3)), (22, (.aload_n 0, 1)), (23, (.getfield 65, 3)), (26, (.iload 5, 2)), (28, (.invokestatic 226, 3))] := dk_of 13 (by decide +kernel)
theorem dX11_counted_13 : decode cX11_counted 13 = .ok (.getfield 95, 3) := dK_c_208.1
theorem dX11_counted_16 : decode cX11_counted 16 = .ok (.iload 5, 2) := dK_c_208.2.1
theorem dX11_counted_18 : decode cX11_counted 18 = .ok (.isub, 1) := dK_c_208.2.2.1
theorem dX11_counted_19 : decode cX11_counted 19 = .ok (.invokestatic 226, 3) := dK_c_208.2.2.2.1
theorem dX11_counted_22 : decode cX11_counted 22 = .ok (.aload_n 0, 1) := dK_c_208.2.2.2.2.1
theorem dX11_counted_23 : decode cX11_counted 23 = .ok (.getfield 65, 3) := dK_c_208.2.2.2.2.2.1
theorem dX11_counted_26 : decode cX11_counted 26 = .ok (.iload 5, 2) := dK_c_208.2.2.2.2.2.2.1
theorem dX11_counted_28 : decode cX11_counted 28 = .ok (.invokestatic 226, 3) := dK_c_208.2.2.2.2.2.2.2.1
theorem dK_c_209 : dk_P cX11_counted [(31, (.lconst 0, 1)), (32, (.lstore 6, 2)), (34, (.iconst 0, 1)), (35, (.istore 8, 2)), (37, (.iload 8, 2)), (39, (.sipush 1681, 3)), (42, (.if_icmp .ge 139, 3)), (45, (.aload_n 0, 1))] := dk_of 31 (by decide +kernel)
theorem dX11_counted_31 : decode cX11_counted 31 = .ok (.lconst 0, 1) := dK_c_209.1
theorem dX11_counted_32 : decode cX11_counted 32 = .ok (.lstore 6, 2) := dK_c_209.2.1
theorem dX11_counted_34 : decode cX11_counted 34 = .ok (.iconst 0, 1) := dK_c_209.2.2.1
theorem dX11_counted_35 : decode cX11_counted 35 = .ok (.istore 8, 2) := dK_c_209.2.2.2.1
theorem dX11_counted_37 : decode cX11_counted 37 = .ok (.iload 8, 2) := dK_c_209.2.2.2.2.1
theorem dX11_counted_39 : decode cX11_counted 39 = .ok (.sipush 1681, 3) := dK_c_209.2.2.2.2.2.1
theorem dX11_counted_42 : decode cX11_counted 42 = .ok (.if_icmp .ge 139, 3) := dK_c_209.2.2.2.2.2.2.1
theorem dX11_counted_45 : decode cX11_counted 45 = .ok (.aload_n 0, 1) := dK_c_209.2.2.2.2.2.2.2.1
theorem dK_c_210 : dk_P cX11_counted [(46, (.getfield 61, 3)), (49, (.iload 8, 2)), (51, (.bipush 41, 2)), (53, (.idiv, 1)), (54, (.laload, 1)), (55, (.aload_n 0, 1)), (56, (.getfield 65, 3)), (59, (.iload 8, 2))] := dk_of 46 (by decide +kernel)
theorem dX11_counted_46 : decode cX11_counted 46 = .ok (.getfield 61, 3) := dK_c_210.1
theorem dX11_counted_49 : decode cX11_counted 49 = .ok (.iload 8, 2) := dK_c_210.2.1
theorem dX11_counted_51 : decode cX11_counted 51 = .ok (.bipush 41, 2) := dK_c_210.2.2.1
theorem dX11_counted_53 : decode cX11_counted 53 = .ok (.idiv, 1) := dK_c_210.2.2.2.1
theorem dX11_counted_54 : decode cX11_counted 54 = .ok (.laload, 1) := dK_c_210.2.2.2.2.1
theorem dX11_counted_55 : decode cX11_counted 55 = .ok (.aload_n 0, 1) := dK_c_210.2.2.2.2.2.1
theorem dX11_counted_56 : decode cX11_counted 56 = .ok (.getfield 65, 3) := dK_c_210.2.2.2.2.2.2.1
theorem dX11_counted_59 : decode cX11_counted 59 = .ok (.iload 8, 2) := dK_c_210.2.2.2.2.2.2.2.1
theorem dK_c_211 : dk_P cX11_counted [(61, (.bipush 41, 2)), (63, (.irem, 1)), (64, (.laload, 1)), (65, (.lmul, 1)), (66, (.lstore 9, 2)), (68, (.lload 9, 2)), (70, (.lconst 0, 1)), (71, (.lcmp, 1))] := dk_of 61 (by decide +kernel)
theorem dX11_counted_61 : decode cX11_counted 61 = .ok (.bipush 41, 2) := dK_c_211.1
theorem dX11_counted_63 : decode cX11_counted 63 = .ok (.irem, 1) := dK_c_211.2.1
theorem dX11_counted_64 : decode cX11_counted 64 = .ok (.laload, 1) := dK_c_211.2.2.1
theorem dX11_counted_65 : decode cX11_counted 65 = .ok (.lmul, 1) := dK_c_211.2.2.2.1
theorem dX11_counted_66 : decode cX11_counted 66 = .ok (.lstore 9, 2) := dK_c_211.2.2.2.2.1
theorem dX11_counted_68 : decode cX11_counted 68 = .ok (.lload 9, 2) := dK_c_211.2.2.2.2.2.1
theorem dX11_counted_70 : decode cX11_counted 70 = .ok (.lconst 0, 1) := dK_c_211.2.2.2.2.2.2.1
theorem dX11_counted_71 : decode cX11_counted 71 = .ok (.lcmp, 1) := dK_c_211.2.2.2.2.2.2.2.1
theorem dK_c_212 : dk_P cX11_counted [(72, (.ifCond .ne 6, 3)), (75, (.goto 100, 3)), (78, (.iload_n 2, 1)), (79, (.aload_n 0, 1)), (80, (.getfield 25, 3)), (83, (.iload_n 1, 1)), (84, (.iaload, 1)), (85, (.iload 8, 2))] := dk_of 72 (by decide +kernel)
theorem dX11_counted_72 : decode cX11_counted 72 = .ok (.ifCond .ne 6, 3) := dK_c_212.1
theorem dX11_counted_75 : decode cX11_counted 75 = .ok (.goto 100, 3) := dK_c_212.2.1
theorem dX11_counted_78 : decode cX11_counted 78 = .ok (.iload_n 2, 1) := dK_c_212.2.2.1
theorem dX11_counted_79 : decode cX11_counted 79 = .ok (.aload_n 0, 1) := dK_c_212.2.2.2.1
theorem dX11_counted_80 : decode cX11_counted 80 = .ok (.getfield 25, 3) := dK_c_212.2.2.2.2.1
theorem dX11_counted_83 : decode cX11_counted 83 = .ok (.iload_n 1, 1) := dK_c_212.2.2.2.2.2.1
theorem dX11_counted_84 : decode cX11_counted 84 = .ok (.iaload, 1) := dK_c_212.2.2.2.2.2.2.1
theorem dX11_counted_85 : decode cX11_counted 85 = .ok (.iload 8, 2) := dK_c_212.2.2.2.2.2.2.2.1
theorem dK_c_213 : dk_P cX11_counted [(87, (.bipush 41, 2)), (89, (.idiv, 1)), (90, (.bipush 20, 2)), (92, (.isub, 1)), (93, (.imul, 1)), (94, (.isub, 1)), (95, (.istore 11, 2)), (97, (.iload 5, 2))] := dk_of 87 (by decide +kernel)
theorem dX11_counted_87 : decode cX11_counted 87 = .ok (.bipush 41, 2) := dK_c_213.1
theorem dX11_counted_89 : decode cX11_counted 89 = .ok (.idiv, 1) := dK_c_213.2.1
theorem dX11_counted_90 : decode cX11_counted 90 = .ok (.bipush 20, 2) := dK_c_213.2.2.1
theorem dX11_counted_92 : decode cX11_counted 92 = .ok (.isub, 1) := dK_c_213.2.2.2.1
theorem dX11_counted_93 : decode cX11_counted 93 = .ok (.imul, 1) := dK_c_213.2.2.2.2.1
theorem dX11_counted_94 : decode cX11_counted 94 = .ok (.isub, 1) := dK_c_213.2.2.2.2.2.1
theorem dX11_counted_95 : decode cX11_counted 95 = .ok (.istore 11, 2) := dK_c_213.2.2.2.2.2.2.1
theorem dX11_counted_97 : decode cX11_counted 97 = .ok (.iload 5, 2) := dK_c_213.2.2.2.2.2.2.2.1
theorem dK_c_214 : dk_P cX11_counted [(99, (.ifCond .ne 7, 3)), (102, (.iconst 0, 1)), (103, (.goto 13, 3)), (106, (.iload 11, 2)), (108, (.aload_n 0, 1)), (109, (.iload_n 1, 1)), (110, (.invokevirtual 210, 3)), (113, (.isub, 1))] := dk_of 99 (by decide +kernel)
theorem dX11_counted_99 : decode cX11_counted 99 = .ok (.ifCond .ne 7, 3) := dK_c_214.1
theorem dX11_counted_102 : decode cX11_counted 102 = .ok (.iconst 0, 1) := dK_c_214.2.1
theorem dX11_counted_103 : decode cX11_counted 103 = .ok (.goto 13, 3) := dK_c_214.2.2.1
theorem dX11_counted_106 : decode cX11_counted 106 = .ok (.iload 11, 2) := dK_c_214.2.2.2.1
theorem dX11_counted_108 : decode cX11_counted 108 = .ok (.aload_n 0, 1) := dK_c_214.2.2.2.2.1
theorem dX11_counted_109 : decode cX11_counted 109 = .ok (.iload_n 1, 1) := dK_c_214.2.2.2.2.2.1
theorem dX11_counted_110 : decode cX11_counted 110 = .ok (.invokevirtual 210, 3) := dK_c_214.2.2.2.2.2.2.1
theorem dX11_counted_113 : decode cX11_counted 113 = .ok (.isub, 1) := dK_c_214.2.2.2.2.2.2.2.1
theorem dK_c_215 : dk_P cX11_counted [(114, (.iconst 2, 1)), (115, (.idiv, 1)), (116, (.istore 12, 2)), (118, (.iload 11, 2)), (120, (.iload 12, 2)), (122, (.aload_n 0, 1)), (123, (.getfield 25, 3)), (126, (.iload_n 1, 1))] := dk_of 114 (by decide +kernel)
theorem dX11_counted_114 : decode cX11_counted 114 = .ok (.iconst 2, 1) := dK_c_215.1
theorem dX11_counted_115 : decode cX11_counted 115 = .ok (.idiv, 1) := dK_c_215.2.1
theorem dX11_counted_116 : decode cX11_counted 116 = .ok (.istore 12, 2) := dK_c_215.2.2.1
theorem dX11_counted_118 : decode cX11_counted 118 = .ok (.iload 11, 2) := dK_c_215.2.2.2.1
theorem dX11_counted_120 : decode cX11_counted 120 = .ok (.iload 12, 2) := dK_c_215.2.2.2.2.1
theorem dX11_counted_122 : decode cX11_counted 122 = .ok (.aload_n 0, 1) := dK_c_215.2.2.2.2.2.1
theorem dX11_counted_123 : decode cX11_counted 123 = .ok (.getfield 25, 3) := dK_c_215.2.2.2.2.2.2.1
theorem dX11_counted_126 : decode cX11_counted 126 = .ok (.iload_n 1, 1) := dK_c_215.2.2.2.2.2.2.2.1
theorem dK_c_216 : dk_P cX11_counted [(127, (.iaload, 1)), (128, (.iload 8, 2)), (130, (.bipush 41, 2)), (132, (.irem, 1)), (133, (.bipush 20, 2)), (135, (.isub, 1)), (136, (.imul, 1)), (137, (.iadd, 1))] := dk_of 127 (by decide +kernel)
theorem dX11_counted_127 : decode cX11_counted 127 = .ok (.iaload, 1) := dK_c_216.1
theorem dX11_counted_128 : decode cX11_counted 128 = .ok (.iload 8, 2) := dK_c_216.2.1
theorem dX11_counted_130 : decode cX11_counted 130 = .ok (.bipush 41, 2) := dK_c_216.2.2.1
theorem dX11_counted_132 : decode cX11_counted 132 = .ok (.irem, 1) := dK_c_216.2.2.2.1
theorem dX11_counted_133 : decode cX11_counted 133 = .ok (.bipush 20, 2) := dK_c_216.2.2.2.2.1
theorem dX11_counted_135 : decode cX11_counted 135 = .ok (.isub, 1) := dK_c_216.2.2.2.2.2.1
theorem dX11_counted_136 : decode cX11_counted 136 = .ok (.imul, 1) := dK_c_216.2.2.2.2.2.2.1
theorem dX11_counted_137 : decode cX11_counted 137 = .ok (.iadd, 1) := dK_c_216.2.2.2.2.2.2.2.1
theorem dK_c_217 : dk_P cX11_counted [(138, (.isub, 1)), (139, (.istore 11, 2)), (141, (.lload 6, 2)), (143, (.lload 9, 2)), (145, (.aload_n 0, 1)), (146, (.iload_n 1, 1)), (147, (.iload 11, 2)), (149, (.iload 12, 2))] := dk_of 138 (by decide +kernel)
theorem dX11_counted_138 : decode cX11_counted 138 = .ok (.isub, 1) := dK_c_217.1
theorem dX11_counted_139 : decode cX11_counted 139 = .ok (.istore 11, 2) := dK_c_217.2.1
theorem dX11_counted_141 : decode cX11_counted 141 = .ok (.lload 6, 2) := dK_c_217.2.2.1
theorem dX11_counted_143 : decode cX11_counted 143 = .ok (.lload 9, 2) := dK_c_217.2.2.2.1
theorem dX11_counted_145 : decode cX11_counted 145 = .ok (.aload_n 0, 1) := dK_c_217.2.2.2.2.1
theorem dX11_counted_146 : decode cX11_counted 146 = .ok (.iload_n 1, 1) := dK_c_217.2.2.2.2.2.1
theorem dX11_counted_147 : decode cX11_counted 147 = .ok (.iload 11, 2) := dK_c_217.2.2.2.2.2.2.1
theorem dX11_counted_149 : decode cX11_counted 149 = .ok (.iload 12, 2) := dK_c_217.2.2.2.2.2.2.2.1
theorem dK_c_218 : dk_P cX11_counted [(151, (.ifCond .ge 9, 3)), (154, (.iload 12, 2)), (156, (.ineg, 1)), (157, (.goto 5, 3)), (160, (.iload 12, 2)), (162, (.iconst 4, 1)), (163, (.idiv, 1)), (164, (.iload_n 3, 1))] := dk_of 151 (by decide +kernel)
theorem dX11_counted_151 : decode cX11_counted 151 = .ok (.ifCond .ge 9, 3) := dK_c_218.1
theorem dX11_counted_154 : decode cX11_counted 154 = .ok (.iload 12, 2) := dK_c_218.2.1
theorem dX11_counted_156 : decode cX11_counted 156 = .ok (.ineg, 1) := dK_c_218.2.2.1
theorem dX11_counted_157 : decode cX11_counted 157 = .ok (.goto 5, 3) := dK_c_218.2.2.2.1
theorem dX11_counted_160 : decode cX11_counted 160 = .ok (.iload 12, 2) := dK_c_218.2.2.2.2.1
theorem dX11_counted_162 : decode cX11_counted 162 = .ok (.iconst 4, 1) := dK_c_218.2.2.2.2.2.1
theorem dX11_counted_163 : decode cX11_counted 163 = .ok (.idiv, 1) := dK_c_218.2.2.2.2.2.2.1
theorem dX11_counted_164 : decode cX11_counted 164 = .ok (.iload_n 3, 1) := dK_c_218.2.2.2.2.2.2.2.1
theorem dK_c_219 : dk_P cX11_counted [(165, (.iload 4, 2)), (167, (.invokevirtual 230, 3)), (170, (.i2l, 1)), (171, (.lmul, 1)), (172, (.ladd, 1)), (173, (.lstore 6, 2)), (175, (.iinc 8 1, 3)), (178, (.goto (-141), 3))] := dk_of 165 (by decide +kernel)
theorem dX11_counted_165 : decode cX11_counted 165 = .ok (.iload 4, 2) := dK_c_219.1
theorem dX11_counted_167 : decode cX11_counted 167 = .ok (.invokevirtual 230, 3) := dK_c_219.2.1
theorem dX11_counted_170 : decode cX11_counted 170 = .ok (.i2l, 1) := dK_c_219.2.2.1
theorem dX11_counted_171 : decode cX11_counted 171 = .ok (.lmul, 1) := dK_c_219.2.2.2.1
theorem dX11_counted_172 : decode cX11_counted 172 = .ok (.ladd, 1) := dK_c_219.2.2.2.2.1
theorem dX11_counted_173 : decode cX11_counted 173 = .ok (.lstore 6, 2) := dK_c_219.2.2.2.2.2.1
theorem dX11_counted_175 : decode cX11_counted 175 = .ok (.iinc 8 1, 3) := dK_c_219.2.2.2.2.2.2.1
theorem dX11_counted_178 : decode cX11_counted 178 = .ok (.goto (-141), 3) := dK_c_219.2.2.2.2.2.2.2.1
theorem dK_c_220 : dk_P cX11_counted [(181, (.lload 6, 2)), (183, (.lreturn, 1))] := dk_of 181 (by decide +kernel)
theorem dX11_counted_181 : decode cX11_counted 181 = .ok (.lload 6, 2) := dK_c_220.1
theorem dX11_counted_183 : decode cX11_counted 183 = .ok (.lreturn, 1) := dK_c_220.2.1
theorem dK_c_221 : dk_P cX11_countedOne [(0, (.iload 4, 2)), (2, (.tableswitch 64 0 2 #[26, 38, 48], 26)), (28, (.iload_n 2, 1)), (29, (.iload 5, 2)), (31, (.if_icmp .ne 7, 3)), (34, (.iconst 1, 1)), (35, (.goto 4, 3)), (38, (.iconst 0, 1))] := dk_of 0 (by decide +kernel)
theorem dX11_countedOne_0 : decode cX11_countedOne 0 = .ok (.iload 4, 2) := dK_c_221.1
theorem dX11_countedOne_2 : decode cX11_countedOne 2 = .ok (.tableswitch 64 0 2 #[26, 38, 48], 26) := dK_c_221.2.1
theorem dX11_countedOne_28 : decode cX11_countedOne 28 = .ok (.iload_n 2, 1) := dK_c_221.2.2.1
theorem dX11_countedOne_29 : decode cX11_countedOne 29 = .ok (.iload 5, 2) := dK_c_221.2.2.2.1
theorem dX11_countedOne_31 : decode cX11_countedOne 31 = .ok (.if_icmp .ne 7, 3) := dK_c_221.2.2.2.2.1
theorem dX11_countedOne_34 : decode cX11_countedOne 34 = .ok (.iconst 1, 1) := dK_c_221.2.2.2.2.2.1
theorem dX11_countedOne_35 : decode cX11_countedOne 35 = .ok (.goto 4, 3) := dK_c_221.2.2.2.2.2.2.1
theorem dX11_countedOne_38 : decode cX11_countedOne 38 = .ok (.iconst 0, 1) := dK_c_221.2.2.2.2.2.2.2.1
theorem dK_c_222 : dk_P cX11_countedOne [(39, (.ireturn, 1)), (40, (.iload_n 2, 1)), (41, (.ifCond .ge 7, 3)), (44, (.iconst 1, 1)), (45, (.goto 4, 3)), (48, (.iconst 0, 1)), (49, (.ireturn, 1)), (50, (.iload_n 2, 1))] := dk_of 39 (by decide +kernel)
theorem dX11_countedOne_39 : decode cX11_countedOne 39 = .ok (.ireturn, 1) := dK_c_222.1
theorem dX11_countedOne_40 : decode cX11_countedOne 40 = .ok (.iload_n 2, 1) := dK_c_222.2.1
theorem dX11_countedOne_41 : decode cX11_countedOne 41 = .ok (.ifCond .ge 7, 3) := dK_c_222.2.2.1
theorem dX11_countedOne_44 : decode cX11_countedOne 44 = .ok (.iconst 1, 1) := dK_c_222.2.2.2.1
theorem dX11_countedOne_45 : decode cX11_countedOne 45 = .ok (.goto 4, 3) := dK_c_222.2.2.2.2.1
theorem dX11_countedOne_48 : decode cX11_countedOne 48 = .ok (.iconst 0, 1) := dK_c_222.2.2.2.2.2.1
theorem dX11_countedOne_49 : decode cX11_countedOne 49 = .ok (.ireturn, 1) := dK_c_222.2.2.2.2.2.2.1
theorem dX11_countedOne_50 : decode cX11_countedOne 50 = .ok (.iload_n 2, 1) := dK_c_222.2.2.2.2.2.2.2.1
theorem dK_c_223 : dk_P cX11_countedOne [(51, (.ifCond .ge 7, 3)), (54, (.iconst 0, 1)), (55, (.goto 10, 3)), (58, (.aload_n 0, 1)), (59, (.iload_n 1, 1)), (60, (.iload_n 2, 1)), (61, (.iload_n 3, 1)), (62, (.invokevirtual 163, 3))] := dk_of 51 (by decide +kernel)
theorem dX11_countedOne_51 : decode cX11_countedOne 51 = .ok (.ifCond .ge 7, 3) := dK_c_223.1
theorem dX11_countedOne_54 : decode cX11_countedOne 54 = .ok (.iconst 0, 1) := dK_c_223.2.1
theorem dX11_countedOne_55 : decode cX11_countedOne 55 = .ok (.goto 10, 3) := dK_c_223.2.2.1
theorem dX11_countedOne_58 : decode cX11_countedOne 58 = .ok (.aload_n 0, 1) := dK_c_223.2.2.2.1
theorem dX11_countedOne_59 : decode cX11_countedOne 59 = .ok (.iload_n 1, 1) := dK_c_223.2.2.2.2.1
theorem dX11_countedOne_60 : decode cX11_countedOne 60 = .ok (.iload_n 2, 1) := dK_c_223.2.2.2.2.2.1
theorem dX11_countedOne_61 : decode cX11_countedOne 61 = .ok (.iload_n 3, 1) := dK_c_223.2.2.2.2.2.2.1
theorem dX11_countedOne_62 : decode cX11_countedOne 62 = .ok (.invokevirtual 163, 3) := dK_c_223.2.2.2.2.2.2.2.1
theorem dK_c_224 : dk_P cX11_countedOne [(65, (.ireturn, 1)), (66, (.iload_n 2, 1)), (67, (.ifCond .lt 19, 3)), (70, (.aload_n 0, 1)), (71, (.iload_n 1, 1)), (72, (.iload_n 2, 1)), (73, (.iload_n 3, 1)), (74, (.invokevirtual 163, 3))] := dk_of 65 (by decide +kernel)
theorem dX11_countedOne_65 : decode cX11_countedOne 65 = .ok (.ireturn, 1) := dK_c_224.1
theorem dX11_countedOne_66 : decode cX11_countedOne 66 = .ok (.iload_n 2, 1) := dK_c_224.2.1
theorem dX11_countedOne_67 : decode cX11_countedOne 67 = .ok (.ifCond .lt 19, 3) := dK_c_224.2.2.1
theorem dX11_countedOne_70 : decode cX11_countedOne 70 = .ok (.aload_n 0, 1) := dK_c_224.2.2.2.1
theorem dX11_countedOne_71 : decode cX11_countedOne 71 = .ok (.iload_n 1, 1) := dK_c_224.2.2.2.2.1
theorem dX11_countedOne_72 : decode cX11_countedOne 72 = .ok (.iload_n 2, 1) := dK_c_224.2.2.2.2.2.1
theorem dX11_countedOne_73 : decode cX11_countedOne 73 = .ok (.iload_n 3, 1) := dK_c_224.2.2.2.2.2.2.1
theorem dX11_countedOne_74 : decode cX11_countedOne 74 = .ok (.invokevirtual 163, 3) := dK_c_224.2.2.2.2.2.2.2.1
theorem dK_c_225 : dk_P cX11_countedOne [(77, (.iload 5, 2)), (79, (.if_icmp .le 7, 3)), (82, (.iconst 1, 1)), (83, (.goto 4, 3)), (86, (.iconst 0, 1)), (87, (.ireturn, 1))] := dk_of 77 (by decide +kernel)
theorem dX11_countedOne_77 : decode cX11_countedOne 77 = .ok (.iload 5, 2) := dK_c_225.1
theorem dX11_countedOne_79 : decode cX11_countedOne 79 = .ok (.if_icmp .le 7, 3) := dK_c_225.2.1
theorem dX11_countedOne_82 : decode cX11_countedOne 82 = .ok (.iconst 1, 1) := dK_c_225.2.2.1
theorem dX11_countedOne_83 : decode cX11_countedOne 83 = .ok (.goto 4, 3) := dK_c_225.2.2.2.1
theorem dX11_countedOne_86 : decode cX11_countedOne 86 = .ok (.iconst 0, 1) := dK_c_225.2.2.2.2.1
theorem dX11_countedOne_87 : decode cX11_countedOne 87 = .ok (.ireturn, 1) := dK_c_225.2.2.2.2.2.1
theorem dK_c_226 : dk_P cX11_allWays [(0, (.lconst 1, 1)), (1, (.iconst 2, 1)), (2, (.aload_n 0, 1)), (3, (.getfield 95, 3)), (6, (.imul, 1)), (7, (.lshl, 1)), (8, (.lreturn, 1))] := dk_of 0 (by decide +kernel)
theorem dX11_allWays_0 : decode cX11_allWays 0 = .ok (.lconst 1, 1) := dK_c_226.1
theorem dX11_allWays_1 : decode cX11_allWays 1 = .ok (.iconst 2, 1) := dK_c_226.2.1
theorem dX11_allWays_2 : decode cX11_allWays 2 = .ok (.aload_n 0, 1) := dK_c_226.2.2.1
theorem dX11_allWays_3 : decode cX11_allWays 3 = .ok (.getfield 95, 3) := dK_c_226.2.2.2.1
theorem dX11_allWays_6 : decode cX11_allWays 6 = .ok (.imul, 1) := dK_c_226.2.2.2.2.1
theorem dX11_allWays_7 : decode cX11_allWays 7 = .ok (.lshl, 1) := dK_c_226.2.2.2.2.2.1
theorem dX11_allWays_8 : decode cX11_allWays 8 = .ok (.lreturn, 1) := dK_c_226.2.2.2.2.2.2.1
theorem dK_c_227 : dk_P cX11_divisor [(0, (.lload_n 0, 1)), (1, (.lstore 4, 2)), (3, (.lload_n 2, 1)), (4, (.lstore 6, 2)), (6, (.lload 6, 2)), (8, (.lconst 0, 1)), (9, (.lcmp, 1)), (10, (.ifCond .eq 21, 3))] := dk_of 0 (by decide +kernel)
theorem dX11_divisor_0 : decode cX11_divisor 0 = .ok (.lload_n 0, 1) := dK_c_227.1
theorem dX11_divisor_1 : decode cX11_divisor 1 = .ok (.lstore 4, 2) := dK_c_227.2.1
theorem dX11_divisor_3 : decode cX11_divisor 3 = .ok (.lload_n 2, 1) := dK_c_227.2.2.1
theorem dX11_divisor_4 : decode cX11_divisor 4 = .ok (.lstore 6, 2) := dK_c_227.2.2.2.1
theorem dX11_divisor_6 : decode cX11_divisor 6 = .ok (.lload 6, 2) := dK_c_227.2.2.2.2.1
theorem dX11_divisor_8 : decode cX11_divisor 8 = .ok (.lconst 0, 1) := dK_c_227.2.2.2.2.2.1
theorem dX11_divisor_9 : decode cX11_divisor 9 = .ok (.lcmp, 1) := dK_c_227.2.2.2.2.2.2.1
theorem dX11_divisor_10 : decode cX11_divisor 10 = .ok (.ifCond .eq 21, 3) := dK_c_227.2.2.2.2.2.2.2.1
theorem dK_c_228 : dk_P cX11_divisor [(13, (.lload 4, 2)), (15, (.lload 6, 2)), (17, (.lrem, 1)), (18, (.lstore 8, 2)), (20, (.lload 6, 2)), (22, (.lstore 4, 2)), (24, (.lload 8, 2)), (26, (.lstore 6, 2))] := dk_of 13 (by decide +kernel)
theorem dX11_divisor_13 : decode cX11_divisor 13 = .ok (.lload 4, 2) := dK_c_228.1
theorem dX11_divisor_15 : decode cX11_divisor 15 = .ok (.lload 6, 2) := dK_c_228.2.1
theorem dX11_divisor_17 : decode cX11_divisor 17 = .ok (.lrem, 1) := dK_c_228.2.2.1
theorem dX11_divisor_18 : decode cX11_divisor 18 = .ok (.lstore 8, 2) := dK_c_228.2.2.2.1
theorem dX11_divisor_20 : decode cX11_divisor 20 = .ok (.lload 6, 2) := dK_c_228.2.2.2.2.1
theorem dX11_divisor_22 : decode cX11_divisor 22 = .ok (.lstore 4, 2) := dK_c_228.2.2.2.2.2.1
theorem dX11_divisor_24 : decode cX11_divisor 24 = .ok (.lload 8, 2) := dK_c_228.2.2.2.2.2.2.1
theorem dX11_divisor_26 : decode cX11_divisor 26 = .ok (.lstore 6, 2) := dK_c_228.2.2.2.2.2.2.2.1
theorem dK_c_229 : dk_P cX11_divisor [(28, (.goto (-22), 3)), (31, (.lload 4, 2)), (33, (.lreturn, 1))] := dk_of 28 (by decide +kernel)
theorem dX11_divisor_28 : decode cX11_divisor 28 = .ok (.goto (-22), 3) := dK_c_229.1
theorem dX11_divisor_31 : decode cX11_divisor 31 = .ok (.lload 4, 2) := dK_c_229.2.1
theorem dX11_divisor_33 : decode cX11_divisor 33 = .ok (.lreturn, 1) := dK_c_229.2.2.1
theorem dK_c_230 : dk_P cX11_partOf [(0, (.iload 4, 2)), (2, (.ifCond .ne 7, 3)), (5, (.lload_n 0, 1)), (6, (.goto 4, 3)), (9, (.lload_n 2, 1)), (10, (.lload_n 0, 1)), (11, (.lload_n 2, 1)), (12, (.invokestatic 234, 3))] := dk_of 0 (by decide +kernel)
theorem dX11_partOf_0 : decode cX11_partOf 0 = .ok (.iload 4, 2) := dK_c_230.1
theorem dX11_partOf_2 : decode cX11_partOf 2 = .ok (.ifCond .ne 7, 3) := dK_c_230.2.1
theorem dX11_partOf_5 : decode cX11_partOf 5 = .ok (.lload_n 0, 1) := dK_c_230.2.2.1
theorem dX11_partOf_6 : decode cX11_partOf 6 = .ok (.goto 4, 3) := dK_c_230.2.2.2.1
theorem dX11_partOf_9 : decode cX11_partOf 9 = .ok (.lload_n 2, 1) := dK_c_230.2.2.2.2.1
theorem dX11_partOf_10 : decode cX11_partOf 10 = .ok (.lload_n 0, 1) := dK_c_230.2.2.2.2.2.1
theorem dX11_partOf_11 : decode cX11_partOf 11 = .ok (.lload_n 2, 1) := dK_c_230.2.2.2.2.2.2.1
theorem dX11_partOf_12 : decode cX11_partOf 12 = .ok (.invokestatic 234, 3) := dK_c_230.2.2.2.2.2.2.2.1
theorem dK_c_231 : dk_P cX11_partOf [(15, (.ldiv, 1)), (16, (.lreturn, 1))] := dk_of 15 (by decide +kernel)
theorem dX11_partOf_15 : decode cX11_partOf 15 = .ok (.ldiv, 1) := dK_c_231.1
theorem dX11_partOf_16 : decode cX11_partOf 16 = .ok (.lreturn, 1) := dK_c_231.2.1
theorem dK_c_232 : dk_P cX11_off [(0, (.aload_n 0, 1)), (1, (.iload_n 1, 1)), (2, (.invokevirtual 207, 3)), (5, (.ifCond .ne 7, 3)), (8, (.iconst (-1), 1)), (9, (.goto 13, 3)), (12, (.iload_n 2, 1)), (13, (.sipush (-300), 3))] := dk_of 0 (by decide +kernel)
theorem dX11_off_0 : decode cX11_off 0 = .ok (.aload_n 0, 1) := dK_c_232.1
theorem dX11_off_1 : decode cX11_off 1 = .ok (.iload_n 1, 1) := dK_c_232.2.1
theorem dX11_off_2 : decode cX11_off 2 = .ok (.invokevirtual 207, 3) := dK_c_232.2.2.1
theorem dX11_off_5 : decode cX11_off 5 = .ok (.ifCond .ne 7, 3) := dK_c_232.2.2.2.1
theorem dX11_off_8 : decode cX11_off 8 = .ok (.iconst (-1), 1) := dK_c_232.2.2.2.2.1
theorem dX11_off_9 : decode cX11_off 9 = .ok (.goto 13, 3) := dK_c_232.2.2.2.2.2.1
theorem dX11_off_12 : decode cX11_off 12 = .ok (.iload_n 2, 1) := dK_c_232.2.2.2.2.2.2.1
theorem dX11_off_13 : decode cX11_off 13 = .ok (.sipush (-300), 3) := dK_c_232.2.2.2.2.2.2.2.1
theorem dK_c_233 : dk_P cX11_off [(16, (.sipush 300, 3)), (19, (.invokestatic 108, 3)), (22, (.istore 4, 2)), (24, (.iload 4, 2)), (26, (.ifCond .ne 16, 3)), (29, (.iload_n 3, 1)), (30, (.iconst 0, 1)), (31, (.iconst 1, 1))] := dk_of 16 (by decide +kernel)
theorem dX11_off_16 : decode cX11_off 16 = .ok (.sipush 300, 3) := dK_c_233.1
theorem dX11_off_19 : decode cX11_off 19 = .ok (.invokestatic 108, 3) := dK_c_233.2.1
theorem dX11_off_22 : decode cX11_off 22 = .ok (.istore 4, 2) := dK_c_233.2.2.1
theorem dX11_off_24 : decode cX11_off 24 = .ok (.iload 4, 2) := dK_c_233.2.2.2.1
theorem dX11_off_26 : decode cX11_off 26 = .ok (.ifCond .ne 16, 3) := dK_c_233.2.2.2.2.1
theorem dX11_off_29 : decode cX11_off 29 = .ok (.iload_n 3, 1) := dK_c_233.2.2.2.2.2.1
theorem dX11_off_30 : decode cX11_off 30 = .ok (.iconst 0, 1) := dK_c_233.2.2.2.2.2.2.1
theorem dX11_off_31 : decode cX11_off 31 = .ok (.iconst 1, 1) := dK_c_233.2.2.2.2.2.2.2.1
theorem dK_c_234 : dk_P cX11_off [(32, (.invokestatic 126, 3)), (35, (.ifCond .ne 7, 3)), (38, (.bipush (-2), 2)), (40, (.istore 4, 2)), (42, (.iload 4, 2)), (44, (.ifCond .eq 12, 3)), (47, (.aload_n 0, 1)), (48, (.iload 4, 2))] := dk_of 32 (by decide +kernel)
theorem dX11_off_32 : decode cX11_off 32 = .ok (.invokestatic 126, 3) := dK_c_234.1
theorem dX11_off_35 : decode cX11_off 35 = .ok (.ifCond .ne 7, 3) := dK_c_234.2.1
theorem dX11_off_38 : decode cX11_off 38 = .ok (.bipush (-2), 2) := dK_c_234.2.2.1
theorem dX11_off_40 : decode cX11_off 40 = .ok (.istore 4, 2) := dK_c_234.2.2.2.1
theorem dX11_off_42 : decode cX11_off 42 = .ok (.iload 4, 2) := dK_c_234.2.2.2.2.1
theorem dX11_off_44 : decode cX11_off 44 = .ok (.ifCond .eq 12, 3) := dK_c_234.2.2.2.2.2.1
theorem dX11_off_47 : decode cX11_off 47 = .ok (.aload_n 0, 1) := dK_c_234.2.2.2.2.2.2.1
theorem dX11_off_48 : decode cX11_off 48 = .ok (.iload 4, 2) := dK_c_234.2.2.2.2.2.2.2.1
theorem dK_c_235 : dk_P cX11_off [(50, (.invokevirtual 238, 3)), (53, (.goto 23, 3)), (56, (.aload_n 0, 1)), (57, (.iload_n 1, 1)), (58, (.aload_n 0, 1)), (59, (.iload_n 1, 1)), (60, (.invokevirtual 223, 3)), (63, (.iconst 0, 1))] := dk_of 50 (by decide +kernel)
theorem dX11_off_50 : decode cX11_off 50 = .ok (.invokevirtual 238, 3) := dK_c_235.1
theorem dX11_off_53 : decode cX11_off 53 = .ok (.goto 23, 3) := dK_c_235.2.1
theorem dX11_off_56 : decode cX11_off 56 = .ok (.aload_n 0, 1) := dK_c_235.2.2.1
theorem dX11_off_57 : decode cX11_off 57 = .ok (.iload_n 1, 1) := dK_c_235.2.2.2.1
theorem dX11_off_58 : decode cX11_off 58 = .ok (.aload_n 0, 1) := dK_c_235.2.2.2.2.1
theorem dX11_off_59 : decode cX11_off 59 = .ok (.iload_n 1, 1) := dK_c_235.2.2.2.2.2.1
theorem dX11_off_60 : decode cX11_off 60 = .ok (.invokevirtual 223, 3) := dK_c_235.2.2.2.2.2.2.1
theorem dX11_off_63 : decode cX11_off 63 = .ok (.iconst 0, 1) := dK_c_235.2.2.2.2.2.2.2.1
theorem dK_c_236 : dk_P cX11_off [(64, (.iload_n 2, 1)), (65, (.invokevirtual 242, 3)), (68, (.aload_n 0, 1)), (69, (.invokevirtual 246, 3)), (72, (.iload_n 3, 1)), (73, (.invokestatic 250, 3)), (76, (.lreturn, 1))] := dk_of 64 (by decide +kernel)
theorem dX11_off_64 : decode cX11_off 64 = .ok (.iload_n 2, 1) := dK_c_236.1
theorem dX11_off_65 : decode cX11_off 65 = .ok (.invokevirtual 242, 3) := dK_c_236.2.1
theorem dX11_off_68 : decode cX11_off 68 = .ok (.aload_n 0, 1) := dK_c_236.2.2.1
theorem dX11_off_69 : decode cX11_off 69 = .ok (.invokevirtual 246, 3) := dK_c_236.2.2.2.1
theorem dX11_off_72 : decode cX11_off 72 = .ok (.iload_n 3, 1) := dK_c_236.2.2.2.2.1
theorem dX11_off_73 : decode cX11_off 73 = .ok (.invokestatic 250, 3) := dK_c_236.2.2.2.2.2.1
theorem dX11_off_76 : decode cX11_off 76 = .ok (.lreturn, 1) := dK_c_236.2.2.2.2.2.2.1
theorem dK_c_237 : dk_P cX11_meanParts [(0, (.aload_n 0, 1)), (1, (.iload_n 1, 1)), (2, (.aload_n 0, 1)), (3, (.iload_n 1, 1)), (4, (.invokevirtual 223, 3)), (7, (.iconst 2, 1)), (8, (.iconst 0, 1)), (9, (.invokevirtual 242, 3))] := dk_of 0 (by decide +kernel)
theorem dX11_meanParts_0 : decode cX11_meanParts 0 = .ok (.aload_n 0, 1) := dK_c_237.1
theorem dX11_meanParts_1 : decode cX11_meanParts 1 = .ok (.iload_n 1, 1) := dK_c_237.2.1
theorem dX11_meanParts_2 : decode cX11_meanParts 2 = .ok (.aload_n 0, 1) := dK_c_237.2.2.1
theorem dX11_meanParts_3 : decode cX11_meanParts 3 = .ok (.iload_n 1, 1) := dK_c_237.2.2.2.1
theorem dX11_meanParts_4 : decode cX11_meanParts 4 = .ok (.invokevirtual 223, 3) := dK_c_237.2.2.2.2.1
theorem dX11_meanParts_7 : decode cX11_meanParts 7 = .ok (.iconst 2, 1) := dK_c_237.2.2.2.2.2.1
theorem dX11_meanParts_8 : decode cX11_meanParts 8 = .ok (.iconst 0, 1) := dK_c_237.2.2.2.2.2.2.1
theorem dX11_meanParts_9 : decode cX11_meanParts 9 = .ok (.invokevirtual 242, 3) := dK_c_237.2.2.2.2.2.2.2.1
theorem dK_c_238 : dk_P cX11_meanParts [(12, (.lreturn, 1))] := dk_of 12 (by decide +kernel)
theorem dX11_meanParts_12 : decode cX11_meanParts 12 = .ok (.lreturn, 1) := dK_c_238.1
theorem dK_c_239 : dk_P cX11_mean [(0, (.aload_n 0, 1)), (1, (.iload_n 1, 1)), (2, (.invokevirtual 207, 3)), (5, (.ifCond .ne 9, 3)), (8, (.aload_n 0, 1)), (9, (.iconst (-1), 1)), (10, (.invokevirtual 238, 3)), (13, (.lreturn, 1))] := dk_of 0 (by decide +kernel)
theorem dX11_mean_0 : decode cX11_mean 0 = .ok (.aload_n 0, 1) := dK_c_239.1
theorem dX11_mean_1 : decode cX11_mean 1 = .ok (.iload_n 1, 1) := dK_c_239.2.1
theorem dX11_mean_2 : decode cX11_mean 2 = .ok (.invokevirtual 207, 3) := dK_c_239.2.2.1
theorem dX11_mean_5 : decode cX11_mean 5 = .ok (.ifCond .ne 9, 3) := dK_c_239.2.2.2.1
theorem dX11_mean_8 : decode cX11_mean 8 = .ok (.aload_n 0, 1) := dK_c_239.2.2.2.2.1
theorem dX11_mean_9 : decode cX11_mean 9 = .ok (.iconst (-1), 1) := dK_c_239.2.2.2.2.2.1
theorem dX11_mean_10 : decode cX11_mean 10 = .ok (.invokevirtual 238, 3) := dK_c_239.2.2.2.2.2.2.1
theorem dX11_mean_13 : decode cX11_mean 13 = .ok (.lreturn, 1) := dK_c_239.2.2.2.2.2.2.2.1
theorem dK_c_240 : dk_P cX11_mean [(14, (.iload_n 2, 1)), (15, (.iconst 0, 1)), (16, (.iconst 1, 1)), (17, (.invokestatic 126, 3)), (20, (.ifCond .eq 12, 3)), (23, (.iload_n 3, 1)), (24, (.iconst 0, 1)), (25, (.iconst 1, 1))] := dk_of 14 (by decide +kernel)
theorem dX11_mean_14 : decode cX11_mean 14 = .ok (.iload_n 2, 1) := dK_c_240.1
theorem dX11_mean_15 : decode cX11_mean 15 = .ok (.iconst 0, 1) := dK_c_240.2.1
theorem dX11_mean_16 : decode cX11_mean 16 = .ok (.iconst 1, 1) := dK_c_240.2.2.1
theorem dX11_mean_17 : decode cX11_mean 17 = .ok (.invokestatic 126, 3) := dK_c_240.2.2.2.1
theorem dX11_mean_20 : decode cX11_mean 20 = .ok (.ifCond .eq 12, 3) := dK_c_240.2.2.2.2.1
theorem dX11_mean_23 : decode cX11_mean 23 = .ok (.iload_n 3, 1) := dK_c_240.2.2.2.2.2.1
theorem dX11_mean_24 : decode cX11_mean 24 = .ok (.iconst 0, 1) := dK_c_240.2.2.2.2.2.2.1
theorem dX11_mean_25 : decode cX11_mean 25 = .ok (.iconst 1, 1) := dK_c_240.2.2.2.2.2.2.2.1
theorem dK_c_241 : dk_P cX11_mean [(26, (.invokestatic 126, 3)), (29, (.ifCond .ne 10, 3)), (32, (.aload_n 0, 1)), (33, (.bipush (-2), 2)), (35, (.invokevirtual 238, 3)), (38, (.lreturn, 1)), (39, (.iload_n 2, 1)), (40, (.ifCond .ne 18, 3))] := dk_of 26 (by decide +kernel)
theorem dX11_mean_26 : decode cX11_mean 26 = .ok (.invokestatic 126, 3) := dK_c_241.1
theorem dX11_mean_29 : decode cX11_mean 29 = .ok (.ifCond .ne 10, 3) := dK_c_241.2.1
theorem dX11_mean_32 : decode cX11_mean 32 = .ok (.aload_n 0, 1) := dK_c_241.2.2.1
theorem dX11_mean_33 : decode cX11_mean 33 = .ok (.bipush (-2), 2) := dK_c_241.2.2.2.1
theorem dX11_mean_35 : decode cX11_mean 35 = .ok (.invokevirtual 238, 3) := dK_c_241.2.2.2.2.1
theorem dX11_mean_38 : decode cX11_mean 38 = .ok (.lreturn, 1) := dK_c_241.2.2.2.2.2.1
theorem dX11_mean_39 : decode cX11_mean 39 = .ok (.iload_n 2, 1) := dK_c_241.2.2.2.2.2.2.1
theorem dX11_mean_40 : decode cX11_mean 40 = .ok (.ifCond .ne 18, 3) := dK_c_241.2.2.2.2.2.2.2.1
theorem dK_c_242 : dk_P cX11_mean [(43, (.aload_n 0, 1)), (44, (.iload_n 1, 1)), (45, (.aload_n 0, 1)), (46, (.iload_n 1, 1)), (47, (.invokevirtual 223, 3)), (50, (.iconst 1, 1)), (51, (.iconst 0, 1)), (52, (.invokevirtual 242, 3))] := dk_of 43 (by decide +kernel)
theorem dX11_mean_43 : decode cX11_mean 43 = .ok (.aload_n 0, 1) := dK_c_242.1
theorem dX11_mean_44 : decode cX11_mean 44 = .ok (.iload_n 1, 1) := dK_c_242.2.1
theorem dX11_mean_45 : decode cX11_mean 45 = .ok (.aload_n 0, 1) := dK_c_242.2.2.1
theorem dX11_mean_46 : decode cX11_mean 46 = .ok (.iload_n 1, 1) := dK_c_242.2.2.2.1
theorem dX11_mean_47 : decode cX11_mean 47 = .ok (.invokevirtual 223, 3) := dK_c_242.2.2.2.2.1
theorem dX11_mean_50 : decode cX11_mean 50 = .ok (.iconst 1, 1) := dK_c_242.2.2.2.2.2.1
theorem dX11_mean_51 : decode cX11_mean 51 = .ok (.iconst 0, 1) := dK_c_242.2.2.2.2.2.2.1
theorem dX11_mean_52 : decode cX11_mean 52 = .ok (.invokevirtual 242, 3) := dK_c_242.2.2.2.2.2.2.2.1
theorem dK_c_243 : dk_P cX11_mean [(55, (.goto 8, 3)), (58, (.aload_n 0, 1)), (59, (.iload_n 1, 1)), (60, (.invokevirtual 254, 3)), (63, (.aload_n 0, 1)), (64, (.invokevirtual 246, 3)), (67, (.iload_n 3, 1)), (68, (.invokestatic 250, 3))] := dk_of 55 (by decide +kernel)
theorem dX11_mean_55 : decode cX11_mean 55 = .ok (.goto 8, 3) := dK_c_243.1
theorem dX11_mean_58 : decode cX11_mean 58 = .ok (.aload_n 0, 1) := dK_c_243.2.1
theorem dX11_mean_59 : decode cX11_mean 59 = .ok (.iload_n 1, 1) := dK_c_243.2.2.1
theorem dX11_mean_60 : decode cX11_mean 60 = .ok (.invokevirtual 254, 3) := dK_c_243.2.2.2.1
theorem dX11_mean_63 : decode cX11_mean 63 = .ok (.aload_n 0, 1) := dK_c_243.2.2.2.2.1
theorem dX11_mean_64 : decode cX11_mean 64 = .ok (.invokevirtual 246, 3) := dK_c_243.2.2.2.2.2.1
theorem dX11_mean_67 : decode cX11_mean 67 = .ok (.iload_n 3, 1) := dK_c_243.2.2.2.2.2.2.1
theorem dX11_mean_68 : decode cX11_mean 68 = .ok (.invokestatic 250, 3) := dK_c_243.2.2.2.2.2.2.2.1
theorem dK_c_244 : dk_P cX11_mean [(71, (.lreturn, 1))] := dk_of 71 (by decide +kernel)
theorem dX11_mean_71 : decode cX11_mean 71 = .ok (.lreturn, 1) := dK_c_244.1
theorem dK_c_245 : dk_P cX11_past [(0, (.aload_n 0, 1)), (1, (.iload_n 1, 1)), (2, (.invokevirtual 207, 3)), (5, (.ifCond .ne 7, 3)), (8, (.iconst (-1), 1)), (9, (.goto 11, 3)), (12, (.iload_n 2, 1)), (13, (.iconst 0, 1))] := dk_of 0 (by decide +kernel)
theorem dX11_past_0 : decode cX11_past 0 = .ok (.aload_n 0, 1) := dK_c_245.1
theorem dX11_past_1 : decode cX11_past 1 = .ok (.iload_n 1, 1) := dK_c_245.2.1
theorem dX11_past_2 : decode cX11_past 2 = .ok (.invokevirtual 207, 3) := dK_c_245.2.2.1
theorem dX11_past_5 : decode cX11_past 5 = .ok (.ifCond .ne 7, 3) := dK_c_245.2.2.2.1
theorem dX11_past_8 : decode cX11_past 8 = .ok (.iconst (-1), 1) := dK_c_245.2.2.2.2.1
theorem dX11_past_9 : decode cX11_past 9 = .ok (.goto 11, 3) := dK_c_245.2.2.2.2.2.1
theorem dX11_past_12 : decode cX11_past 12 = .ok (.iload_n 2, 1) := dK_c_245.2.2.2.2.2.2.1
theorem dX11_past_13 : decode cX11_past 13 = .ok (.iconst 0, 1) := dK_c_245.2.2.2.2.2.2.2.1
theorem dK_c_246 : dk_P cX11_past [(14, (.sipush 999, 3)), (17, (.invokestatic 108, 3)), (20, (.istore 4, 2)), (22, (.iload 4, 2)), (24, (.ifCond .ne 16, 3)), (27, (.iload_n 3, 1)), (28, (.iconst 0, 1)), (29, (.iconst 1, 1))] := dk_of 14 (by decide +kernel)
theorem dX11_past_14 : decode cX11_past 14 = .ok (.sipush 999, 3) := dK_c_246.1
theorem dX11_past_17 : decode cX11_past 17 = .ok (.invokestatic 108, 3) := dK_c_246.2.1
theorem dX11_past_20 : decode cX11_past 20 = .ok (.istore 4, 2) := dK_c_246.2.2.1
theorem dX11_past_22 : decode cX11_past 22 = .ok (.iload 4, 2) := dK_c_246.2.2.2.1
theorem dX11_past_24 : decode cX11_past 24 = .ok (.ifCond .ne 16, 3) := dK_c_246.2.2.2.2.1
theorem dX11_past_27 : decode cX11_past 27 = .ok (.iload_n 3, 1) := dK_c_246.2.2.2.2.2.1
theorem dX11_past_28 : decode cX11_past 28 = .ok (.iconst 0, 1) := dK_c_246.2.2.2.2.2.2.1
theorem dX11_past_29 : decode cX11_past 29 = .ok (.iconst 1, 1) := dK_c_246.2.2.2.2.2.2.2.1
theorem dK_c_247 : dk_P cX11_past [(30, (.invokestatic 126, 3)), (33, (.ifCond .ne 7, 3)), (36, (.bipush (-2), 2)), (38, (.istore 4, 2)), (40, (.iload 4, 2)), (42, (.ifCond .eq 12, 3)), (45, (.aload_n 0, 1)), (46, (.iload 4, 2))] := dk_of 30 (by decide +kernel)
theorem dX11_past_30 : decode cX11_past 30 = .ok (.invokestatic 126, 3) := dK_c_247.1
theorem dX11_past_33 : decode cX11_past 33 = .ok (.ifCond .ne 7, 3) := dK_c_247.2.1
theorem dX11_past_36 : decode cX11_past 36 = .ok (.bipush (-2), 2) := dK_c_247.2.2.1
theorem dX11_past_38 : decode cX11_past 38 = .ok (.istore 4, 2) := dK_c_247.2.2.2.1
theorem dX11_past_40 : decode cX11_past 40 = .ok (.iload 4, 2) := dK_c_247.2.2.2.2.1
theorem dX11_past_42 : decode cX11_past 42 = .ok (.ifCond .eq 12, 3) := dK_c_247.2.2.2.2.2.1
theorem dX11_past_45 : decode cX11_past 45 = .ok (.aload_n 0, 1) := dK_c_247.2.2.2.2.2.2.1
theorem dX11_past_46 : decode cX11_past 46 = .ok (.iload 4, 2) := dK_c_247.2.2.2.2.2.2.2.1
theorem dK_c_248 : dk_P cX11_past [(48, (.invokevirtual 238, 3)), (51, (.goto 23, 3)), (54, (.aload_n 0, 1)), (55, (.iload_n 1, 1)), (56, (.aload_n 0, 1)), (57, (.iload_n 1, 1)), (58, (.invokevirtual 223, 3)), (61, (.iconst 3, 1))] := dk_of 48 (by decide +kernel)
theorem dX11_past_48 : decode cX11_past 48 = .ok (.invokevirtual 238, 3) := dK_c_248.1
theorem dX11_past_51 : decode cX11_past 51 = .ok (.goto 23, 3) := dK_c_248.2.1
theorem dX11_past_54 : decode cX11_past 54 = .ok (.aload_n 0, 1) := dK_c_248.2.2.1
theorem dX11_past_55 : decode cX11_past 55 = .ok (.iload_n 1, 1) := dK_c_248.2.2.2.1
theorem dX11_past_56 : decode cX11_past 56 = .ok (.aload_n 0, 1) := dK_c_248.2.2.2.2.1
theorem dX11_past_57 : decode cX11_past 57 = .ok (.iload_n 1, 1) := dK_c_248.2.2.2.2.2.1
theorem dX11_past_58 : decode cX11_past 58 = .ok (.invokevirtual 223, 3) := dK_c_248.2.2.2.2.2.2.1
theorem dX11_past_61 : decode cX11_past 61 = .ok (.iconst 3, 1) := dK_c_248.2.2.2.2.2.2.2.1
theorem dK_c_249 : dk_P cX11_past [(62, (.iload_n 2, 1)), (63, (.invokevirtual 242, 3)), (66, (.aload_n 0, 1)), (67, (.invokevirtual 246, 3)), (70, (.iload_n 3, 1)), (71, (.invokestatic 250, 3)), (74, (.lreturn, 1))] := dk_of 62 (by decide +kernel)
theorem dX11_past_62 : decode cX11_past 62 = .ok (.iload_n 2, 1) := dK_c_249.1
theorem dX11_past_63 : decode cX11_past 63 = .ok (.invokevirtual 242, 3) := dK_c_249.2.1
theorem dX11_past_66 : decode cX11_past 66 = .ok (.aload_n 0, 1) := dK_c_249.2.2.1
theorem dX11_past_67 : decode cX11_past 67 = .ok (.invokevirtual 246, 3) := dK_c_249.2.2.2.1
theorem dX11_past_70 : decode cX11_past 70 = .ok (.iload_n 3, 1) := dK_c_249.2.2.2.2.1
theorem dX11_past_71 : decode cX11_past 71 = .ok (.invokestatic 250, 3) := dK_c_249.2.2.2.2.2.1
theorem dX11_past_74 : decode cX11_past 74 = .ok (.lreturn, 1) := dK_c_249.2.2.2.2.2.2.1
theorem dK_c_250 : dk_P cX11_bestLook [(0, (.aload_n 0, 1)), (1, (.iload_n 1, 1)), (2, (.invokevirtual 207, 3)), (5, (.ifCond .ne 9, 3)), (8, (.aload_n 0, 1)), (9, (.iconst (-1), 1)), (10, (.invokevirtual 115, 3)), (13, (.ireturn, 1))] := dk_of 0 (by decide +kernel)
theorem dX11_bestLook_0 : decode cX11_bestLook 0 = .ok (.aload_n 0, 1) := dK_c_250.1
theorem dX11_bestLook_1 : decode cX11_bestLook 1 = .ok (.iload_n 1, 1) := dK_c_250.2.1
theorem dX11_bestLook_2 : decode cX11_bestLook 2 = .ok (.invokevirtual 207, 3) := dK_c_250.2.2.1
theorem dX11_bestLook_5 : decode cX11_bestLook 5 = .ok (.ifCond .ne 9, 3) := dK_c_250.2.2.2.1
theorem dX11_bestLook_8 : decode cX11_bestLook 8 = .ok (.aload_n 0, 1) := dK_c_250.2.2.2.2.1
theorem dX11_bestLook_9 : decode cX11_bestLook 9 = .ok (.iconst (-1), 1) := dK_c_250.2.2.2.2.2.1
theorem dX11_bestLook_10 : decode cX11_bestLook 10 = .ok (.invokevirtual 115, 3) := dK_c_250.2.2.2.2.2.2.1
theorem dX11_bestLook_13 : decode cX11_bestLook 13 = .ok (.ireturn, 1) := dK_c_250.2.2.2.2.2.2.2.1
theorem dK_c_251 : dk_P cX11_bestLook [(14, (.aload_n 0, 1)), (15, (.getfield 31, 3)), (18, (.iload_n 1, 1)), (19, (.iaload, 1)), (20, (.istore_n 2, 1)), (21, (.iconst 0, 1)), (22, (.istore_n 3, 1)), (23, (.ldc2_w 257, 3))] := dk_of 14 (by decide +kernel)
theorem dX11_bestLook_14 : decode cX11_bestLook 14 = .ok (.aload_n 0, 1) := dK_c_251.1
theorem dX11_bestLook_15 : decode cX11_bestLook 15 = .ok (.getfield 31, 3) := dK_c_251.2.1
theorem dX11_bestLook_18 : decode cX11_bestLook 18 = .ok (.iload_n 1, 1) := dK_c_251.2.2.1
theorem dX11_bestLook_19 : decode cX11_bestLook 19 = .ok (.iaload, 1) := dK_c_251.2.2.2.1
theorem dX11_bestLook_20 : decode cX11_bestLook 20 = .ok (.istore_n 2, 1) := dK_c_251.2.2.2.2.1
theorem dX11_bestLook_21 : decode cX11_bestLook 21 = .ok (.iconst 0, 1) := dK_c_251.2.2.2.2.2.1
theorem dX11_bestLook_22 : decode cX11_bestLook 22 = .ok (.istore_n 3, 1) := dK_c_251.2.2.2.2.2.2.1
theorem dX11_bestLook_23 : decode cX11_bestLook 23 = .ok (.ldc2_w 257, 3) := dK_c_251.2.2.2.2.2.2.2.1
theorem dK_c_252 : dk_P cX11_bestLook [(26, (.lstore 4, 2)), (28, (.iconst 0, 1)), (29, (.istore 6, 2)), (31, (.iload 6, 2)), (33, (.iconst 5, 1)), (34, (.if_icmp .ge 42, 3)), (37, (.aload_n 0, 1)), (38, (.getfield 31, 3))] := dk_of 26 (by decide +kernel)
theorem dX11_bestLook_26 : decode cX11_bestLook 26 = .ok (.lstore 4, 2) := dK_c_252.1
theorem dX11_bestLook_28 : decode cX11_bestLook 28 = .ok (.iconst 0, 1) := dK_c_252.2.1
theorem dX11_bestLook_29 : decode cX11_bestLook 29 = .ok (.istore 6, 2) := dK_c_252.2.2.1
theorem dX11_bestLook_31 : decode cX11_bestLook 31 = .ok (.iload 6, 2) := dK_c_252.2.2.2.1
theorem dX11_bestLook_33 : decode cX11_bestLook 33 = .ok (.iconst 5, 1) := dK_c_252.2.2.2.2.1
theorem dX11_bestLook_34 : decode cX11_bestLook 34 = .ok (.if_icmp .ge 42, 3) := dK_c_252.2.2.2.2.2.1
theorem dX11_bestLook_37 : decode cX11_bestLook 37 = .ok (.aload_n 0, 1) := dK_c_252.2.2.2.2.2.2.1
theorem dX11_bestLook_38 : decode cX11_bestLook 38 = .ok (.getfield 31, 3) := dK_c_252.2.2.2.2.2.2.2.1
theorem dK_c_253 : dk_P cX11_bestLook [(41, (.iload_n 1, 1)), (42, (.iload 6, 2)), (44, (.iastore, 1)), (45, (.aload_n 0, 1)), (46, (.iload_n 1, 1)), (47, (.invokevirtual 254, 3)), (50, (.lstore 7, 2)), (52, (.lload 7, 2))] := dk_of 41 (by decide +kernel)
theorem dX11_bestLook_41 : decode cX11_bestLook 41 = .ok (.iload_n 1, 1) := dK_c_253.1
theorem dX11_bestLook_42 : decode cX11_bestLook 42 = .ok (.iload 6, 2) := dK_c_253.2.1
theorem dX11_bestLook_44 : decode cX11_bestLook 44 = .ok (.iastore, 1) := dK_c_253.2.2.1
theorem dX11_bestLook_45 : decode cX11_bestLook 45 = .ok (.aload_n 0, 1) := dK_c_253.2.2.2.1
theorem dX11_bestLook_46 : decode cX11_bestLook 46 = .ok (.iload_n 1, 1) := dK_c_253.2.2.2.2.1
theorem dX11_bestLook_47 : decode cX11_bestLook 47 = .ok (.invokevirtual 254, 3) := dK_c_253.2.2.2.2.2.1
theorem dX11_bestLook_50 : decode cX11_bestLook 50 = .ok (.lstore 7, 2) := dK_c_253.2.2.2.2.2.2.1
theorem dX11_bestLook_52 : decode cX11_bestLook 52 = .ok (.lload 7, 2) := dK_c_253.2.2.2.2.2.2.2.1
theorem dK_c_254 : dk_P cX11_bestLook [(54, (.lload 4, 2)), (56, (.lcmp, 1)), (57, (.ifCond .gt 6, 3)), (60, (.goto 10, 3)), (63, (.iload 6, 2)), (65, (.istore_n 3, 1)), (66, (.lload 7, 2)), (68, (.lstore 4, 2))] := dk_of 54 (by decide +kernel)
theorem dX11_bestLook_54 : decode cX11_bestLook 54 = .ok (.lload 4, 2) := dK_c_254.1
theorem dX11_bestLook_56 : decode cX11_bestLook 56 = .ok (.lcmp, 1) := dK_c_254.2.1
theorem dX11_bestLook_57 : decode cX11_bestLook 57 = .ok (.ifCond .gt 6, 3) := dK_c_254.2.2.1
theorem dX11_bestLook_60 : decode cX11_bestLook 60 = .ok (.goto 10, 3) := dK_c_254.2.2.2.1
theorem dX11_bestLook_63 : decode cX11_bestLook 63 = .ok (.iload 6, 2) := dK_c_254.2.2.2.2.1
theorem dX11_bestLook_65 : decode cX11_bestLook 65 = .ok (.istore_n 3, 1) := dK_c_254.2.2.2.2.2.1
theorem dX11_bestLook_66 : decode cX11_bestLook 66 = .ok (.lload 7, 2) := dK_c_254.2.2.2.2.2.2.1
theorem dX11_bestLook_68 : decode cX11_bestLook 68 = .ok (.lstore 4, 2) := dK_c_254.2.2.2.2.2.2.2.1
theorem dK_c_255 : dk_P cX11_bestLook [(70, (.iinc 6 1, 3)), (73, (.goto (-42), 3)), (76, (.aload_n 0, 1)), (77, (.getfield 31, 3)), (80, (.iload_n 1, 1)), (81, (.iload_n 2, 1)), (82, (.iastore, 1)), (83, (.iload_n 3, 1))] := dk_of 70 (by decide +kernel)
theorem dX11_bestLook_70 : decode cX11_bestLook 70 = .ok (.iinc 6 1, 3) := dK_c_255.1
theorem dX11_bestLook_73 : decode cX11_bestLook 73 = .ok (.goto (-42), 3) := dK_c_255.2.1
theorem dX11_bestLook_76 : decode cX11_bestLook 76 = .ok (.aload_n 0, 1) := dK_c_255.2.2.1
theorem dX11_bestLook_77 : decode cX11_bestLook 77 = .ok (.getfield 31, 3) := dK_c_255.2.2.2.1
theorem dX11_bestLook_80 : decode cX11_bestLook 80 = .ok (.iload_n 1, 1) := dK_c_255.2.2.2.2.1
theorem dX11_bestLook_81 : decode cX11_bestLook 81 = .ok (.iload_n 2, 1) := dK_c_255.2.2.2.2.2.1
theorem dX11_bestLook_82 : decode cX11_bestLook 82 = .ok (.iastore, 1) := dK_c_255.2.2.2.2.2.2.1
theorem dX11_bestLook_83 : decode cX11_bestLook 83 = .ok (.iload_n 3, 1) := dK_c_255.2.2.2.2.2.2.2.1
theorem dK_c_256 : dk_P cX11_bestLook [(84, (.ireturn, 1))] := dk_of 84 (by decide +kernel)
theorem dX11_bestLook_84 : decode cX11_bestLook 84 = .ok (.ireturn, 1) := dK_c_256.1
theorem dK_c_257 : dk_P cX11_bestMark [(0, (.aload_n 0, 1)), (1, (.iload_n 1, 1)), (2, (.invokevirtual 207, 3)), (5, (.ifCond .ne 7, 3)), (8, (.iconst (-1), 1)), (9, (.goto 11, 3)), (12, (.iload_n 2, 1)), (13, (.iconst (-1), 1))] := dk_of 0 (by decide +kernel)
theorem dX11_bestMark_0 : decode cX11_bestMark 0 = .ok (.aload_n 0, 1) := dK_c_257.1
theorem dX11_bestMark_1 : decode cX11_bestMark 1 = .ok (.iload_n 1, 1) := dK_c_257.2.1
theorem dX11_bestMark_2 : decode cX11_bestMark 2 = .ok (.invokevirtual 207, 3) := dK_c_257.2.2.1
theorem dX11_bestMark_5 : decode cX11_bestMark 5 = .ok (.ifCond .ne 7, 3) := dK_c_257.2.2.2.1
theorem dX11_bestMark_8 : decode cX11_bestMark 8 = .ok (.iconst (-1), 1) := dK_c_257.2.2.2.2.1
theorem dX11_bestMark_9 : decode cX11_bestMark 9 = .ok (.goto 11, 3) := dK_c_257.2.2.2.2.2.1
theorem dX11_bestMark_12 : decode cX11_bestMark 12 = .ok (.iload_n 2, 1) := dK_c_257.2.2.2.2.2.2.1
theorem dX11_bestMark_13 : decode cX11_bestMark 13 = .ok (.iconst (-1), 1) := dK_c_257.2.2.2.2.2.2.2.1
theorem dK_c_258 : dk_P cX11_bestMark [(14, (.sipush 999, 3)), (17, (.invokestatic 108, 3)), (20, (.istore_n 3, 1)), (21, (.iload_n 3, 1)), (22, (.ifCond .eq 9, 3)), (25, (.aload_n 0, 1)), (26, (.iload_n 3, 1)), (27, (.invokevirtual 115, 3))] := dk_of 14 (by decide +kernel)
theorem dX11_bestMark_14 : decode cX11_bestMark 14 = .ok (.sipush 999, 3) := dK_c_258.1
theorem dX11_bestMark_17 : decode cX11_bestMark 17 = .ok (.invokestatic 108, 3) := dK_c_258.2.1
theorem dX11_bestMark_20 : decode cX11_bestMark 20 = .ok (.istore_n 3, 1) := dK_c_258.2.2.1
theorem dX11_bestMark_21 : decode cX11_bestMark 21 = .ok (.iload_n 3, 1) := dK_c_258.2.2.2.1
theorem dX11_bestMark_22 : decode cX11_bestMark 22 = .ok (.ifCond .eq 9, 3) := dK_c_258.2.2.2.2.1
theorem dX11_bestMark_25 : decode cX11_bestMark 25 = .ok (.aload_n 0, 1) := dK_c_258.2.2.2.2.2.1
theorem dX11_bestMark_26 : decode cX11_bestMark 26 = .ok (.iload_n 3, 1) := dK_c_258.2.2.2.2.2.2.1
theorem dX11_bestMark_27 : decode cX11_bestMark 27 = .ok (.invokevirtual 115, 3) := dK_c_258.2.2.2.2.2.2.2.1
theorem dK_c_259 : dk_P cX11_bestMark [(30, (.ireturn, 1)), (31, (.aload_n 0, 1)), (32, (.getfield 34, 3)), (35, (.iload_n 1, 1)), (36, (.iaload, 1)), (37, (.istore 4, 2)), (39, (.iconst 0, 1)), (40, (.istore 5, 2))] := dk_of 30 (by decide +kernel)
theorem dX11_bestMark_30 : decode cX11_bestMark 30 = .ok (.ireturn, 1) := dK_c_259.1
theorem dX11_bestMark_31 : decode cX11_bestMark 31 = .ok (.aload_n 0, 1) := dK_c_259.2.1
theorem dX11_bestMark_32 : decode cX11_bestMark 32 = .ok (.getfield 34, 3) := dK_c_259.2.2.1
theorem dX11_bestMark_35 : decode cX11_bestMark 35 = .ok (.iload_n 1, 1) := dK_c_259.2.2.2.1
theorem dX11_bestMark_36 : decode cX11_bestMark 36 = .ok (.iaload, 1) := dK_c_259.2.2.2.2.1
theorem dX11_bestMark_37 : decode cX11_bestMark 37 = .ok (.istore 4, 2) := dK_c_259.2.2.2.2.2.1
theorem dX11_bestMark_39 : decode cX11_bestMark 39 = .ok (.iconst 0, 1) := dK_c_259.2.2.2.2.2.2.1
theorem dX11_bestMark_40 : decode cX11_bestMark 40 = .ok (.istore 5, 2) := dK_c_259.2.2.2.2.2.2.2.1
theorem dK_c_260 : dk_P cX11_bestMark [(42, (.ldc2_w 257, 3)), (45, (.lstore 6, 2)), (47, (.bipush (-40), 2)), (49, (.istore 8, 2)), (51, (.iload 8, 2)), (53, (.bipush 41, 2)), (55, (.if_icmp .ge 94, 3)), (58, (.aload_n 0, 1))] := dk_of 42 (by decide +kernel)
theorem dX11_bestMark_42 : decode cX11_bestMark 42 = .ok (.ldc2_w 257, 3) := dK_c_260.1
theorem dX11_bestMark_45 : decode cX11_bestMark 45 = .ok (.lstore 6, 2) := dK_c_260.2.1
theorem dX11_bestMark_47 : decode cX11_bestMark 47 = .ok (.bipush (-40), 2) := dK_c_260.2.2.1
theorem dX11_bestMark_49 : decode cX11_bestMark 49 = .ok (.istore 8, 2) := dK_c_260.2.2.2.1
theorem dX11_bestMark_51 : decode cX11_bestMark 51 = .ok (.iload 8, 2) := dK_c_260.2.2.2.2.1
theorem dX11_bestMark_53 : decode cX11_bestMark 53 = .ok (.bipush 41, 2) := dK_c_260.2.2.2.2.2.1
theorem dX11_bestMark_55 : decode cX11_bestMark 55 = .ok (.if_icmp .ge 94, 3) := dK_c_260.2.2.2.2.2.2.1
theorem dX11_bestMark_58 : decode cX11_bestMark 58 = .ok (.aload_n 0, 1) := dK_c_260.2.2.2.2.2.2.2.1
theorem dK_c_261 : dk_P cX11_bestMark [(59, (.getfield 34, 3)), (62, (.iload_n 1, 1)), (63, (.iload 4, 2)), (65, (.iload 8, 2)), (67, (.iadd, 1)), (68, (.ifCond .ge 7, 3)), (71, (.iconst 0, 1)), (72, (.goto 25, 3))] := dk_of 59 (by decide +kernel)
theorem dX11_bestMark_59 : decode cX11_bestMark 59 = .ok (.getfield 34, 3) := dK_c_261.1
theorem dX11_bestMark_62 : decode cX11_bestMark 62 = .ok (.iload_n 1, 1) := dK_c_261.2.1
theorem dX11_bestMark_63 : decode cX11_bestMark 63 = .ok (.iload 4, 2) := dK_c_261.2.2.1
theorem dX11_bestMark_65 : decode cX11_bestMark 65 = .ok (.iload 8, 2) := dK_c_261.2.2.2.1
theorem dX11_bestMark_67 : decode cX11_bestMark 67 = .ok (.iadd, 1) := dK_c_261.2.2.2.2.1
theorem dX11_bestMark_68 : decode cX11_bestMark 68 = .ok (.ifCond .ge 7, 3) := dK_c_261.2.2.2.2.2.1
theorem dX11_bestMark_71 : decode cX11_bestMark 71 = .ok (.iconst 0, 1) := dK_c_261.2.2.2.2.2.2.1
theorem dX11_bestMark_72 : decode cX11_bestMark 72 = .ok (.goto 25, 3) := dK_c_261.2.2.2.2.2.2.2.1
theorem dK_c_262 : dk_P cX11_bestMark [(75, (.iload 4, 2)), (77, (.iload 8, 2)), (79, (.iadd, 1)), (80, (.sipush 2400, 3)), (83, (.if_icmp .le 9, 3)), (86, (.sipush 2400, 3)), (89, (.goto 8, 3)), (92, (.iload 4, 2))] := dk_of 75 (by decide +kernel)
theorem dX11_bestMark_75 : decode cX11_bestMark 75 = .ok (.iload 4, 2) := dK_c_262.1
theorem dX11_bestMark_77 : decode cX11_bestMark 77 = .ok (.iload 8, 2) := dK_c_262.2.1
theorem dX11_bestMark_79 : decode cX11_bestMark 79 = .ok (.iadd, 1) := dK_c_262.2.2.1
theorem dX11_bestMark_80 : decode cX11_bestMark 80 = .ok (.sipush 2400, 3) := dK_c_262.2.2.2.1
theorem dX11_bestMark_83 : decode cX11_bestMark 83 = .ok (.if_icmp .le 9, 3) := dK_c_262.2.2.2.2.1
theorem dX11_bestMark_86 : decode cX11_bestMark 86 = .ok (.sipush 2400, 3) := dK_c_262.2.2.2.2.2.1
theorem dX11_bestMark_89 : decode cX11_bestMark 89 = .ok (.goto 8, 3) := dK_c_262.2.2.2.2.2.2.1
theorem dX11_bestMark_92 : decode cX11_bestMark 92 = .ok (.iload 4, 2) := dK_c_262.2.2.2.2.2.2.2.1
theorem dK_c_263 : dk_P cX11_bestMark [(94, (.iload 8, 2)), (96, (.iadd, 1)), (97, (.iastore, 1)), (98, (.aload_n 0, 1)), (99, (.iload_n 1, 1)), (100, (.aload_n 0, 1)), (101, (.iload_n 1, 1)), (102, (.invokevirtual 223, 3))] := dk_of 94 (by decide +kernel)
theorem dX11_bestMark_94 : decode cX11_bestMark 94 = .ok (.iload 8, 2) := dK_c_263.1
theorem dX11_bestMark_96 : decode cX11_bestMark 96 = .ok (.iadd, 1) := dK_c_263.2.1
theorem dX11_bestMark_97 : decode cX11_bestMark 97 = .ok (.iastore, 1) := dK_c_263.2.2.1
theorem dX11_bestMark_98 : decode cX11_bestMark 98 = .ok (.aload_n 0, 1) := dK_c_263.2.2.2.1
theorem dX11_bestMark_99 : decode cX11_bestMark 99 = .ok (.iload_n 1, 1) := dK_c_263.2.2.2.2.1
theorem dX11_bestMark_100 : decode cX11_bestMark 100 = .ok (.aload_n 0, 1) := dK_c_263.2.2.2.2.2.1
theorem dX11_bestMark_101 : decode cX11_bestMark 101 = .ok (.iload_n 1, 1) := dK_c_263.2.2.2.2.2.2.1
theorem dX11_bestMark_102 : decode cX11_bestMark 102 = .ok (.invokevirtual 223, 3) := dK_c_263.2.2.2.2.2.2.2.1
theorem dK_c_264 : dk_P cX11_bestMark [(105, (.iload_n 2, 1)), (106, (.ifCond .ge 7, 3)), (109, (.iconst 2, 1)), (110, (.goto 4, 3)), (113, (.iconst 3, 1)), (114, (.iload_n 2, 1)), (115, (.invokevirtual 242, 3)), (118, (.lstore 9, 2))] := dk_of 105 (by decide +kernel)
theorem dX11_bestMark_105 : decode cX11_bestMark 105 = .ok (.iload_n 2, 1) := dK_c_264.1
theorem dX11_bestMark_106 : decode cX11_bestMark 106 = .ok (.ifCond .ge 7, 3) := dK_c_264.2.1
theorem dX11_bestMark_109 : decode cX11_bestMark 109 = .ok (.iconst 2, 1) := dK_c_264.2.2.1
theorem dX11_bestMark_110 : decode cX11_bestMark 110 = .ok (.goto 4, 3) := dK_c_264.2.2.2.1
theorem dX11_bestMark_113 : decode cX11_bestMark 113 = .ok (.iconst 3, 1) := dK_c_264.2.2.2.2.1
theorem dX11_bestMark_114 : decode cX11_bestMark 114 = .ok (.iload_n 2, 1) := dK_c_264.2.2.2.2.2.1
theorem dX11_bestMark_115 : decode cX11_bestMark 115 = .ok (.invokevirtual 242, 3) := dK_c_264.2.2.2.2.2.2.1
theorem dX11_bestMark_118 : decode cX11_bestMark 118 = .ok (.lstore 9, 2) := dK_c_264.2.2.2.2.2.2.2.1
theorem dK_c_265 : dk_P cX11_bestMark [(120, (.lload 9, 2)), (122, (.lload 6, 2)), (124, (.lcmp, 1)), (125, (.ifCond .gt 6, 3)), (128, (.goto 15, 3)), (131, (.aload_n 0, 1)), (132, (.getfield 34, 3)), (135, (.iload_n 1, 1))] := dk_of 120 (by decide +kernel)
theorem dX11_bestMark_120 : decode cX11_bestMark 120 = .ok (.lload 9, 2) := dK_c_265.1
theorem dX11_bestMark_122 : decode cX11_bestMark 122 = .ok (.lload 6, 2) := dK_c_265.2.1
theorem dX11_bestMark_124 : decode cX11_bestMark 124 = .ok (.lcmp, 1) := dK_c_265.2.2.1
theorem dX11_bestMark_125 : decode cX11_bestMark 125 = .ok (.ifCond .gt 6, 3) := dK_c_265.2.2.2.1
theorem dX11_bestMark_128 : decode cX11_bestMark 128 = .ok (.goto 15, 3) := dK_c_265.2.2.2.2.1
theorem dX11_bestMark_131 : decode cX11_bestMark 131 = .ok (.aload_n 0, 1) := dK_c_265.2.2.2.2.2.1
theorem dX11_bestMark_132 : decode cX11_bestMark 132 = .ok (.getfield 34, 3) := dK_c_265.2.2.2.2.2.2.1
theorem dX11_bestMark_135 : decode cX11_bestMark 135 = .ok (.iload_n 1, 1) := dK_c_265.2.2.2.2.2.2.2.1
theorem dK_c_266 : dk_P cX11_bestMark [(136, (.iaload, 1)), (137, (.istore 5, 2)), (139, (.lload 9, 2)), (141, (.lstore 6, 2)), (143, (.iinc 8 1, 3)), (146, (.goto (-95), 3)), (149, (.aload_n 0, 1)), (150, (.getfield 34, 3))] := dk_of 136 (by decide +kernel)
theorem dX11_bestMark_136 : decode cX11_bestMark 136 = .ok (.iaload, 1) := dK_c_266.1
theorem dX11_bestMark_137 : decode cX11_bestMark 137 = .ok (.istore 5, 2) := dK_c_266.2.1
theorem dX11_bestMark_139 : decode cX11_bestMark 139 = .ok (.lload 9, 2) := dK_c_266.2.2.1
theorem dX11_bestMark_141 : decode cX11_bestMark 141 = .ok (.lstore 6, 2) := dK_c_266.2.2.2.1
theorem dX11_bestMark_143 : decode cX11_bestMark 143 = .ok (.iinc 8 1, 3) := dK_c_266.2.2.2.2.1
theorem dX11_bestMark_146 : decode cX11_bestMark 146 = .ok (.goto (-95), 3) := dK_c_266.2.2.2.2.2.1
theorem dX11_bestMark_149 : decode cX11_bestMark 149 = .ok (.aload_n 0, 1) := dK_c_266.2.2.2.2.2.2.1
theorem dX11_bestMark_150 : decode cX11_bestMark 150 = .ok (.getfield 34, 3) := dK_c_266.2.2.2.2.2.2.2.1
theorem dK_c_267 : dk_P cX11_bestMark [(153, (.iload_n 1, 1)), (154, (.iload 4, 2)), (156, (.iastore, 1)), (157, (.iload 5, 2)), (159, (.ireturn, 1))] := dk_of 153 (by decide +kernel)
theorem dX11_bestMark_153 : decode cX11_bestMark 153 = .ok (.iload_n 1, 1) := dK_c_267.1
theorem dX11_bestMark_154 : decode cX11_bestMark 154 = .ok (.iload 4, 2) := dK_c_267.2.1
theorem dX11_bestMark_156 : decode cX11_bestMark 156 = .ok (.iastore, 1) := dK_c_267.2.2.1
theorem dX11_bestMark_157 : decode cX11_bestMark 157 = .ok (.iload 5, 2) := dK_c_267.2.2.2.1
theorem dX11_bestMark_159 : decode cX11_bestMark 159 = .ok (.ireturn, 1) := dK_c_267.2.2.2.2.1
theorem dK_c_268 : dk_P cX11_back [(0, (.aload_n 0, 1)), (1, (.iload_n 1, 1)), (2, (.invokevirtual 207, 3)), (5, (.ifCond .ne 7, 3)), (8, (.iconst (-1), 1)), (9, (.goto 11, 3)), (12, (.iload_n 2, 1)), (13, (.bipush (-9), 2))] := dk_of 0 (by decide +kernel)
theorem dX11_back_0 : decode cX11_back 0 = .ok (.aload_n 0, 1) := dK_c_268.1
theorem dX11_back_1 : decode cX11_back 1 = .ok (.iload_n 1, 1) := dK_c_268.2.1
theorem dX11_back_2 : decode cX11_back 2 = .ok (.invokevirtual 207, 3) := dK_c_268.2.2.1
theorem dX11_back_5 : decode cX11_back 5 = .ok (.ifCond .ne 7, 3) := dK_c_268.2.2.2.1
theorem dX11_back_8 : decode cX11_back 8 = .ok (.iconst (-1), 1) := dK_c_268.2.2.2.2.1
theorem dX11_back_9 : decode cX11_back 9 = .ok (.goto 11, 3) := dK_c_268.2.2.2.2.2.1
theorem dX11_back_12 : decode cX11_back 12 = .ok (.iload_n 2, 1) := dK_c_268.2.2.2.2.2.2.1
theorem dX11_back_13 : decode cX11_back 13 = .ok (.bipush (-9), 2) := dK_c_268.2.2.2.2.2.2.2.1
theorem dK_c_269 : dk_P cX11_back [(15, (.bipush 9, 2)), (17, (.invokestatic 108, 3)), (20, (.istore_n 3, 1)), (21, (.iload_n 3, 1)), (22, (.ifCond .eq 11, 3)), (25, (.aload_n 0, 1)), (26, (.iload_n 3, 1)), (27, (.invokevirtual 220, 3))] := dk_of 15 (by decide +kernel)
theorem dX11_back_15 : decode cX11_back 15 = .ok (.bipush 9, 2) := dK_c_269.1
theorem dX11_back_17 : decode cX11_back 17 = .ok (.invokestatic 108, 3) := dK_c_269.2.1
theorem dX11_back_20 : decode cX11_back 20 = .ok (.istore_n 3, 1) := dK_c_269.2.2.1
theorem dX11_back_21 : decode cX11_back 21 = .ok (.iload_n 3, 1) := dK_c_269.2.2.2.1
theorem dX11_back_22 : decode cX11_back 22 = .ok (.ifCond .eq 11, 3) := dK_c_269.2.2.2.2.1
theorem dX11_back_25 : decode cX11_back 25 = .ok (.aload_n 0, 1) := dK_c_269.2.2.2.2.2.1
theorem dX11_back_26 : decode cX11_back 26 = .ok (.iload_n 3, 1) := dK_c_269.2.2.2.2.2.2.1
theorem dX11_back_27 : decode cX11_back 27 = .ok (.invokevirtual 220, 3) := dK_c_269.2.2.2.2.2.2.2.1
theorem dK_c_270 : dk_P cX11_back [(30, (.goto 19, 3)), (33, (.aload_n 0, 1)), (34, (.iload_n 1, 1)), (35, (.iload_n 2, 1)), (36, (.invokevirtual 200, 3)), (39, (.aload_n 0, 1)), (40, (.iload_n 1, 1)), (41, (.aload_n 0, 1))] := dk_of 30 (by decide +kernel)
theorem dX11_back_30 : decode cX11_back 30 = .ok (.goto 19, 3) := dK_c_270.1
theorem dX11_back_33 : decode cX11_back 33 = .ok (.aload_n 0, 1) := dK_c_270.2.1
theorem dX11_back_34 : decode cX11_back 34 = .ok (.iload_n 1, 1) := dK_c_270.2.2.1
theorem dX11_back_35 : decode cX11_back 35 = .ok (.iload_n 2, 1) := dK_c_270.2.2.2.1
theorem dX11_back_36 : decode cX11_back 36 = .ok (.invokevirtual 200, 3) := dK_c_270.2.2.2.2.1
theorem dX11_back_39 : decode cX11_back 39 = .ok (.aload_n 0, 1) := dK_c_270.2.2.2.2.2.1
theorem dX11_back_40 : decode cX11_back 40 = .ok (.iload_n 1, 1) := dK_c_270.2.2.2.2.2.2.1
theorem dX11_back_41 : decode cX11_back 41 = .ok (.aload_n 0, 1) := dK_c_270.2.2.2.2.2.2.2.1
theorem dK_c_271 : dk_P cX11_back [(42, (.getfield 157, 3)), (45, (.invokevirtual 200, 3)), (48, (.isub, 1)), (49, (.ireturn, 1))] := dk_of 42 (by decide +kernel)
theorem dX11_back_42 : decode cX11_back 42 = .ok (.getfield 157, 3) := dK_c_271.1
theorem dX11_back_45 : decode cX11_back 45 = .ok (.invokevirtual 200, 3) := dK_c_271.2.1
theorem dX11_back_48 : decode cX11_back 48 = .ok (.isub, 1) := dK_c_271.2.2.1
theorem dX11_back_49 : decode cX11_back 49 = .ok (.ireturn, 1) := dK_c_271.2.2.2.1
theorem dK_c_272 : dk_P cX11_triedAs [(0, (.aload_n 0, 1)), (1, (.getfield 40, 3)), (4, (.iload_n 1, 1)), (5, (.iaload, 1)), (6, (.bipush (-9), 2)), (8, (.if_icmp .ne 25, 3)), (11, (.iload_n 2, 1)), (12, (.iconst 2, 1))] := dk_of 0 (by decide +kernel)
theorem dX11_triedAs_0 : decode cX11_triedAs 0 = .ok (.aload_n 0, 1) := dK_c_272.1
theorem dX11_triedAs_1 : decode cX11_triedAs 1 = .ok (.getfield 40, 3) := dK_c_272.2.1
theorem dX11_triedAs_4 : decode cX11_triedAs 4 = .ok (.iload_n 1, 1) := dK_c_272.2.2.1
theorem dX11_triedAs_5 : decode cX11_triedAs 5 = .ok (.iaload, 1) := dK_c_272.2.2.2.1
theorem dX11_triedAs_6 : decode cX11_triedAs 6 = .ok (.bipush (-9), 2) := dK_c_272.2.2.2.2.1
theorem dX11_triedAs_8 : decode cX11_triedAs 8 = .ok (.if_icmp .ne 25, 3) := dK_c_272.2.2.2.2.2.1
theorem dX11_triedAs_11 : decode cX11_triedAs 11 = .ok (.iload_n 2, 1) := dK_c_272.2.2.2.2.2.2.1
theorem dX11_triedAs_12 : decode cX11_triedAs 12 = .ok (.iconst 2, 1) := dK_c_272.2.2.2.2.2.2.2.1
theorem dK_c_273 : dk_P cX11_triedAs [(13, (.if_icmp .ne 18, 3)), (16, (.aload_n 0, 1)), (17, (.aload_n 0, 1)), (18, (.getfield 37, 3)), (21, (.iload_n 1, 1)), (22, (.iaload, 1)), (23, (.iconst 0, 1)), (24, (.iconst 0, 1))] := dk_of 13 (by decide +kernel)
theorem dX11_triedAs_13 : decode cX11_triedAs 13 = .ok (.if_icmp .ne 18, 3) := dK_c_273.1
theorem dX11_triedAs_16 : decode cX11_triedAs 16 = .ok (.aload_n 0, 1) := dK_c_273.2.1
theorem dX11_triedAs_17 : decode cX11_triedAs 17 = .ok (.aload_n 0, 1) := dK_c_273.2.2.1
theorem dX11_triedAs_18 : decode cX11_triedAs 18 = .ok (.getfield 37, 3) := dK_c_273.2.2.2.1
theorem dX11_triedAs_21 : decode cX11_triedAs 21 = .ok (.iload_n 1, 1) := dK_c_273.2.2.2.2.1
theorem dX11_triedAs_22 : decode cX11_triedAs 22 = .ok (.iaload, 1) := dK_c_273.2.2.2.2.2.1
theorem dX11_triedAs_23 : decode cX11_triedAs 23 = .ok (.iconst 0, 1) := dK_c_273.2.2.2.2.2.2.1
theorem dX11_triedAs_24 : decode cX11_triedAs 24 = .ok (.iconst 0, 1) := dK_c_273.2.2.2.2.2.2.2.1
theorem dK_c_274 : dk_P cX11_triedAs [(25, (.invokevirtual 163, 3)), (28, (.goto 4, 3)), (31, (.iconst 0, 1)), (32, (.ireturn, 1)), (33, (.aload_n 0, 1)), (34, (.getfield 40, 3)), (37, (.iload_n 1, 1)), (38, (.iaload, 1))] := dk_of 25 (by decide +kernel)
theorem dX11_triedAs_25 : decode cX11_triedAs 25 = .ok (.invokevirtual 163, 3) := dK_c_274.1
theorem dX11_triedAs_28 : decode cX11_triedAs 28 = .ok (.goto 4, 3) := dK_c_274.2.1
theorem dX11_triedAs_31 : decode cX11_triedAs 31 = .ok (.iconst 0, 1) := dK_c_274.2.2.1
theorem dX11_triedAs_32 : decode cX11_triedAs 32 = .ok (.ireturn, 1) := dK_c_274.2.2.2.1
theorem dX11_triedAs_33 : decode cX11_triedAs 33 = .ok (.aload_n 0, 1) := dK_c_274.2.2.2.2.1
theorem dX11_triedAs_34 : decode cX11_triedAs 34 = .ok (.getfield 40, 3) := dK_c_274.2.2.2.2.2.1
theorem dX11_triedAs_37 : decode cX11_triedAs 37 = .ok (.iload_n 1, 1) := dK_c_274.2.2.2.2.2.2.1
theorem dX11_triedAs_38 : decode cX11_triedAs 38 = .ok (.iaload, 1) := dK_c_274.2.2.2.2.2.2.2.1
theorem dK_c_275 : dk_P cX11_triedAs [(39, (.bipush (-8), 2)), (41, (.if_icmp .ne 5, 3)), (44, (.iconst 0, 1)), (45, (.ireturn, 1)), (46, (.aload_n 0, 1)), (47, (.getfield 40, 3)), (50, (.iload_n 1, 1)), (51, (.iaload, 1))] := dk_of 39 (by decide +kernel)
theorem dX11_triedAs_39 : decode cX11_triedAs 39 = .ok (.bipush (-8), 2) := dK_c_275.1
theorem dX11_triedAs_41 : decode cX11_triedAs 41 = .ok (.if_icmp .ne 5, 3) := dK_c_275.2.1
theorem dX11_triedAs_44 : decode cX11_triedAs 44 = .ok (.iconst 0, 1) := dK_c_275.2.2.1
theorem dX11_triedAs_45 : decode cX11_triedAs 45 = .ok (.ireturn, 1) := dK_c_275.2.2.2.1
theorem dX11_triedAs_46 : decode cX11_triedAs 46 = .ok (.aload_n 0, 1) := dK_c_275.2.2.2.2.1
theorem dX11_triedAs_47 : decode cX11_triedAs 47 = .ok (.getfield 40, 3) := dK_c_275.2.2.2.2.2.1
theorem dX11_triedAs_50 : decode cX11_triedAs 50 = .ok (.iload_n 1, 1) := dK_c_275.2.2.2.2.2.2.1
theorem dX11_triedAs_51 : decode cX11_triedAs 51 = .ok (.iaload, 1) := dK_c_275.2.2.2.2.2.2.2.1
theorem dK_c_276 : dk_P cX11_triedAs [(52, (.iload_n 2, 1)), (53, (.iconst 1, 1)), (54, (.if_icmp .ne 12, 3)), (57, (.aload_n 0, 1)), (58, (.getfield 43, 3)), (61, (.iload_n 1, 1)), (62, (.iaload, 1)), (63, (.goto 4, 3))] := dk_of 52 (by decide +kernel)
theorem dX11_triedAs_52 : decode cX11_triedAs 52 = .ok (.iload_n 2, 1) := dK_c_276.1
theorem dX11_triedAs_53 : decode cX11_triedAs 53 = .ok (.iconst 1, 1) := dK_c_276.2.1
theorem dX11_triedAs_54 : decode cX11_triedAs 54 = .ok (.if_icmp .ne 12, 3) := dK_c_276.2.2.1
theorem dX11_triedAs_57 : decode cX11_triedAs 57 = .ok (.aload_n 0, 1) := dK_c_276.2.2.2.1
theorem dX11_triedAs_58 : decode cX11_triedAs 58 = .ok (.getfield 43, 3) := dK_c_276.2.2.2.2.1
theorem dX11_triedAs_61 : decode cX11_triedAs 61 = .ok (.iload_n 1, 1) := dK_c_276.2.2.2.2.2.1
theorem dX11_triedAs_62 : decode cX11_triedAs 62 = .ok (.iaload, 1) := dK_c_276.2.2.2.2.2.2.1
theorem dX11_triedAs_63 : decode cX11_triedAs 63 = .ok (.goto 4, 3) := dK_c_276.2.2.2.2.2.2.2.1
theorem dK_c_277 : dk_P cX11_triedAs [(66, (.iconst 0, 1)), (67, (.iadd, 1)), (68, (.ireturn, 1))] := dk_of 66 (by decide +kernel)
theorem dX11_triedAs_66 : decode cX11_triedAs 66 = .ok (.iconst 0, 1) := dK_c_277.1
theorem dX11_triedAs_67 : decode cX11_triedAs 67 = .ok (.iadd, 1) := dK_c_277.2.1
theorem dX11_triedAs_68 : decode cX11_triedAs 68 = .ok (.ireturn, 1) := dK_c_277.2.2.1
theorem dK_c_278 : dk_P cX11_findBest [(0, (.iconst 0, 1)), (1, (.istore_n 3, 1)), (2, (.iload_n 3, 1)), (3, (.iconst 4, 1)), (4, (.if_icmp .ge 23, 3)), (7, (.aload_n 0, 1)), (8, (.getfield 68, 3)), (11, (.iload_n 3, 1))] := dk_of 0 (by decide +kernel)
theorem dX11_findBest_0 : decode cX11_findBest 0 = .ok (.iconst 0, 1) := dK_c_278.1
theorem dX11_findBest_1 : decode cX11_findBest 1 = .ok (.istore_n 3, 1) := dK_c_278.2.1
theorem dX11_findBest_2 : decode cX11_findBest 2 = .ok (.iload_n 3, 1) := dK_c_278.2.2.1
theorem dX11_findBest_3 : decode cX11_findBest 3 = .ok (.iconst 4, 1) := dK_c_278.2.2.2.1
theorem dX11_findBest_4 : decode cX11_findBest 4 = .ok (.if_icmp .ge 23, 3) := dK_c_278.2.2.2.2.1
theorem dX11_findBest_7 : decode cX11_findBest 7 = .ok (.aload_n 0, 1) := dK_c_278.2.2.2.2.2.1
theorem dX11_findBest_8 : decode cX11_findBest 8 = .ok (.getfield 68, 3) := dK_c_278.2.2.2.2.2.2.1
theorem dX11_findBest_11 : decode cX11_findBest 11 = .ok (.iload_n 3, 1) := dK_c_278.2.2.2.2.2.2.2.1
theorem dK_c_279 : dk_P cX11_findBest [(12, (.iconst 0, 1)), (13, (.iastore, 1)), (14, (.aload_n 0, 1)), (15, (.getfield 71, 3)), (18, (.iload_n 3, 1)), (19, (.iconst 0, 1)), (20, (.iastore, 1)), (21, (.iinc 3 1, 3))] := dk_of 12 (by decide +kernel)
theorem dX11_findBest_12 : decode cX11_findBest 12 = .ok (.iconst 0, 1) := dK_c_279.1
theorem dX11_findBest_13 : decode cX11_findBest 13 = .ok (.iastore, 1) := dK_c_279.2.1
theorem dX11_findBest_14 : decode cX11_findBest 14 = .ok (.aload_n 0, 1) := dK_c_279.2.2.1
theorem dX11_findBest_15 : decode cX11_findBest 15 = .ok (.getfield 71, 3) := dK_c_279.2.2.2.1
theorem dX11_findBest_18 : decode cX11_findBest 18 = .ok (.iload_n 3, 1) := dK_c_279.2.2.2.2.1
theorem dX11_findBest_19 : decode cX11_findBest 19 = .ok (.iconst 0, 1) := dK_c_279.2.2.2.2.2.1
theorem dX11_findBest_20 : decode cX11_findBest 20 = .ok (.iastore, 1) := dK_c_279.2.2.2.2.2.2.1
theorem dX11_findBest_21 : decode cX11_findBest 21 = .ok (.iinc 3 1, 3) := dK_c_279.2.2.2.2.2.2.2.1
theorem dK_c_280 : dk_P cX11_findBest [(24, (.goto (-22), 3)), (27, (.iconst 0, 1)), (28, (.istore_n 3, 1)), (29, (.iload_n 3, 1)), (30, (.iload_n 2, 1)), (31, (.if_icmp .ge 25, 3)), (34, (.aload_n 0, 1)), (35, (.aload_n 0, 1))] := dk_of 24 (by decide +kernel)
theorem dX11_findBest_24 : decode cX11_findBest 24 = .ok (.goto (-22), 3) := dK_c_280.1
theorem dX11_findBest_27 : decode cX11_findBest 27 = .ok (.iconst 0, 1) := dK_c_280.2.1
theorem dX11_findBest_28 : decode cX11_findBest 28 = .ok (.istore_n 3, 1) := dK_c_280.2.2.1
theorem dX11_findBest_29 : decode cX11_findBest 29 = .ok (.iload_n 3, 1) := dK_c_280.2.2.2.1
theorem dX11_findBest_30 : decode cX11_findBest 30 = .ok (.iload_n 2, 1) := dK_c_280.2.2.2.2.1
theorem dX11_findBest_31 : decode cX11_findBest 31 = .ok (.if_icmp .ge 25, 3) := dK_c_280.2.2.2.2.2.1
theorem dX11_findBest_34 : decode cX11_findBest 34 = .ok (.aload_n 0, 1) := dK_c_280.2.2.2.2.2.2.1
theorem dX11_findBest_35 : decode cX11_findBest 35 = .ok (.aload_n 0, 1) := dK_c_280.2.2.2.2.2.2.2.1
theorem dK_c_281 : dk_P cX11_findBest [(36, (.getfield 37, 3)), (39, (.iload_n 3, 1)), (40, (.iaload, 1)), (41, (.aload_n 0, 1)), (42, (.iload_n 3, 1)), (43, (.iload_n 1, 1)), (44, (.invokevirtual 259, 3)), (47, (.invokevirtual 262, 3))] := dk_of 36 (by decide +kernel)
theorem dX11_findBest_36 : decode cX11_findBest 36 = .ok (.getfield 37, 3) := dK_c_281.1
theorem dX11_findBest_39 : decode cX11_findBest 39 = .ok (.iload_n 3, 1) := dK_c_281.2.1
theorem dX11_findBest_40 : decode cX11_findBest 40 = .ok (.iaload, 1) := dK_c_281.2.2.1
theorem dX11_findBest_41 : decode cX11_findBest 41 = .ok (.aload_n 0, 1) := dK_c_281.2.2.2.1
theorem dX11_findBest_42 : decode cX11_findBest 42 = .ok (.iload_n 3, 1) := dK_c_281.2.2.2.2.1
theorem dX11_findBest_43 : decode cX11_findBest 43 = .ok (.iload_n 1, 1) := dK_c_281.2.2.2.2.2.1
theorem dX11_findBest_44 : decode cX11_findBest 44 = .ok (.invokevirtual 259, 3) := dK_c_281.2.2.2.2.2.2.1
theorem dX11_findBest_47 : decode cX11_findBest 47 = .ok (.invokevirtual 262, 3) := dK_c_281.2.2.2.2.2.2.2.1
theorem dK_c_282 : dk_P cX11_findBest [(50, (.iinc 3 1, 3)), (53, (.goto (-24), 3)), (56, (.return_, 1))] := dk_of 50 (by decide +kernel)
theorem dX11_findBest_50 : decode cX11_findBest 50 = .ok (.iinc 3 1, 3) := dK_c_282.1
theorem dX11_findBest_53 : decode cX11_findBest 53 = .ok (.goto (-24), 3) := dK_c_282.2.1
theorem dX11_findBest_56 : decode cX11_findBest 56 = .ok (.return_, 1) := dK_c_282.2.2.1
theorem dK_c_283 : dk_P cX11_comesLength [(0, (.iload_n 2, 1)), (1, (.aload_n 0, 1)), (2, (.getfield 68, 3)), (5, (.iload_n 1, 1)), (6, (.iaload, 1)), (7, (.if_icmp .le 25, 3)), (10, (.aload_n 0, 1)), (11, (.getfield 71, 3))] := dk_of 0 (by decide +kernel)
theorem dX11_comesLength_0 : decode cX11_comesLength 0 = .ok (.iload_n 2, 1) := dK_c_283.1
theorem dX11_comesLength_1 : decode cX11_comesLength 1 = .ok (.aload_n 0, 1) := dK_c_283.2.1
theorem dX11_comesLength_2 : decode cX11_comesLength 2 = .ok (.getfield 68, 3) := dK_c_283.2.2.1
theorem dX11_comesLength_5 : decode cX11_comesLength 5 = .ok (.iload_n 1, 1) := dK_c_283.2.2.2.1
theorem dX11_comesLength_6 : decode cX11_comesLength 6 = .ok (.iaload, 1) := dK_c_283.2.2.2.2.1
theorem dX11_comesLength_7 : decode cX11_comesLength 7 = .ok (.if_icmp .le 25, 3) := dK_c_283.2.2.2.2.2.1
theorem dX11_comesLength_10 : decode cX11_comesLength 10 = .ok (.aload_n 0, 1) := dK_c_283.2.2.2.2.2.2.1
theorem dX11_comesLength_11 : decode cX11_comesLength 11 = .ok (.getfield 71, 3) := dK_c_283.2.2.2.2.2.2.2.1
theorem dK_c_284 : dk_P cX11_comesLength [(14, (.iload_n 1, 1)), (15, (.aload_n 0, 1)), (16, (.getfield 68, 3)), (19, (.iload_n 1, 1)), (20, (.iaload, 1)), (21, (.iastore, 1)), (22, (.aload_n 0, 1)), (23, (.getfield 68, 3))] := dk_of 14 (by decide +kernel)
theorem dX11_comesLength_14 : decode cX11_comesLength 14 = .ok (.iload_n 1, 1) := dK_c_284.1
theorem dX11_comesLength_15 : decode cX11_comesLength 15 = .ok (.aload_n 0, 1) := dK_c_284.2.1
theorem dX11_comesLength_16 : decode cX11_comesLength 16 = .ok (.getfield 68, 3) := dK_c_284.2.2.1
theorem dX11_comesLength_19 : decode cX11_comesLength 19 = .ok (.iload_n 1, 1) := dK_c_284.2.2.2.1
theorem dX11_comesLength_20 : decode cX11_comesLength 20 = .ok (.iaload, 1) := dK_c_284.2.2.2.2.1
theorem dX11_comesLength_21 : decode cX11_comesLength 21 = .ok (.iastore, 1) := dK_c_284.2.2.2.2.2.1
theorem dX11_comesLength_22 : decode cX11_comesLength 22 = .ok (.aload_n 0, 1) := dK_c_284.2.2.2.2.2.2.1
theorem dX11_comesLength_23 : decode cX11_comesLength 23 = .ok (.getfield 68, 3) := dK_c_284.2.2.2.2.2.2.2.1
theorem dK_c_285 : dk_P cX11_comesLength [(26, (.iload_n 1, 1)), (27, (.iload_n 2, 1)), (28, (.iastore, 1)), (29, (.goto 20, 3)), (32, (.iload_n 2, 1)), (33, (.aload_n 0, 1)), (34, (.getfield 71, 3)), (37, (.iload_n 1, 1))] := dk_of 26 (by decide +kernel)
theorem dX11_comesLength_26 : decode cX11_comesLength 26 = .ok (.iload_n 1, 1) := dK_c_285.1
theorem dX11_comesLength_27 : decode cX11_comesLength 27 = .ok (.iload_n 2, 1) := dK_c_285.2.1
theorem dX11_comesLength_28 : decode cX11_comesLength 28 = .ok (.iastore, 1) := dK_c_285.2.2.1
theorem dX11_comesLength_29 : decode cX11_comesLength 29 = .ok (.goto 20, 3) := dK_c_285.2.2.2.1
theorem dX11_comesLength_32 : decode cX11_comesLength 32 = .ok (.iload_n 2, 1) := dK_c_285.2.2.2.2.1
theorem dX11_comesLength_33 : decode cX11_comesLength 33 = .ok (.aload_n 0, 1) := dK_c_285.2.2.2.2.2.1
theorem dX11_comesLength_34 : decode cX11_comesLength 34 = .ok (.getfield 71, 3) := dK_c_285.2.2.2.2.2.2.1
theorem dX11_comesLength_37 : decode cX11_comesLength 37 = .ok (.iload_n 1, 1) := dK_c_285.2.2.2.2.2.2.2.1
theorem dK_c_286 : dk_P cX11_comesLength [(38, (.iaload, 1)), (39, (.if_icmp .le 10, 3)), (42, (.aload_n 0, 1)), (43, (.getfield 71, 3)), (46, (.iload_n 1, 1)), (47, (.iload_n 2, 1)), (48, (.iastore, 1)), (49, (.return_, 1))] := dk_of 38 (by decide +kernel)
theorem dX11_comesLength_38 : decode cX11_comesLength 38 = .ok (.iaload, 1) := dK_c_286.1
theorem dX11_comesLength_39 : decode cX11_comesLength 39 = .ok (.if_icmp .le 10, 3) := dK_c_286.2.1
theorem dX11_comesLength_42 : decode cX11_comesLength 42 = .ok (.aload_n 0, 1) := dK_c_286.2.2.1
theorem dX11_comesLength_43 : decode cX11_comesLength 43 = .ok (.getfield 71, 3) := dK_c_286.2.2.2.1
theorem dX11_comesLength_46 : decode cX11_comesLength 46 = .ok (.iload_n 1, 1) := dK_c_286.2.2.2.2.1
theorem dX11_comesLength_47 : decode cX11_comesLength 47 = .ok (.iload_n 2, 1) := dK_c_286.2.2.2.2.2.1
theorem dX11_comesLength_48 : decode cX11_comesLength 48 = .ok (.iastore, 1) := dK_c_286.2.2.2.2.2.2.1
theorem dX11_comesLength_49 : decode cX11_comesLength 49 = .ok (.return_, 1) := dK_c_286.2.2.2.2.2.2.2.1
theorem dK_c_287 : dk_P cX11_isAhead [(0, (.aload_n 0, 1)), (1, (.getfield 68, 3)), (4, (.iload_n 1, 1)), (5, (.iaload, 1)), (6, (.aload_n 0, 1)), (7, (.getfield 68, 3)), (10, (.iload_n 2, 1)), (11, (.iaload, 1))] := dk_of 0 (by decide +kernel)
theorem dX11_isAhead_0 : decode cX11_isAhead 0 = .ok (.aload_n 0, 1) := dK_c_287.1
theorem dX11_isAhead_1 : decode cX11_isAhead 1 = .ok (.getfield 68, 3) := dK_c_287.2.1
theorem dX11_isAhead_4 : decode cX11_isAhead 4 = .ok (.iload_n 1, 1) := dK_c_287.2.2.1
theorem dX11_isAhead_5 : decode cX11_isAhead 5 = .ok (.iaload, 1) := dK_c_287.2.2.2.1
theorem dX11_isAhead_6 : decode cX11_isAhead 6 = .ok (.aload_n 0, 1) := dK_c_287.2.2.2.2.1
theorem dX11_isAhead_7 : decode cX11_isAhead 7 = .ok (.getfield 68, 3) := dK_c_287.2.2.2.2.2.1
theorem dX11_isAhead_10 : decode cX11_isAhead 10 = .ok (.iload_n 2, 1) := dK_c_287.2.2.2.2.2.2.1
theorem dX11_isAhead_11 : decode cX11_isAhead 11 = .ok (.iaload, 1) := dK_c_287.2.2.2.2.2.2.2.1
theorem dK_c_288 : dk_P cX11_isAhead [(12, (.if_icmp .eq 24, 3)), (15, (.aload_n 0, 1)), (16, (.getfield 68, 3)), (19, (.iload_n 1, 1)), (20, (.iaload, 1)), (21, (.aload_n 0, 1)), (22, (.getfield 68, 3)), (25, (.iload_n 2, 1))] := dk_of 12 (by decide +kernel)
theorem dX11_isAhead_12 : decode cX11_isAhead 12 = .ok (.if_icmp .eq 24, 3) := dK_c_288.1
theorem dX11_isAhead_15 : decode cX11_isAhead 15 = .ok (.aload_n 0, 1) := dK_c_288.2.1
theorem dX11_isAhead_16 : decode cX11_isAhead 16 = .ok (.getfield 68, 3) := dK_c_288.2.2.1
theorem dX11_isAhead_19 : decode cX11_isAhead 19 = .ok (.iload_n 1, 1) := dK_c_288.2.2.2.1
theorem dX11_isAhead_20 : decode cX11_isAhead 20 = .ok (.iaload, 1) := dK_c_288.2.2.2.2.1
theorem dX11_isAhead_21 : decode cX11_isAhead 21 = .ok (.aload_n 0, 1) := dK_c_288.2.2.2.2.2.1
theorem dX11_isAhead_22 : decode cX11_isAhead 22 = .ok (.getfield 68, 3) := dK_c_288.2.2.2.2.2.2.1
theorem dX11_isAhead_25 : decode cX11_isAhead 25 = .ok (.iload_n 2, 1) := dK_c_288.2.2.2.2.2.2.2.1
theorem dK_c_289 : dk_P cX11_isAhead [(26, (.iaload, 1)), (27, (.if_icmp .le 7, 3)), (30, (.iconst 1, 1)), (31, (.goto 4, 3)), (34, (.iconst 0, 1)), (35, (.ireturn, 1)), (36, (.aload_n 0, 1)), (37, (.getfield 71, 3))] := dk_of 26 (by decide +kernel)
theorem dX11_isAhead_26 : decode cX11_isAhead 26 = .ok (.iaload, 1) := dK_c_289.1
theorem dX11_isAhead_27 : decode cX11_isAhead 27 = .ok (.if_icmp .le 7, 3) := dK_c_289.2.1
theorem dX11_isAhead_30 : decode cX11_isAhead 30 = .ok (.iconst 1, 1) := dK_c_289.2.2.1
theorem dX11_isAhead_31 : decode cX11_isAhead 31 = .ok (.goto 4, 3) := dK_c_289.2.2.2.1
theorem dX11_isAhead_34 : decode cX11_isAhead 34 = .ok (.iconst 0, 1) := dK_c_289.2.2.2.2.1
theorem dX11_isAhead_35 : decode cX11_isAhead 35 = .ok (.ireturn, 1) := dK_c_289.2.2.2.2.2.1
theorem dX11_isAhead_36 : decode cX11_isAhead 36 = .ok (.aload_n 0, 1) := dK_c_289.2.2.2.2.2.2.1
theorem dX11_isAhead_37 : decode cX11_isAhead 37 = .ok (.getfield 71, 3) := dK_c_289.2.2.2.2.2.2.2.1
theorem dK_c_290 : dk_P cX11_isAhead [(40, (.iload_n 1, 1)), (41, (.iaload, 1)), (42, (.aload_n 0, 1)), (43, (.getfield 71, 3)), (46, (.iload_n 2, 1)), (47, (.iaload, 1)), (48, (.if_icmp .eq 26, 3)), (51, (.aload_n 0, 1))] := dk_of 40 (by decide +kernel)
theorem dX11_isAhead_40 : decode cX11_isAhead 40 = .ok (.iload_n 1, 1) := dK_c_290.1
theorem dX11_isAhead_41 : decode cX11_isAhead 41 = .ok (.iaload, 1) := dK_c_290.2.1
theorem dX11_isAhead_42 : decode cX11_isAhead 42 = .ok (.aload_n 0, 1) := dK_c_290.2.2.1
theorem dX11_isAhead_43 : decode cX11_isAhead 43 = .ok (.getfield 71, 3) := dK_c_290.2.2.2.1
theorem dX11_isAhead_46 : decode cX11_isAhead 46 = .ok (.iload_n 2, 1) := dK_c_290.2.2.2.2.1
theorem dX11_isAhead_47 : decode cX11_isAhead 47 = .ok (.iaload, 1) := dK_c_290.2.2.2.2.2.1
theorem dX11_isAhead_48 : decode cX11_isAhead 48 = .ok (.if_icmp .eq 26, 3) := dK_c_290.2.2.2.2.2.2.1
theorem dX11_isAhead_51 : decode cX11_isAhead 51 = .ok (.aload_n 0, 1) := dK_c_290.2.2.2.2.2.2.2.1
theorem dK_c_291 : dk_P cX11_isAhead [(52, (.getfield 71, 3)), (55, (.iload_n 1, 1)), (56, (.iaload, 1)), (57, (.aload_n 0, 1)), (58, (.getfield 71, 3)), (61, (.iload_n 2, 1)), (62, (.iaload, 1)), (63, (.if_icmp .le 7, 3))] := dk_of 52 (by decide +kernel)
theorem dX11_isAhead_52 : decode cX11_isAhead 52 = .ok (.getfield 71, 3) := dK_c_291.1
theorem dX11_isAhead_55 : decode cX11_isAhead 55 = .ok (.iload_n 1, 1) := dK_c_291.2.1
theorem dX11_isAhead_56 : decode cX11_isAhead 56 = .ok (.iaload, 1) := dK_c_291.2.2.1
theorem dX11_isAhead_57 : decode cX11_isAhead 57 = .ok (.aload_n 0, 1) := dK_c_291.2.2.2.1
theorem dX11_isAhead_58 : decode cX11_isAhead 58 = .ok (.getfield 71, 3) := dK_c_291.2.2.2.2.1
theorem dX11_isAhead_61 : decode cX11_isAhead 61 = .ok (.iload_n 2, 1) := dK_c_291.2.2.2.2.2.1
theorem dX11_isAhead_62 : decode cX11_isAhead 62 = .ok (.iaload, 1) := dK_c_291.2.2.2.2.2.2.1
theorem dX11_isAhead_63 : decode cX11_isAhead 63 = .ok (.if_icmp .le 7, 3) := dK_c_291.2.2.2.2.2.2.2.1
theorem dK_c_292 : dk_P cX11_isAhead [(66, (.iconst 1, 1)), (67, (.goto 17, 3)), (70, (.iconst 0, 1)), (71, (.goto 13, 3)), (74, (.iload_n 1, 1)), (75, (.iload_n 2, 1)), (76, (.if_icmp .ge 7, 3)), (79, (.iconst 1, 1))] := dk_of 66 (by decide +kernel)
theorem dX11_isAhead_66 : decode cX11_isAhead 66 = .ok (.iconst 1, 1) := dK_c_292.1
theorem dX11_isAhead_67 : decode cX11_isAhead 67 = .ok (.goto 17, 3) := dK_c_292.2.1
theorem dX11_isAhead_70 : decode cX11_isAhead 70 = .ok (.iconst 0, 1) := dK_c_292.2.2.1
theorem dX11_isAhead_71 : decode cX11_isAhead 71 = .ok (.goto 13, 3) := dK_c_292.2.2.2.1
theorem dX11_isAhead_74 : decode cX11_isAhead 74 = .ok (.iload_n 1, 1) := dK_c_292.2.2.2.2.1
theorem dX11_isAhead_75 : decode cX11_isAhead 75 = .ok (.iload_n 2, 1) := dK_c_292.2.2.2.2.2.1
theorem dX11_isAhead_76 : decode cX11_isAhead 76 = .ok (.if_icmp .ge 7, 3) := dK_c_292.2.2.2.2.2.2.1
theorem dX11_isAhead_79 : decode cX11_isAhead 79 = .ok (.iconst 1, 1) := dK_c_292.2.2.2.2.2.2.2.1
theorem dK_c_293 : dk_P cX11_isAhead [(80, (.goto 4, 3)), (83, (.iconst 0, 1)), (84, (.ireturn, 1))] := dk_of 80 (by decide +kernel)
theorem dX11_isAhead_80 : decode cX11_isAhead 80 = .ok (.goto 4, 3) := dK_c_293.1
theorem dX11_isAhead_83 : decode cX11_isAhead 83 = .ok (.iconst 0, 1) := dK_c_293.2.1
theorem dX11_isAhead_84 : decode cX11_isAhead 84 = .ok (.ireturn, 1) := dK_c_293.2.2.1
theorem dK_c_294 : dk_P cX11_sorts [(0, (.iconst 0, 1)), (1, (.istore_n 1, 1)), (2, (.iload_n 1, 1)), (3, (.aload_n 0, 1)), (4, (.getfield 105, 3)), (7, (.if_icmp .ge 58, 3)), (10, (.iload_n 1, 1)), (11, (.istore_n 2, 1))] := dk_of 0 (by decide +kernel)
theorem dX11_sorts_0 : decode cX11_sorts 0 = .ok (.iconst 0, 1) := dK_c_294.1
theorem dX11_sorts_1 : decode cX11_sorts 1 = .ok (.istore_n 1, 1) := dK_c_294.2.1
theorem dX11_sorts_2 : decode cX11_sorts 2 = .ok (.iload_n 1, 1) := dK_c_294.2.2.1
theorem dX11_sorts_3 : decode cX11_sorts 3 = .ok (.aload_n 0, 1) := dK_c_294.2.2.2.1
theorem dX11_sorts_4 : decode cX11_sorts 4 = .ok (.getfield 105, 3) := dK_c_294.2.2.2.2.1
theorem dX11_sorts_7 : decode cX11_sorts 7 = .ok (.if_icmp .ge 58, 3) := dK_c_294.2.2.2.2.2.1
theorem dX11_sorts_10 : decode cX11_sorts 10 = .ok (.iload_n 1, 1) := dK_c_294.2.2.2.2.2.2.1
theorem dX11_sorts_11 : decode cX11_sorts 11 = .ok (.istore_n 2, 1) := dK_c_294.2.2.2.2.2.2.2.1
theorem dK_c_295 : dk_P cX11_sorts [(12, (.iload_n 2, 1)), (13, (.ifCond .le 39, 3)), (16, (.aload_n 0, 1)), (17, (.iload_n 1, 1)), (18, (.aload_n 0, 1)), (19, (.getfield 74, 3)), (22, (.iload_n 2, 1)), (23, (.iconst 1, 1))] := dk_of 12 (by decide +kernel)
theorem dX11_sorts_12 : decode cX11_sorts 12 = .ok (.iload_n 2, 1) := dK_c_295.1
theorem dX11_sorts_13 : decode cX11_sorts 13 = .ok (.ifCond .le 39, 3) := dK_c_295.2.1
theorem dX11_sorts_16 : decode cX11_sorts 16 = .ok (.aload_n 0, 1) := dK_c_295.2.2.1
theorem dX11_sorts_17 : decode cX11_sorts 17 = .ok (.iload_n 1, 1) := dK_c_295.2.2.2.1
theorem dX11_sorts_18 : decode cX11_sorts 18 = .ok (.aload_n 0, 1) := dK_c_295.2.2.2.2.1
theorem dX11_sorts_19 : decode cX11_sorts 19 = .ok (.getfield 74, 3) := dK_c_295.2.2.2.2.2.1
theorem dX11_sorts_22 : decode cX11_sorts 22 = .ok (.iload_n 2, 1) := dK_c_295.2.2.2.2.2.2.1
theorem dX11_sorts_23 : decode cX11_sorts 23 = .ok (.iconst 1, 1) := dK_c_295.2.2.2.2.2.2.2.1
theorem dK_c_296 : dk_P cX11_sorts [(24, (.isub, 1)), (25, (.iaload, 1)), (26, (.invokevirtual 265, 3)), (29, (.ifCond .eq 23, 3)), (32, (.aload_n 0, 1)), (33, (.getfield 74, 3)), (36, (.iload_n 2, 1)), (37, (.aload_n 0, 1))] := dk_of 24 (by decide +kernel)
theorem dX11_sorts_24 : decode cX11_sorts 24 = .ok (.isub, 1) := dK_c_296.1
theorem dX11_sorts_25 : decode cX11_sorts 25 = .ok (.iaload, 1) := dK_c_296.2.1
theorem dX11_sorts_26 : decode cX11_sorts 26 = .ok (.invokevirtual 265, 3) := dK_c_296.2.2.1
theorem dX11_sorts_29 : decode cX11_sorts 29 = .ok (.ifCond .eq 23, 3) := dK_c_296.2.2.2.1
theorem dX11_sorts_32 : decode cX11_sorts 32 = .ok (.aload_n 0, 1) := dK_c_296.2.2.2.2.1
theorem dX11_sorts_33 : decode cX11_sorts 33 = .ok (.getfield 74, 3) := dK_c_296.2.2.2.2.2.1
theorem dX11_sorts_36 : decode cX11_sorts 36 = .ok (.iload_n 2, 1) := dK_c_296.2.2.2.2.2.2.1
theorem dX11_sorts_37 : decode cX11_sorts 37 = .ok (.aload_n 0, 1) := dK_c_296.2.2.2.2.2.2.2.1
theorem dK_c_297 : dk_P cX11_sorts [(38, (.getfield 74, 3)), (41, (.iload_n 2, 1)), (42, (.iconst 1, 1)), (43, (.isub, 1)), (44, (.iaload, 1)), (45, (.iastore, 1)), (46, (.iinc 2 (-1), 3)), (49, (.goto (-37), 3))] := dk_of 38 (by decide +kernel)
theorem dX11_sorts_38 : decode cX11_sorts 38 = .ok (.getfield 74, 3) := dK_c_297.1
theorem dX11_sorts_41 : decode cX11_sorts 41 = .ok (.iload_n 2, 1) := dK_c_297.2.1
theorem dX11_sorts_42 : decode cX11_sorts 42 = .ok (.iconst 1, 1) := dK_c_297.2.2.1
theorem dX11_sorts_43 : decode cX11_sorts 43 = .ok (.isub, 1) := dK_c_297.2.2.2.1
theorem dX11_sorts_44 : decode cX11_sorts 44 = .ok (.iaload, 1) := dK_c_297.2.2.2.2.1
theorem dX11_sorts_45 : decode cX11_sorts 45 = .ok (.iastore, 1) := dK_c_297.2.2.2.2.2.1
theorem dX11_sorts_46 : decode cX11_sorts 46 = .ok (.iinc 2 (-1), 3) := dK_c_297.2.2.2.2.2.2.1
theorem dX11_sorts_49 : decode cX11_sorts 49 = .ok (.goto (-37), 3) := dK_c_297.2.2.2.2.2.2.2.1
theorem dK_c_298 : dk_P cX11_sorts [(52, (.aload_n 0, 1)), (53, (.getfield 74, 3)), (56, (.iload_n 2, 1)), (57, (.iload_n 1, 1)), (58, (.iastore, 1)), (59, (.iinc 1 1, 3)), (62, (.goto (-60), 3)), (65, (.return_, 1))] := dk_of 52 (by decide +kernel)
theorem dX11_sorts_52 : decode cX11_sorts 52 = .ok (.aload_n 0, 1) := dK_c_298.1
theorem dX11_sorts_53 : decode cX11_sorts 53 = .ok (.getfield 74, 3) := dK_c_298.2.1
theorem dX11_sorts_56 : decode cX11_sorts 56 = .ok (.iload_n 2, 1) := dK_c_298.2.2.1
theorem dX11_sorts_57 : decode cX11_sorts 57 = .ok (.iload_n 1, 1) := dK_c_298.2.2.2.1
theorem dX11_sorts_58 : decode cX11_sorts 58 = .ok (.iastore, 1) := dK_c_298.2.2.2.2.1
theorem dX11_sorts_59 : decode cX11_sorts 59 = .ok (.iinc 1 1, 3) := dK_c_298.2.2.2.2.2.1
theorem dX11_sorts_62 : decode cX11_sorts 62 = .ok (.goto (-60), 3) := dK_c_298.2.2.2.2.2.2.1
theorem dX11_sorts_65 : decode cX11_sorts 65 = .ok (.return_, 1) := dK_c_298.2.2.2.2.2.2.2.1
theorem dK_c_299 : dk_P cX11_ranksNow [(0, (.aload_n 0, 1)), (1, (.iconst 0, 1)), (2, (.aload_n 0, 1)), (3, (.getfield 147, 3)), (6, (.invokevirtual 213, 3)), (9, (.aload_n 0, 1)), (10, (.invokevirtual 268, 3)), (13, (.return_, 1))] := dk_of 0 (by decide +kernel)
theorem dX11_ranksNow_0 : decode cX11_ranksNow 0 = .ok (.aload_n 0, 1) := dK_c_299.1
theorem dX11_ranksNow_1 : decode cX11_ranksNow 1 = .ok (.iconst 0, 1) := dK_c_299.2.1
theorem dX11_ranksNow_2 : decode cX11_ranksNow 2 = .ok (.aload_n 0, 1) := dK_c_299.2.2.1
theorem dX11_ranksNow_3 : decode cX11_ranksNow 3 = .ok (.getfield 147, 3) := dK_c_299.2.2.2.1
theorem dX11_ranksNow_6 : decode cX11_ranksNow 6 = .ok (.invokevirtual 213, 3) := dK_c_299.2.2.2.2.1
theorem dX11_ranksNow_9 : decode cX11_ranksNow 9 = .ok (.aload_n 0, 1) := dK_c_299.2.2.2.2.2.1
theorem dX11_ranksNow_10 : decode cX11_ranksNow 10 = .ok (.invokevirtual 268, 3) := dK_c_299.2.2.2.2.2.2.1
theorem dX11_ranksNow_13 : decode cX11_ranksNow 13 = .ok (.return_, 1) := dK_c_299.2.2.2.2.2.2.2.1
theorem dK_c_300 : dk_P cX11_finalists [(0, (.aload_n 0, 1)), (1, (.getfield 99, 3)), (4, (.aload_n 0, 1)), (5, (.getfield 105, 3)), (8, (.if_icmp .ge 10, 3)), (11, (.aload_n 0, 1)), (12, (.getfield 99, 3)), (15, (.goto 7, 3))] := dk_of 0 (by decide +kernel)
theorem dX11_finalists_0 : decode cX11_finalists 0 = .ok (.aload_n 0, 1) := dK_c_300.1
theorem dX11_finalists_1 : decode cX11_finalists 1 = .ok (.getfield 99, 3) := dK_c_300.2.1
theorem dX11_finalists_4 : decode cX11_finalists 4 = .ok (.aload_n 0, 1) := dK_c_300.2.2.1
theorem dX11_finalists_5 : decode cX11_finalists 5 = .ok (.getfield 105, 3) := dK_c_300.2.2.2.1
theorem dX11_finalists_8 : decode cX11_finalists 8 = .ok (.if_icmp .ge 10, 3) := dK_c_300.2.2.2.2.1
theorem dX11_finalists_11 : decode cX11_finalists 11 = .ok (.aload_n 0, 1) := dK_c_300.2.2.2.2.2.1
theorem dX11_finalists_12 : decode cX11_finalists 12 = .ok (.getfield 99, 3) := dK_c_300.2.2.2.2.2.2.1
theorem dX11_finalists_15 : decode cX11_finalists 15 = .ok (.goto 7, 3) := dK_c_300.2.2.2.2.2.2.2.1
theorem dK_c_301 : dk_P cX11_finalists [(18, (.aload_n 0, 1)), (19, (.getfield 105, 3)), (22, (.ireturn, 1))] := dk_of 18 (by decide +kernel)
theorem dX11_finalists_18 : decode cX11_finalists 18 = .ok (.aload_n 0, 1) := dK_c_301.1
theorem dX11_finalists_19 : decode cX11_finalists 19 = .ok (.getfield 105, 3) := dK_c_301.2.1
theorem dX11_finalists_22 : decode cX11_finalists 22 = .ok (.ireturn, 1) := dK_c_301.2.2.1
theorem dK_c_302 : dk_P cX11_turnNow [(0, (.aload_n 0, 1)), (1, (.getfield 105, 3)), (4, (.ifCond .eq 23, 3)), (7, (.aload_n 0, 1)), (8, (.getfield 147, 3)), (11, (.iconst 3, 1)), (12, (.aload_n 0, 1)), (13, (.getfield 105, 3))] := dk_of 0 (by decide +kernel)
theorem dX11_turnNow_0 : decode cX11_turnNow 0 = .ok (.aload_n 0, 1) := dK_c_302.1
theorem dX11_turnNow_1 : decode cX11_turnNow 1 = .ok (.getfield 105, 3) := dK_c_302.2.1
theorem dX11_turnNow_4 : decode cX11_turnNow 4 = .ok (.ifCond .eq 23, 3) := dK_c_302.2.2.1
theorem dX11_turnNow_7 : decode cX11_turnNow 7 = .ok (.aload_n 0, 1) := dK_c_302.2.2.2.1
theorem dX11_turnNow_8 : decode cX11_turnNow 8 = .ok (.getfield 147, 3) := dK_c_302.2.2.2.2.1
theorem dX11_turnNow_11 : decode cX11_turnNow 11 = .ok (.iconst 3, 1) := dK_c_302.2.2.2.2.2.1
theorem dX11_turnNow_12 : decode cX11_turnNow 12 = .ok (.aload_n 0, 1) := dK_c_302.2.2.2.2.2.2.1
theorem dX11_turnNow_13 : decode cX11_turnNow 13 = .ok (.getfield 105, 3) := dK_c_302.2.2.2.2.2.2.2.1
theorem dK_c_303 : dk_P cX11_turnNow [(16, (.imul, 1)), (17, (.iconst 3, 1)), (18, (.aload_n 0, 1)), (19, (.invokevirtual 271, 3)), (22, (.imul, 1)), (23, (.iadd, 1)), (24, (.if_icmp .lt 6, 3)), (27, (.bipush (-9), 2))] := dk_of 16 (by decide +kernel)
theorem dX11_turnNow_16 : decode cX11_turnNow 16 = .ok (.imul, 1) := dK_c_303.1
theorem dX11_turnNow_17 : decode cX11_turnNow 17 = .ok (.iconst 3, 1) := dK_c_303.2.1
theorem dX11_turnNow_18 : decode cX11_turnNow 18 = .ok (.aload_n 0, 1) := dK_c_303.2.2.1
theorem dX11_turnNow_19 : decode cX11_turnNow 19 = .ok (.invokevirtual 271, 3) := dK_c_303.2.2.2.1
theorem dX11_turnNow_22 : decode cX11_turnNow 22 = .ok (.imul, 1) := dK_c_303.2.2.2.2.1
theorem dX11_turnNow_23 : decode cX11_turnNow 23 = .ok (.iadd, 1) := dK_c_303.2.2.2.2.2.1
theorem dX11_turnNow_24 : decode cX11_turnNow 24 = .ok (.if_icmp .lt 6, 3) := dK_c_303.2.2.2.2.2.2.1
theorem dX11_turnNow_27 : decode cX11_turnNow 27 = .ok (.bipush (-9), 2) := dK_c_303.2.2.2.2.2.2.2.1
theorem dK_c_304 : dk_P cX11_turnNow [(29, (.ireturn, 1)), (30, (.aload_n 0, 1)), (31, (.getfield 147, 3))] := dk_of 29 (by decide +kernel)
theorem dX11_turnNow_29 : decode cX11_turnNow 29 = .ok (.ireturn, 1) := dK_c_304.1
theorem dX11_turnNow_30 : decode cX11_turnNow 30 = .ok (.aload_n 0, 1) := dK_c_304.2.1
theorem dX11_turnNow_31 : decode cX11_turnNow 31 = .ok (.getfield 147, 3) := dK_c_304.2.2.1
