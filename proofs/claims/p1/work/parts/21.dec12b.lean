theorem dX12_fault_0 : decode cX12_fault 0 = .ok (.aload_n 0, 1) := by decide +kernel
theorem dX12_fault_1 : decode cX12_fault 1 = .ok (.iconst 0, 1) := by decide +kernel
theorem dX12_fault_2 : decode cX12_fault 2 = .ok (.putfield 208, 3) := by decide +kernel
theorem dX12_fault_5 : decode cX12_fault 5 = .ok (.iload_n 1, 1) := by decide +kernel
theorem dX12_fault_6 : decode cX12_fault 6 = .ok (.ifCond .ne 10, 3) := by decide +kernel
theorem dX12_fault_9 : decode cX12_fault 9 = .ok (.aload_n 0, 1) := by decide +kernel
theorem dX12_fault_10 : decode cX12_fault 10 = .ok (.getfield 238, 3) := by decide +kernel
theorem dX12_fault_13 : decode cX12_fault 13 = .ok (.goto 16, 3) := by decide +kernel
theorem dX12_fault_16 : decode cX12_fault 16 = .ok (.iload_n 1, 1) := by decide +kernel
theorem dX12_fault_17 : decode cX12_fault 17 = .ok (.iconst 1, 1) := by decide +kernel
theorem dX12_fault_18 : decode cX12_fault 18 = .ok (.if_icmp .ne 10, 3) := by decide +kernel
theorem dX12_fault_21 : decode cX12_fault 21 = .ok (.aload_n 0, 1) := by decide +kernel
theorem dX12_fault_22 : decode cX12_fault 22 = .ok (.getfield 41, 3) := by decide +kernel
theorem dX12_fault_25 : decode cX12_fault 25 = .ok (.goto 4, 3) := by decide +kernel
theorem dX12_fault_28 : decode cX12_fault 28 = .ok (.iconst (-1), 1) := by decide +kernel
theorem dX12_fault_29 : decode cX12_fault 29 = .ok (.ireturn, 1) := by decide +kernel
theorem dX12_whatValue_0 : decode cX12_whatValue 0 = .ok (.iload 4, 2) := by decide +kernel
theorem dX12_whatValue_2 : decode cX12_whatValue 2 = .ok (.iload_n 3, 1) := by decide +kernel
theorem dX12_whatValue_3 : decode cX12_whatValue 3 = .ok (.isub, 1) := by decide +kernel
theorem dX12_whatValue_4 : decode cX12_whatValue 4 = .ok (.iconst 1, 1) := by decide +kernel
theorem dX12_whatValue_5 : decode cX12_whatValue 5 = .ok (.iadd, 1) := by decide +kernel
theorem dX12_whatValue_6 : decode cX12_whatValue 6 = .ok (.ifCond .ge 7, 3) := by decide +kernel
theorem dX12_whatValue_9 : decode cX12_whatValue 9 = .ok (.iconst 0, 1) := by decide +kernel
theorem dX12_whatValue_10 : decode cX12_whatValue 10 = .ok (.goto 9, 3) := by decide +kernel
theorem dX12_whatValue_13 : decode cX12_whatValue 13 = .ok (.iload 4, 2) := by decide +kernel
theorem dX12_whatValue_15 : decode cX12_whatValue 15 = .ok (.iload_n 3, 1) := by decide +kernel
theorem dX12_whatValue_16 : decode cX12_whatValue 16 = .ok (.isub, 1) := by decide +kernel
theorem dX12_whatValue_17 : decode cX12_whatValue 17 = .ok (.iconst 1, 1) := by decide +kernel
theorem dX12_whatValue_18 : decode cX12_whatValue 18 = .ok (.iadd, 1) := by decide +kernel
theorem dX12_whatValue_19 : decode cX12_whatValue 19 = .ok (.istore 5, 2) := by decide +kernel
theorem dX12_whatValue_21 : decode cX12_whatValue 21 = .ok (.iconst 0, 1) := by decide +kernel
theorem dX12_whatValue_22 : decode cX12_whatValue 22 = .ok (.istore 6, 2) := by decide +kernel
theorem dX12_whatValue_24 : decode cX12_whatValue 24 = .ok (.iconst 0, 1) := by decide +kernel
theorem dX12_whatValue_25 : decode cX12_whatValue 25 = .ok (.istore 7, 2) := by decide +kernel
theorem dX12_whatValue_27 : decode cX12_whatValue 27 = .ok (.lconst 0, 1) := by decide +kernel
theorem dX12_whatValue_28 : decode cX12_whatValue 28 = .ok (.lstore 8, 2) := by decide +kernel
theorem dX12_whatValue_30 : decode cX12_whatValue 30 = .ok (.ldc2_w 375, 3) := by decide +kernel
theorem dX12_whatValue_33 : decode cX12_whatValue 33 = .ok (.lstore 10, 2) := by decide +kernel
theorem dX12_whatValue_35 : decode cX12_whatValue 35 = .ok (.ldc2_w 375, 3) := by decide +kernel
theorem dX12_whatValue_38 : decode cX12_whatValue 38 = .ok (.lstore 12, 2) := by decide +kernel
theorem dX12_whatValue_40 : decode cX12_whatValue 40 = .ok (.ldc2_w 375, 3) := by decide +kernel
theorem dX12_whatValue_43 : decode cX12_whatValue 43 = .ok (.lstore 14, 2) := by decide +kernel
theorem dX12_whatValue_45 : decode cX12_whatValue 45 = .ok (.ldc2_w 375, 3) := by decide +kernel
theorem dX12_whatValue_48 : decode cX12_whatValue 48 = .ok (.lstore 16, 2) := by decide +kernel
theorem dX12_whatValue_50 : decode cX12_whatValue 50 = .ok (.iload 5, 2) := by decide +kernel
theorem dX12_whatValue_52 : decode cX12_whatValue 52 = .ok (.istore 18, 2) := by decide +kernel
theorem dX12_whatValue_54 : decode cX12_whatValue 54 = .ok (.iload 18, 2) := by decide +kernel
theorem dX12_whatValue_56 : decode cX12_whatValue 56 = .ok (.iload 4, 2) := by decide +kernel
theorem dX12_whatValue_58 : decode cX12_whatValue 58 = .ok (.if_icmp .gt 201, 3) := by decide +kernel
theorem dX12_whatValue_61 : decode cX12_whatValue 61 = .ok (.ldc2_w 375, 3) := by decide +kernel
theorem dX12_whatValue_64 : decode cX12_whatValue 64 = .ok (.lstore 19, 2) := by decide +kernel
theorem dX12_whatValue_66 : decode cX12_whatValue 66 = .ok (.iconst 0, 1) := by decide +kernel
theorem dX12_whatValue_67 : decode cX12_whatValue 67 = .ok (.istore 21, 2) := by decide +kernel
theorem dX12_whatValue_69 : decode cX12_whatValue 69 = .ok (.iload 21, 2) := by decide +kernel
theorem dX12_whatValue_71 : decode cX12_whatValue 71 = .ok (.aload_n 0, 1) := by decide +kernel
theorem dX12_whatValue_72 : decode cX12_whatValue 72 = .ok (.getfield 221, 3) := by decide +kernel
theorem dX12_whatValue_75 : decode cX12_whatValue 75 = .ok (.if_icmp .ge 149, 3) := by decide +kernel
theorem dX12_whatValue_78 : decode cX12_whatValue 78 = .ok (.aload_n 0, 1) := by decide +kernel
theorem dX12_whatValue_79 : decode cX12_whatValue 79 = .ok (.getfield 13, 3) := by decide +kernel
theorem dX12_whatValue_82 : decode cX12_whatValue 82 = .ok (.iload 21, 2) := by decide +kernel
theorem dX12_whatValue_84 : decode cX12_whatValue 84 = .ok (.iaload, 1) := by decide +kernel
theorem dX12_whatValue_85 : decode cX12_whatValue 85 = .ok (.iload_n 2, 1) := by decide +kernel
theorem dX12_whatValue_86 : decode cX12_whatValue 86 = .ok (.if_icmp .eq 6, 3) := by decide +kernel
theorem dX12_whatValue_89 : decode cX12_whatValue 89 = .ok (.goto 129, 3) := by decide +kernel
theorem dX12_whatValue_92 : decode cX12_whatValue 92 = .ok (.aload_n 0, 1) := by decide +kernel
theorem dX12_whatValue_93 : decode cX12_whatValue 93 = .ok (.getfield 32, 3) := by decide +kernel
theorem dX12_whatValue_96 : decode cX12_whatValue 96 = .ok (.bipush 100, 2) := by decide +kernel
theorem dX12_whatValue_98 : decode cX12_whatValue 98 = .ok (.iload 21, 2) := by decide +kernel
theorem dX12_whatValue_100 : decode cX12_whatValue 100 = .ok (.imul, 1) := by decide +kernel
theorem dX12_whatValue_101 : decode cX12_whatValue 101 = .ok (.iload 18, 2) := by decide +kernel
theorem dX12_whatValue_103 : decode cX12_whatValue 103 = .ok (.iadd, 1) := by decide +kernel
theorem dX12_whatValue_104 : decode cX12_whatValue 104 = .ok (.baload, 1) := by decide +kernel
theorem dX12_whatValue_105 : decode cX12_whatValue 105 = .ok (.ifCond .ne 9, 3) := by decide +kernel
theorem dX12_whatValue_108 : decode cX12_whatValue 108 = .ok (.iinc 7 1, 3) := by decide +kernel
theorem dX12_whatValue_111 : decode cX12_whatValue 111 = .ok (.goto 107, 3) := by decide +kernel
theorem dX12_whatValue_114 : decode cX12_whatValue 114 = .ok (.aload_n 0, 1) := by decide +kernel
theorem dX12_whatValue_115 : decode cX12_whatValue 115 = .ok (.getfield 35, 3) := by decide +kernel
theorem dX12_whatValue_118 : decode cX12_whatValue 118 = .ok (.bipush 100, 2) := by decide +kernel
theorem dX12_whatValue_120 : decode cX12_whatValue 120 = .ok (.iload 21, 2) := by decide +kernel
theorem dX12_whatValue_122 : decode cX12_whatValue 122 = .ok (.imul, 1) := by decide +kernel
theorem dX12_whatValue_123 : decode cX12_whatValue 123 = .ok (.iload 18, 2) := by decide +kernel
theorem dX12_whatValue_125 : decode cX12_whatValue 125 = .ok (.iadd, 1) := by decide +kernel
theorem dX12_whatValue_126 : decode cX12_whatValue 126 = .ok (.iaload, 1) := by decide +kernel
theorem dX12_whatValue_127 : decode cX12_whatValue 127 = .ok (.i2l, 1) := by decide +kernel
theorem dX12_whatValue_128 : decode cX12_whatValue 128 = .ok (.lstore 22, 2) := by decide +kernel
theorem dX12_whatValue_130 : decode cX12_whatValue 130 = .ok (.iinc 6 1, 3) := by decide +kernel
theorem dX12_whatValue_133 : decode cX12_whatValue 133 = .ok (.lload 8, 2) := by decide +kernel
theorem dX12_whatValue_135 : decode cX12_whatValue 135 = .ok (.lload 22, 2) := by decide +kernel
theorem dX12_whatValue_137 : decode cX12_whatValue 137 = .ok (.ladd, 1) := by decide +kernel
theorem dX12_whatValue_138 : decode cX12_whatValue 138 = .ok (.lstore 8, 2) := by decide +kernel
theorem dX12_whatValue_140 : decode cX12_whatValue 140 = .ok (.lload 19, 2) := by decide +kernel
theorem dX12_whatValue_142 : decode cX12_whatValue 142 = .ok (.ldc2_w 375, 3) := by decide +kernel
theorem dX12_whatValue_145 : decode cX12_whatValue 145 = .ok (.lcmp, 1) := by decide +kernel
theorem dX12_whatValue_146 : decode cX12_whatValue 146 = .ok (.ifCond .eq 11, 3) := by decide +kernel
theorem dX12_whatValue_149 : decode cX12_whatValue 149 = .ok (.lload 22, 2) := by decide +kernel
theorem dX12_whatValue_151 : decode cX12_whatValue 151 = .ok (.lload 19, 2) := by decide +kernel
theorem dX12_whatValue_153 : decode cX12_whatValue 153 = .ok (.lcmp, 1) := by decide +kernel
theorem dX12_whatValue_154 : decode cX12_whatValue 154 = .ok (.ifCond .le 8, 3) := by decide +kernel
theorem dX12_whatValue_157 : decode cX12_whatValue 157 = .ok (.lload 22, 2) := by decide +kernel
theorem dX12_whatValue_159 : decode cX12_whatValue 159 = .ok (.goto 5, 3) := by decide +kernel
theorem dX12_whatValue_162 : decode cX12_whatValue 162 = .ok (.lload 19, 2) := by decide +kernel
theorem dX12_whatValue_164 : decode cX12_whatValue 164 = .ok (.lstore 19, 2) := by decide +kernel
theorem dX12_whatValue_166 : decode cX12_whatValue 166 = .ok (.lload 10, 2) := by decide +kernel
theorem dX12_whatValue_168 : decode cX12_whatValue 168 = .ok (.ldc2_w 375, 3) := by decide +kernel
theorem dX12_whatValue_171 : decode cX12_whatValue 171 = .ok (.lcmp, 1) := by decide +kernel
theorem dX12_whatValue_172 : decode cX12_whatValue 172 = .ok (.ifCond .eq 11, 3) := by decide +kernel
theorem dX12_whatValue_175 : decode cX12_whatValue 175 = .ok (.lload 22, 2) := by decide +kernel
theorem dX12_whatValue_177 : decode cX12_whatValue 177 = .ok (.lload 10, 2) := by decide +kernel
theorem dX12_whatValue_179 : decode cX12_whatValue 179 = .ok (.lcmp, 1) := by decide +kernel
theorem dX12_whatValue_180 : decode cX12_whatValue 180 = .ok (.ifCond .le 8, 3) := by decide +kernel
theorem dX12_whatValue_183 : decode cX12_whatValue 183 = .ok (.lload 22, 2) := by decide +kernel
theorem dX12_whatValue_185 : decode cX12_whatValue 185 = .ok (.goto 5, 3) := by decide +kernel
theorem dX12_whatValue_188 : decode cX12_whatValue 188 = .ok (.lload 10, 2) := by decide +kernel
theorem dX12_whatValue_190 : decode cX12_whatValue 190 = .ok (.lstore 10, 2) := by decide +kernel
theorem dX12_whatValue_192 : decode cX12_whatValue 192 = .ok (.lload 12, 2) := by decide +kernel
theorem dX12_whatValue_194 : decode cX12_whatValue 194 = .ok (.ldc2_w 375, 3) := by decide +kernel
theorem dX12_whatValue_197 : decode cX12_whatValue 197 = .ok (.lcmp, 1) := by decide +kernel
theorem dX12_whatValue_198 : decode cX12_whatValue 198 = .ok (.ifCond .eq 11, 3) := by decide +kernel
theorem dX12_whatValue_201 : decode cX12_whatValue 201 = .ok (.lload 22, 2) := by decide +kernel
theorem dX12_whatValue_203 : decode cX12_whatValue 203 = .ok (.lload 12, 2) := by decide +kernel
theorem dX12_whatValue_205 : decode cX12_whatValue 205 = .ok (.lcmp, 1) := by decide +kernel
theorem dX12_whatValue_206 : decode cX12_whatValue 206 = .ok (.ifCond .ge 8, 3) := by decide +kernel
theorem dX12_whatValue_209 : decode cX12_whatValue 209 = .ok (.lload 22, 2) := by decide +kernel
theorem dX12_whatValue_211 : decode cX12_whatValue 211 = .ok (.goto 5, 3) := by decide +kernel
theorem dX12_whatValue_214 : decode cX12_whatValue 214 = .ok (.lload 12, 2) := by decide +kernel
theorem dX12_whatValue_216 : decode cX12_whatValue 216 = .ok (.lstore 12, 2) := by decide +kernel
theorem dX12_whatValue_218 : decode cX12_whatValue 218 = .ok (.iinc 21 1, 3) := by decide +kernel
theorem dX12_whatValue_221 : decode cX12_whatValue 221 = .ok (.goto (-152), 3) := by decide +kernel
theorem dX12_whatValue_224 : decode cX12_whatValue 224 = .ok (.lload 19, 2) := by decide +kernel
theorem dX12_whatValue_226 : decode cX12_whatValue 226 = .ok (.ldc2_w 375, 3) := by decide +kernel
theorem dX12_whatValue_229 : decode cX12_whatValue 229 = .ok (.lcmp, 1) := by decide +kernel
theorem dX12_whatValue_230 : decode cX12_whatValue 230 = .ok (.ifCond .ne 6, 3) := by decide +kernel
theorem dX12_whatValue_233 : decode cX12_whatValue 233 = .ok (.goto 20, 3) := by decide +kernel
theorem dX12_whatValue_236 : decode cX12_whatValue 236 = .ok (.lload 19, 2) := by decide +kernel
theorem dX12_whatValue_238 : decode cX12_whatValue 238 = .ok (.lstore 16, 2) := by decide +kernel
theorem dX12_whatValue_240 : decode cX12_whatValue 240 = .ok (.lload 14, 2) := by decide +kernel
theorem dX12_whatValue_242 : decode cX12_whatValue 242 = .ok (.ldc2_w 375, 3) := by decide +kernel
theorem dX12_whatValue_245 : decode cX12_whatValue 245 = .ok (.lcmp, 1) := by decide +kernel
theorem dX12_whatValue_246 : decode cX12_whatValue 246 = .ok (.ifCond .ne 7, 3) := by decide +kernel
theorem dX12_whatValue_249 : decode cX12_whatValue 249 = .ok (.lload 19, 2) := by decide +kernel
theorem dX12_whatValue_251 : decode cX12_whatValue 251 = .ok (.lstore 14, 2) := by decide +kernel
theorem dX12_whatValue_253 : decode cX12_whatValue 253 = .ok (.iinc 18 1, 3) := by decide +kernel
theorem dX12_whatValue_256 : decode cX12_whatValue 256 = .ok (.goto (-202), 3) := by decide +kernel
theorem dX12_whatValue_259 : decode cX12_whatValue 259 = .ok (.iload_n 1, 1) := by decide +kernel
theorem dX12_whatValue_260 : decode cX12_whatValue 260 = .ok (.tableswitch 59 5 10 #[40, 43, 46, 49, 52, 55], 40) := by decide +kernel
theorem dX12_whatValue_300 : decode cX12_whatValue 300 = .ok (.lload 16, 2) := by decide +kernel
theorem dX12_whatValue_302 : decode cX12_whatValue 302 = .ok (.lreturn, 1) := by decide +kernel
theorem dX12_whatValue_303 : decode cX12_whatValue 303 = .ok (.lload 14, 2) := by decide +kernel
theorem dX12_whatValue_305 : decode cX12_whatValue 305 = .ok (.lreturn, 1) := by decide +kernel
theorem dX12_whatValue_306 : decode cX12_whatValue 306 = .ok (.lload 8, 2) := by decide +kernel
theorem dX12_whatValue_308 : decode cX12_whatValue 308 = .ok (.lreturn, 1) := by decide +kernel
theorem dX12_whatValue_309 : decode cX12_whatValue 309 = .ok (.lload 10, 2) := by decide +kernel
theorem dX12_whatValue_311 : decode cX12_whatValue 311 = .ok (.lreturn, 1) := by decide +kernel
theorem dX12_whatValue_312 : decode cX12_whatValue 312 = .ok (.lload 12, 2) := by decide +kernel
theorem dX12_whatValue_314 : decode cX12_whatValue 314 = .ok (.lreturn, 1) := by decide +kernel
theorem dX12_whatValue_315 : decode cX12_whatValue 315 = .ok (.iload 6, 2) := by decide +kernel
theorem dX12_whatValue_317 : decode cX12_whatValue 317 = .ok (.i2l, 1) := by decide +kernel
theorem dX12_whatValue_318 : decode cX12_whatValue 318 = .ok (.lreturn, 1) := by decide +kernel
theorem dX12_whatValue_319 : decode cX12_whatValue 319 = .ok (.iload 7, 2) := by decide +kernel
theorem dX12_whatValue_321 : decode cX12_whatValue 321 = .ok (.i2l, 1) := by decide +kernel
theorem dX12_whatValue_322 : decode cX12_whatValue 322 = .ok (.lreturn, 1) := by decide +kernel
theorem dX12_big_0 : decode cX12_big 0 = .ok (.lload_n 0, 1) := by decide +kernel
theorem dX12_big_1 : decode cX12_big 1 = .ok (.lconst 0, 1) := by decide +kernel
theorem dX12_big_2 : decode cX12_big 2 = .ok (.lcmp, 1) := by decide +kernel
theorem dX12_big_3 : decode cX12_big 3 = .ok (.ifCond .ge 8, 3) := by decide +kernel
theorem dX12_big_6 : decode cX12_big 6 = .ok (.lload_n 0, 1) := by decide +kernel
theorem dX12_big_7 : decode cX12_big 7 = .ok (.lneg, 1) := by decide +kernel
theorem dX12_big_8 : decode cX12_big 8 = .ok (.goto 4, 3) := by decide +kernel
theorem dX12_big_11 : decode cX12_big 11 = .ok (.lload_n 0, 1) := by decide +kernel
theorem dX12_big_12 : decode cX12_big 12 = .ok (.lreturn, 1) := by decide +kernel
theorem dX12_bounded_0 : decode cX12_bounded 0 = .ok (.lload_n 0, 1) := by decide +kernel
theorem dX12_bounded_1 : decode cX12_bounded 1 = .ok (.invokestatic 377, 3) := by decide +kernel
theorem dX12_bounded_4 : decode cX12_bounded 4 = .ok (.ldc2_w 381, 3) := by decide +kernel
theorem dX12_bounded_7 : decode cX12_bounded 7 = .ok (.lcmp, 1) := by decide +kernel
theorem dX12_bounded_8 : decode cX12_bounded 8 = .ok (.ifCond .le 9, 3) := by decide +kernel
theorem dX12_bounded_11 : decode cX12_bounded 11 = .ok (.ldc2_w 375, 3) := by decide +kernel
theorem dX12_bounded_14 : decode cX12_bounded 14 = .ok (.goto 4, 3) := by decide +kernel
theorem dX12_bounded_17 : decode cX12_bounded 17 = .ok (.lload_n 0, 1) := by decide +kernel
theorem dX12_bounded_18 : decode cX12_bounded 18 = .ok (.lreturn, 1) := by decide +kernel
theorem dX12_truth_0 : decode cX12_truth 0 = .ok (.iload_n 0, 1) := by decide +kernel
theorem dX12_truth_1 : decode cX12_truth 1 = .ok (.ifCond .eq 7, 3) := by decide +kernel
theorem dX12_truth_4 : decode cX12_truth 4 = .ok (.lconst 1, 1) := by decide +kernel
theorem dX12_truth_5 : decode cX12_truth 5 = .ok (.goto 4, 3) := by decide +kernel
theorem dX12_truth_8 : decode cX12_truth 8 = .ok (.lconst 0, 1) := by decide +kernel
theorem dX12_truth_9 : decode cX12_truth 9 = .ok (.lreturn, 1) := by decide +kernel
theorem dX12_made_0 : decode cX12_made 0 = .ok (.iload_n 0, 1) := by decide +kernel
theorem dX12_made_1 : decode cX12_made 1 = .ok (.tableswitch 240 1 13 #[67, 82, 97, 112, 127, 142, 157, 164, 171, 203, 240, 240, 219], 67) := by decide +kernel
theorem dX12_made_68 : decode cX12_made 68 = .ok (.lload_n 1, 1) := by decide +kernel
theorem dX12_made_69 : decode cX12_made 69 = .ok (.lload_n 3, 1) := by decide +kernel
theorem dX12_made_70 : decode cX12_made 70 = .ok (.lcmp, 1) := by decide +kernel
theorem dX12_made_71 : decode cX12_made 71 = .ok (.ifCond .ge 7, 3) := by decide +kernel
theorem dX12_made_74 : decode cX12_made 74 = .ok (.iconst 1, 1) := by decide +kernel
theorem dX12_made_75 : decode cX12_made 75 = .ok (.goto 4, 3) := by decide +kernel
theorem dX12_made_78 : decode cX12_made 78 = .ok (.iconst 0, 1) := by decide +kernel
theorem dX12_made_79 : decode cX12_made 79 = .ok (.invokestatic 383, 3) := by decide +kernel
theorem dX12_made_82 : decode cX12_made 82 = .ok (.lreturn, 1) := by decide +kernel
theorem dX12_made_83 : decode cX12_made 83 = .ok (.lload_n 1, 1) := by decide +kernel
theorem dX12_made_84 : decode cX12_made 84 = .ok (.lload_n 3, 1) := by decide +kernel
theorem dX12_made_85 : decode cX12_made 85 = .ok (.lcmp, 1) := by decide +kernel
theorem dX12_made_86 : decode cX12_made 86 = .ok (.ifCond .gt 7, 3) := by decide +kernel
theorem dX12_made_89 : decode cX12_made 89 = .ok (.iconst 1, 1) := by decide +kernel
theorem dX12_made_90 : decode cX12_made 90 = .ok (.goto 4, 3) := by decide +kernel
theorem dX12_made_93 : decode cX12_made 93 = .ok (.iconst 0, 1) := by decide +kernel
theorem dX12_made_94 : decode cX12_made 94 = .ok (.invokestatic 383, 3) := by decide +kernel
theorem dX12_made_97 : decode cX12_made 97 = .ok (.lreturn, 1) := by decide +kernel
theorem dX12_made_98 : decode cX12_made 98 = .ok (.lload_n 1, 1) := by decide +kernel
theorem dX12_made_99 : decode cX12_made 99 = .ok (.lload_n 3, 1) := by decide +kernel
theorem dX12_made_100 : decode cX12_made 100 = .ok (.lcmp, 1) := by decide +kernel
theorem dX12_made_101 : decode cX12_made 101 = .ok (.ifCond .ne 7, 3) := by decide +kernel
theorem dX12_made_104 : decode cX12_made 104 = .ok (.iconst 1, 1) := by decide +kernel
theorem dX12_made_105 : decode cX12_made 105 = .ok (.goto 4, 3) := by decide +kernel
theorem dX12_made_108 : decode cX12_made 108 = .ok (.iconst 0, 1) := by decide +kernel
theorem dX12_made_109 : decode cX12_made 109 = .ok (.invokestatic 383, 3) := by decide +kernel
theorem dX12_made_112 : decode cX12_made 112 = .ok (.lreturn, 1) := by decide +kernel
theorem dX12_made_113 : decode cX12_made 113 = .ok (.lload_n 1, 1) := by decide +kernel
theorem dX12_made_114 : decode cX12_made 114 = .ok (.lload_n 3, 1) := by decide +kernel
theorem dX12_made_115 : decode cX12_made 115 = .ok (.lcmp, 1) := by decide +kernel
theorem dX12_made_116 : decode cX12_made 116 = .ok (.ifCond .eq 7, 3) := by decide +kernel
theorem dX12_made_119 : decode cX12_made 119 = .ok (.iconst 1, 1) := by decide +kernel
theorem dX12_made_120 : decode cX12_made 120 = .ok (.goto 4, 3) := by decide +kernel
theorem dX12_made_123 : decode cX12_made 123 = .ok (.iconst 0, 1) := by decide +kernel
theorem dX12_made_124 : decode cX12_made 124 = .ok (.invokestatic 383, 3) := by decide +kernel
theorem dX12_made_127 : decode cX12_made 127 = .ok (.lreturn, 1) := by decide +kernel
theorem dX12_made_128 : decode cX12_made 128 = .ok (.lload_n 1, 1) := by decide +kernel
theorem dX12_made_129 : decode cX12_made 129 = .ok (.lload_n 3, 1) := by decide +kernel
theorem dX12_made_130 : decode cX12_made 130 = .ok (.lcmp, 1) := by decide +kernel
theorem dX12_made_131 : decode cX12_made 131 = .ok (.ifCond .lt 7, 3) := by decide +kernel
theorem dX12_made_134 : decode cX12_made 134 = .ok (.iconst 1, 1) := by decide +kernel
theorem dX12_made_135 : decode cX12_made 135 = .ok (.goto 4, 3) := by decide +kernel
theorem dX12_made_138 : decode cX12_made 138 = .ok (.iconst 0, 1) := by decide +kernel
theorem dX12_made_139 : decode cX12_made 139 = .ok (.invokestatic 383, 3) := by decide +kernel
theorem dX12_made_142 : decode cX12_made 142 = .ok (.lreturn, 1) := by decide +kernel
theorem dX12_made_143 : decode cX12_made 143 = .ok (.lload_n 1, 1) := by decide +kernel
theorem dX12_made_144 : decode cX12_made 144 = .ok (.lload_n 3, 1) := by decide +kernel
theorem dX12_made_145 : decode cX12_made 145 = .ok (.lcmp, 1) := by decide +kernel
theorem dX12_made_146 : decode cX12_made 146 = .ok (.ifCond .le 7, 3) := by decide +kernel
theorem dX12_made_149 : decode cX12_made 149 = .ok (.iconst 1, 1) := by decide +kernel
theorem dX12_made_150 : decode cX12_made 150 = .ok (.goto 4, 3) := by decide +kernel
theorem dX12_made_153 : decode cX12_made 153 = .ok (.iconst 0, 1) := by decide +kernel
theorem dX12_made_154 : decode cX12_made 154 = .ok (.invokestatic 383, 3) := by decide +kernel
theorem dX12_made_157 : decode cX12_made 157 = .ok (.lreturn, 1) := by decide +kernel
theorem dX12_made_158 : decode cX12_made 158 = .ok (.lload_n 1, 1) := by decide +kernel
theorem dX12_made_159 : decode cX12_made 159 = .ok (.lload_n 3, 1) := by decide +kernel
theorem dX12_made_160 : decode cX12_made 160 = .ok (.ladd, 1) := by decide +kernel
theorem dX12_made_161 : decode cX12_made 161 = .ok (.invokestatic 387, 3) := by decide +kernel
theorem dX12_made_164 : decode cX12_made 164 = .ok (.lreturn, 1) := by decide +kernel
theorem dX12_made_165 : decode cX12_made 165 = .ok (.lload_n 1, 1) := by decide +kernel
theorem dX12_made_166 : decode cX12_made 166 = .ok (.lload_n 3, 1) := by decide +kernel
theorem dX12_made_167 : decode cX12_made 167 = .ok (.lsub, 1) := by decide +kernel
theorem dX12_made_168 : decode cX12_made 168 = .ok (.invokestatic 387, 3) := by decide +kernel
theorem dX12_made_171 : decode cX12_made 171 = .ok (.lreturn, 1) := by decide +kernel
theorem dX12_made_172 : decode cX12_made 172 = .ok (.lload_n 1, 1) := by decide +kernel
theorem dX12_made_173 : decode cX12_made 173 = .ok (.lconst 0, 1) := by decide +kernel
theorem dX12_made_174 : decode cX12_made 174 = .ok (.lcmp, 1) := by decide +kernel
theorem dX12_made_175 : decode cX12_made 175 = .ok (.ifCond .eq 25, 3) := by decide +kernel
theorem dX12_made_178 : decode cX12_made 178 = .ok (.lload_n 3, 1) := by decide +kernel
theorem dX12_made_179 : decode cX12_made 179 = .ok (.invokestatic 377, 3) := by decide +kernel
theorem dX12_made_182 : decode cX12_made 182 = .ok (.ldc2_w 381, 3) := by decide +kernel
theorem dX12_made_185 : decode cX12_made 185 = .ok (.lload_n 1, 1) := by decide +kernel
theorem dX12_made_186 : decode cX12_made 186 = .ok (.invokestatic 377, 3) := by decide +kernel
theorem dX12_made_189 : decode cX12_made 189 = .ok (.ldiv, 1) := by decide +kernel
theorem dX12_made_190 : decode cX12_made 190 = .ok (.lcmp, 1) := by decide +kernel
theorem dX12_made_191 : decode cX12_made 191 = .ok (.ifCond .le 9, 3) := by decide +kernel
theorem dX12_made_194 : decode cX12_made 194 = .ok (.ldc2_w 375, 3) := by decide +kernel
theorem dX12_made_197 : decode cX12_made 197 = .ok (.goto 6, 3) := by decide +kernel
theorem dX12_made_200 : decode cX12_made 200 = .ok (.lload_n 1, 1) := by decide +kernel
theorem dX12_made_201 : decode cX12_made 201 = .ok (.lload_n 3, 1) := by decide +kernel
theorem dX12_made_202 : decode cX12_made 202 = .ok (.lmul, 1) := by decide +kernel
theorem dX12_made_203 : decode cX12_made 203 = .ok (.lreturn, 1) := by decide +kernel
theorem dX12_made_204 : decode cX12_made 204 = .ok (.lload_n 3, 1) := by decide +kernel
theorem dX12_made_205 : decode cX12_made 205 = .ok (.lconst 0, 1) := by decide +kernel
theorem dX12_made_206 : decode cX12_made 206 = .ok (.lcmp, 1) := by decide +kernel
theorem dX12_made_207 : decode cX12_made 207 = .ok (.ifCond .ne 9, 3) := by decide +kernel
theorem dX12_made_210 : decode cX12_made 210 = .ok (.ldc2_w 375, 3) := by decide +kernel
theorem dX12_made_213 : decode cX12_made 213 = .ok (.goto 6, 3) := by decide +kernel
theorem dX12_made_216 : decode cX12_made 216 = .ok (.lload_n 1, 1) := by decide +kernel
theorem dX12_made_217 : decode cX12_made 217 = .ok (.lload_n 3, 1) := by decide +kernel
theorem dX12_made_218 : decode cX12_made 218 = .ok (.ldiv, 1) := by decide +kernel
theorem dX12_made_219 : decode cX12_made 219 = .ok (.lreturn, 1) := by decide +kernel
theorem dX12_made_220 : decode cX12_made 220 = .ok (.lload_n 1, 1) := by decide +kernel
theorem dX12_made_221 : decode cX12_made 221 = .ok (.lconst 0, 1) := by decide +kernel
theorem dX12_made_222 : decode cX12_made 222 = .ok (.lcmp, 1) := by decide +kernel
theorem dX12_made_223 : decode cX12_made 223 = .ok (.ifCond .eq 13, 3) := by decide +kernel
theorem dX12_made_226 : decode cX12_made 226 = .ok (.lload_n 3, 1) := by decide +kernel
theorem dX12_made_227 : decode cX12_made 227 = .ok (.lconst 0, 1) := by decide +kernel
theorem dX12_made_228 : decode cX12_made 228 = .ok (.lcmp, 1) := by decide +kernel
theorem dX12_made_229 : decode cX12_made 229 = .ok (.ifCond .eq 7, 3) := by decide +kernel
theorem dX12_made_232 : decode cX12_made 232 = .ok (.iconst 1, 1) := by decide +kernel
theorem dX12_made_233 : decode cX12_made 233 = .ok (.goto 4, 3) := by decide +kernel
theorem dX12_made_236 : decode cX12_made 236 = .ok (.iconst 0, 1) := by decide +kernel
theorem dX12_made_237 : decode cX12_made 237 = .ok (.invokestatic 383, 3) := by decide +kernel
theorem dX12_made_240 : decode cX12_made 240 = .ok (.lreturn, 1) := by decide +kernel
theorem dX12_made_241 : decode cX12_made 241 = .ok (.lload_n 1, 1) := by decide +kernel
theorem dX12_made_242 : decode cX12_made 242 = .ok (.lconst 0, 1) := by decide +kernel
theorem dX12_made_243 : decode cX12_made 243 = .ok (.lcmp, 1) := by decide +kernel
theorem dX12_made_244 : decode cX12_made 244 = .ok (.ifCond .ne 9, 3) := by decide +kernel
theorem dX12_made_247 : decode cX12_made 247 = .ok (.lload_n 3, 1) := by decide +kernel
theorem dX12_made_248 : decode cX12_made 248 = .ok (.lconst 0, 1) := by decide +kernel
theorem dX12_made_249 : decode cX12_made 249 = .ok (.lcmp, 1) := by decide +kernel
theorem dX12_made_250 : decode cX12_made 250 = .ok (.ifCond .eq 7, 3) := by decide +kernel
theorem dX12_made_253 : decode cX12_made 253 = .ok (.iconst 1, 1) := by decide +kernel
theorem dX12_made_254 : decode cX12_made 254 = .ok (.goto 4, 3) := by decide +kernel
theorem dX12_made_257 : decode cX12_made 257 = .ok (.iconst 0, 1) := by decide +kernel
theorem dX12_made_258 : decode cX12_made 258 = .ok (.invokestatic 383, 3) := by decide +kernel
theorem dX12_made_261 : decode cX12_made 261 = .ok (.lreturn, 1) := by decide +kernel
theorem dX12_lineValue_0 : decode cX12_lineValue 0 = .ok (.ldc2_w 375, 3) := by decide +kernel
theorem dX12_lineValue_3 : decode cX12_lineValue 3 = .ok (.lstore_n 3, 1) := by decide +kernel
theorem dX12_lineValue_4 : decode cX12_lineValue 4 = .ok (.iconst 0, 1) := by decide +kernel
theorem dX12_lineValue_5 : decode cX12_lineValue 5 = .ok (.istore 5, 2) := by decide +kernel
theorem dX12_lineValue_7 : decode cX12_lineValue 7 = .ok (.iload 5, 2) := by decide +kernel
theorem dX12_lineValue_9 : decode cX12_lineValue 9 = .ok (.aload_n 0, 1) := by decide +kernel
theorem dX12_lineValue_10 : decode cX12_lineValue 10 = .ok (.getfield 72, 3) := by decide +kernel
theorem dX12_lineValue_13 : decode cX12_lineValue 13 = .ok (.iload_n 1, 1) := by decide +kernel
theorem dX12_lineValue_14 : decode cX12_lineValue 14 = .ok (.iaload, 1) := by decide +kernel
theorem dX12_lineValue_15 : decode cX12_lineValue 15 = .ok (.if_icmp .ge 194, 3) := by decide +kernel
theorem dX12_lineValue_18 : decode cX12_lineValue 18 = .ok (.aload_n 0, 1) := by decide +kernel
theorem dX12_lineValue_19 : decode cX12_lineValue 19 = .ok (.getfield 63, 3) := by decide +kernel
theorem dX12_lineValue_22 : decode cX12_lineValue 22 = .ok (.aload_n 0, 1) := by decide +kernel
theorem dX12_lineValue_23 : decode cX12_lineValue 23 = .ok (.getfield 69, 3) := by decide +kernel
theorem dX12_lineValue_26 : decode cX12_lineValue 26 = .ok (.iload_n 1, 1) := by decide +kernel
theorem dX12_lineValue_27 : decode cX12_lineValue 27 = .ok (.iaload, 1) := by decide +kernel
theorem dX12_lineValue_28 : decode cX12_lineValue 28 = .ok (.iload 5, 2) := by decide +kernel
theorem dX12_lineValue_30 : decode cX12_lineValue 30 = .ok (.iadd, 1) := by decide +kernel
theorem dX12_lineValue_31 : decode cX12_lineValue 31 = .ok (.iaload, 1) := by decide +kernel
theorem dX12_lineValue_32 : decode cX12_lineValue 32 = .ok (.istore 6, 2) := by decide +kernel
theorem dX12_lineValue_34 : decode cX12_lineValue 34 = .ok (.aload_n 0, 1) := by decide +kernel
theorem dX12_lineValue_35 : decode cX12_lineValue 35 = .ok (.getfield 45, 3) := by decide +kernel
theorem dX12_lineValue_38 : decode cX12_lineValue 38 = .ok (.iload 6, 2) := by decide +kernel
theorem dX12_lineValue_40 : decode cX12_lineValue 40 = .ok (.iaload, 1) := by decide +kernel
theorem dX12_lineValue_41 : decode cX12_lineValue 41 = .ok (.istore 7, 2) := by decide +kernel
theorem dX12_lineValue_43 : decode cX12_lineValue 43 = .ok (.iload 7, 2) := by decide +kernel
theorem dX12_lineValue_45 : decode cX12_lineValue 45 = .ok (.ifCond .ne 14, 3) := by decide +kernel
theorem dX12_lineValue_48 : decode cX12_lineValue 48 = .ok (.aload_n 0, 1) := by decide +kernel
theorem dX12_lineValue_49 : decode cX12_lineValue 49 = .ok (.getfield 54, 3) := by decide +kernel
theorem dX12_lineValue_52 : decode cX12_lineValue 52 = .ok (.iload 6, 2) := by decide +kernel
theorem dX12_lineValue_54 : decode cX12_lineValue 54 = .ok (.iaload, 1) := by decide +kernel
theorem dX12_lineValue_55 : decode cX12_lineValue 55 = .ok (.i2l, 1) := by decide +kernel
theorem dX12_lineValue_56 : decode cX12_lineValue 56 = .ok (.goto 126, 3) := by decide +kernel
theorem dX12_lineValue_59 : decode cX12_lineValue 59 = .ok (.iload 7, 2) := by decide +kernel
theorem dX12_lineValue_61 : decode cX12_lineValue 61 = .ok (.bipush 15, 2) := by decide +kernel
theorem dX12_lineValue_63 : decode cX12_lineValue 63 = .ok (.if_icmp .ne 32, 3) := by decide +kernel
theorem dX12_lineValue_66 : decode cX12_lineValue 66 = .ok (.aload_n 0, 1) := by decide +kernel
theorem dX12_lineValue_67 : decode cX12_lineValue 67 = .ok (.aload_n 0, 1) := by decide +kernel
theorem dX12_lineValue_68 : decode cX12_lineValue 68 = .ok (.getfield 57, 3) := by decide +kernel
theorem dX12_lineValue_71 : decode cX12_lineValue 71 = .ok (.iload 6, 2) := by decide +kernel
theorem dX12_lineValue_73 : decode cX12_lineValue 73 = .ok (.iaload, 1) := by decide +kernel
theorem dX12_lineValue_74 : decode cX12_lineValue 74 = .ok (.aload_n 0, 1) := by decide +kernel
theorem dX12_lineValue_75 : decode cX12_lineValue 75 = .ok (.getfield 60, 3) := by decide +kernel
theorem dX12_lineValue_78 : decode cX12_lineValue 78 = .ok (.iload 6, 2) := by decide +kernel
theorem dX12_lineValue_80 : decode cX12_lineValue 80 = .ok (.iaload, 1) := by decide +kernel
theorem dX12_lineValue_81 : decode cX12_lineValue 81 = .ok (.aload_n 0, 1) := by decide +kernel
theorem dX12_lineValue_82 : decode cX12_lineValue 82 = .ok (.getfield 54, 3) := by decide +kernel
theorem dX12_lineValue_85 : decode cX12_lineValue 85 = .ok (.iload 6, 2) := by decide +kernel
theorem dX12_lineValue_87 : decode cX12_lineValue 87 = .ok (.iaload, 1) := by decide +kernel
theorem dX12_lineValue_88 : decode cX12_lineValue 88 = .ok (.iload_n 2, 1) := by decide +kernel
theorem dX12_lineValue_89 : decode cX12_lineValue 89 = .ok (.invokevirtual 390, 3) := by decide +kernel
theorem dX12_lineValue_92 : decode cX12_lineValue 92 = .ok (.goto 90, 3) := by decide +kernel
theorem dX12_lineValue_95 : decode cX12_lineValue 95 = .ok (.iload 7, 2) := by decide +kernel
theorem dX12_lineValue_97 : decode cX12_lineValue 97 = .ok (.bipush 11, 2) := by decide +kernel
theorem dX12_lineValue_99 : decode cX12_lineValue 99 = .ok (.if_icmp .ne 19, 3) := by decide +kernel
theorem dX12_lineValue_102 : decode cX12_lineValue 102 = .ok (.aload_n 0, 1) := by decide +kernel
theorem dX12_lineValue_103 : decode cX12_lineValue 103 = .ok (.getfield 87, 3) := by decide +kernel
theorem dX12_lineValue_106 : decode cX12_lineValue 106 = .ok (.aload_n 0, 1) := by decide +kernel
theorem dX12_lineValue_107 : decode cX12_lineValue 107 = .ok (.getfield 48, 3) := by decide +kernel
theorem dX12_lineValue_110 : decode cX12_lineValue 110 = .ok (.iload 6, 2) := by decide +kernel
theorem dX12_lineValue_112 : decode cX12_lineValue 112 = .ok (.iaload, 1) := by decide +kernel
theorem dX12_lineValue_113 : decode cX12_lineValue 113 = .ok (.laload, 1) := by decide +kernel
theorem dX12_lineValue_114 : decode cX12_lineValue 114 = .ok (.lneg, 1) := by decide +kernel
theorem dX12_lineValue_115 : decode cX12_lineValue 115 = .ok (.goto 67, 3) := by decide +kernel
theorem dX12_lineValue_118 : decode cX12_lineValue 118 = .ok (.iload 7, 2) := by decide +kernel
theorem dX12_lineValue_120 : decode cX12_lineValue 120 = .ok (.bipush 12, 2) := by decide +kernel
theorem dX12_lineValue_122 : decode cX12_lineValue 122 = .ok (.if_icmp .ne 31, 3) := by decide +kernel
theorem dX12_lineValue_125 : decode cX12_lineValue 125 = .ok (.aload_n 0, 1) := by decide +kernel
theorem dX12_lineValue_126 : decode cX12_lineValue 126 = .ok (.getfield 87, 3) := by decide +kernel
theorem dX12_lineValue_129 : decode cX12_lineValue 129 = .ok (.aload_n 0, 1) := by decide +kernel
theorem dX12_lineValue_130 : decode cX12_lineValue 130 = .ok (.getfield 48, 3) := by decide +kernel
theorem dX12_lineValue_133 : decode cX12_lineValue 133 = .ok (.iload 6, 2) := by decide +kernel
theorem dX12_lineValue_135 : decode cX12_lineValue 135 = .ok (.iaload, 1) := by decide +kernel
theorem dX12_lineValue_136 : decode cX12_lineValue 136 = .ok (.laload, 1) := by decide +kernel
theorem dX12_lineValue_137 : decode cX12_lineValue 137 = .ok (.lconst 0, 1) := by decide +kernel
theorem dX12_lineValue_138 : decode cX12_lineValue 138 = .ok (.lcmp, 1) := by decide +kernel
theorem dX12_lineValue_139 : decode cX12_lineValue 139 = .ok (.ifCond .ne 7, 3) := by decide +kernel
theorem dX12_lineValue_142 : decode cX12_lineValue 142 = .ok (.iconst 1, 1) := by decide +kernel
theorem dX12_lineValue_143 : decode cX12_lineValue 143 = .ok (.goto 4, 3) := by decide +kernel
theorem dX12_lineValue_146 : decode cX12_lineValue 146 = .ok (.iconst 0, 1) := by decide +kernel
theorem dX12_lineValue_147 : decode cX12_lineValue 147 = .ok (.invokestatic 383, 3) := by decide +kernel
theorem dX12_lineValue_150 : decode cX12_lineValue 150 = .ok (.goto 32, 3) := by decide +kernel
theorem dX12_lineValue_153 : decode cX12_lineValue 153 = .ok (.iload 7, 2) := by decide +kernel
theorem dX12_lineValue_155 : decode cX12_lineValue 155 = .ok (.aload_n 0, 1) := by decide +kernel
theorem dX12_lineValue_156 : decode cX12_lineValue 156 = .ok (.getfield 87, 3) := by decide +kernel
theorem dX12_lineValue_159 : decode cX12_lineValue 159 = .ok (.aload_n 0, 1) := by decide +kernel
theorem dX12_lineValue_160 : decode cX12_lineValue 160 = .ok (.getfield 48, 3) := by decide +kernel
theorem dX12_lineValue_163 : decode cX12_lineValue 163 = .ok (.iload 6, 2) := by decide +kernel
theorem dX12_lineValue_165 : decode cX12_lineValue 165 = .ok (.iaload, 1) := by decide +kernel
theorem dX12_lineValue_166 : decode cX12_lineValue 166 = .ok (.laload, 1) := by decide +kernel
theorem dX12_lineValue_167 : decode cX12_lineValue 167 = .ok (.aload_n 0, 1) := by decide +kernel
theorem dX12_lineValue_168 : decode cX12_lineValue 168 = .ok (.getfield 87, 3) := by decide +kernel
theorem dX12_lineValue_171 : decode cX12_lineValue 171 = .ok (.aload_n 0, 1) := by decide +kernel
theorem dX12_lineValue_172 : decode cX12_lineValue 172 = .ok (.getfield 51, 3) := by decide +kernel
theorem dX12_lineValue_175 : decode cX12_lineValue 175 = .ok (.iload 6, 2) := by decide +kernel
theorem dX12_lineValue_177 : decode cX12_lineValue 177 = .ok (.iaload, 1) := by decide +kernel
theorem dX12_lineValue_178 : decode cX12_lineValue 178 = .ok (.laload, 1) := by decide +kernel
theorem dX12_lineValue_179 : decode cX12_lineValue 179 = .ok (.invokestatic 394, 3) := by decide +kernel
theorem dX12_lineValue_182 : decode cX12_lineValue 182 = .ok (.lstore_n 3, 1) := by decide +kernel
theorem dX12_lineValue_183 : decode cX12_lineValue 183 = .ok (.lload_n 3, 1) := by decide +kernel
theorem dX12_lineValue_184 : decode cX12_lineValue 184 = .ok (.ldc2_w 375, 3) := by decide +kernel
theorem dX12_lineValue_187 : decode cX12_lineValue 187 = .ok (.lcmp, 1) := by decide +kernel
theorem dX12_lineValue_188 : decode cX12_lineValue 188 = .ok (.ifCond .ne 7, 3) := by decide +kernel
theorem dX12_lineValue_191 : decode cX12_lineValue 191 = .ok (.ldc2_w 375, 3) := by decide +kernel
theorem dX12_lineValue_194 : decode cX12_lineValue 194 = .ok (.lreturn, 1) := by decide +kernel
theorem dX12_lineValue_195 : decode cX12_lineValue 195 = .ok (.aload_n 0, 1) := by decide +kernel
theorem dX12_lineValue_196 : decode cX12_lineValue 196 = .ok (.getfield 87, 3) := by decide +kernel
theorem dX12_lineValue_199 : decode cX12_lineValue 199 = .ok (.iload 6, 2) := by decide +kernel
theorem dX12_lineValue_201 : decode cX12_lineValue 201 = .ok (.lload_n 3, 1) := by decide +kernel
theorem dX12_lineValue_202 : decode cX12_lineValue 202 = .ok (.lastore, 1) := by decide +kernel
theorem dX12_lineValue_203 : decode cX12_lineValue 203 = .ok (.iinc 5 1, 3) := by decide +kernel
theorem dX12_lineValue_206 : decode cX12_lineValue 206 = .ok (.goto (-199), 3) := by decide +kernel
theorem dX12_lineValue_209 : decode cX12_lineValue 209 = .ok (.lload_n 3, 1) := by decide +kernel
theorem dX12_lineValue_210 : decode cX12_lineValue 210 = .ok (.lreturn, 1) := by decide +kernel
theorem dX12_rawOf_0 : decode cX12_rawOf 0 = .ok (.aload_n 0, 1) := by decide +kernel
theorem dX12_rawOf_1 : decode cX12_rawOf 1 = .ok (.iload_n 2, 1) := by decide +kernel
theorem dX12_rawOf_2 : decode cX12_rawOf 2 = .ok (.invokevirtual 234, 3) := by decide +kernel
theorem dX12_rawOf_5 : decode cX12_rawOf 5 = .ok (.iconst 0, 1) := by decide +kernel
theorem dX12_rawOf_6 : decode cX12_rawOf 6 = .ok (.istore_n 3, 1) := by decide +kernel
theorem dX12_rawOf_7 : decode cX12_rawOf 7 = .ok (.iconst 0, 1) := by decide +kernel
theorem dX12_rawOf_8 : decode cX12_rawOf 8 = .ok (.istore 4, 2) := by decide +kernel
theorem dX12_rawOf_10 : decode cX12_rawOf 10 = .ok (.iload 4, 2) := by decide +kernel
theorem dX12_rawOf_12 : decode cX12_rawOf 12 = .ok (.aload_n 0, 1) := by decide +kernel
theorem dX12_rawOf_13 : decode cX12_rawOf 13 = .ok (.getfield 366, 3) := by decide +kernel
theorem dX12_rawOf_16 : decode cX12_rawOf 16 = .ok (.if_icmp .ge 53, 3) := by decide +kernel
theorem dX12_rawOf_19 : decode cX12_rawOf 19 = .ok (.aload_n 0, 1) := by decide +kernel
theorem dX12_rawOf_20 : decode cX12_rawOf 20 = .ok (.iload 4, 2) := by decide +kernel
theorem dX12_rawOf_22 : decode cX12_rawOf 22 = .ok (.iload_n 1, 1) := by decide +kernel
theorem dX12_rawOf_23 : decode cX12_rawOf 23 = .ok (.invokevirtual 398, 3) := by decide +kernel
theorem dX12_rawOf_26 : decode cX12_rawOf 26 = .ok (.lstore 5, 2) := by decide +kernel
theorem dX12_rawOf_28 : decode cX12_rawOf 28 = .ok (.lload 5, 2) := by decide +kernel
theorem dX12_rawOf_30 : decode cX12_rawOf 30 = .ok (.ldc2_w 375, 3) := by decide +kernel
theorem dX12_rawOf_33 : decode cX12_rawOf 33 = .ok (.lcmp, 1) := by decide +kernel
theorem dX12_rawOf_34 : decode cX12_rawOf 34 = .ok (.ifCond .eq 29, 3) := by decide +kernel
theorem dX12_rawOf_37 : decode cX12_rawOf 37 = .ok (.lload 5, 2) := by decide +kernel
theorem dX12_rawOf_39 : decode cX12_rawOf 39 = .ok (.lconst 0, 1) := by decide +kernel
theorem dX12_rawOf_40 : decode cX12_rawOf 40 = .ok (.lcmp, 1) := by decide +kernel
theorem dX12_rawOf_41 : decode cX12_rawOf 41 = .ok (.ifCond .eq 22, 3) := by decide +kernel
theorem dX12_rawOf_44 : decode cX12_rawOf 44 = .ok (.aload_n 0, 1) := by decide +kernel
theorem dX12_rawOf_45 : decode cX12_rawOf 45 = .ok (.getfield 66, 3) := by decide +kernel
theorem dX12_rawOf_48 : decode cX12_rawOf 48 = .ok (.iload 4, 2) := by decide +kernel
theorem dX12_rawOf_50 : decode cX12_rawOf 50 = .ok (.iaload, 1) := by decide +kernel
theorem dX12_rawOf_51 : decode cX12_rawOf 51 = .ok (.iload_n 3, 1) := by decide +kernel
theorem dX12_rawOf_52 : decode cX12_rawOf 52 = .ok (.if_icmp .le 11, 3) := by decide +kernel
theorem dX12_rawOf_55 : decode cX12_rawOf 55 = .ok (.aload_n 0, 1) := by decide +kernel
theorem dX12_rawOf_56 : decode cX12_rawOf 56 = .ok (.getfield 66, 3) := by decide +kernel
theorem dX12_rawOf_59 : decode cX12_rawOf 59 = .ok (.iload 4, 2) := by decide +kernel
theorem dX12_rawOf_61 : decode cX12_rawOf 61 = .ok (.iaload, 1) := by decide +kernel
theorem dX12_rawOf_62 : decode cX12_rawOf 62 = .ok (.istore_n 3, 1) := by decide +kernel
theorem dX12_rawOf_63 : decode cX12_rawOf 63 = .ok (.iinc 4 1, 3) := by decide +kernel
theorem dX12_rawOf_66 : decode cX12_rawOf 66 = .ok (.goto (-56), 3) := by decide +kernel
theorem dX12_rawOf_69 : decode cX12_rawOf 69 = .ok (.iload_n 3, 1) := by decide +kernel
theorem dX12_rawOf_70 : decode cX12_rawOf 70 = .ok (.ireturn, 1) := by decide +kernel
theorem dX12_raw_0 : decode cX12_raw 0 = .ok (.aload_n 0, 1) := by decide +kernel
theorem dX12_raw_1 : decode cX12_raw 1 = .ok (.iconst 0, 1) := by decide +kernel
theorem dX12_raw_2 : decode cX12_raw 2 = .ok (.putfield 208, 3) := by decide +kernel
theorem dX12_raw_5 : decode cX12_raw 5 = .ok (.iload_n 1, 1) := by decide +kernel
theorem dX12_raw_6 : decode cX12_raw 6 = .ok (.invokestatic 231, 3) := by decide +kernel
theorem dX12_raw_9 : decode cX12_raw 9 = .ok (.ifCond .eq 19, 3) := by decide +kernel
theorem dX12_raw_12 : decode cX12_raw 12 = .ok (.iload_n 2, 1) := by decide +kernel
theorem dX12_raw_13 : decode cX12_raw 13 = .ok (.invokestatic 231, 3) := by decide +kernel
theorem dX12_raw_16 : decode cX12_raw 16 = .ok (.ifCond .eq 12, 3) := by decide +kernel
theorem dX12_raw_19 : decode cX12_raw 19 = .ok (.aload_n 0, 1) := by decide +kernel
theorem dX12_raw_20 : decode cX12_raw 20 = .ok (.iload_n 1, 1) := by decide +kernel
theorem dX12_raw_21 : decode cX12_raw 21 = .ok (.iload_n 2, 1) := by decide +kernel
theorem dX12_raw_22 : decode cX12_raw 22 = .ok (.invokevirtual 402, 3) := by decide +kernel
theorem dX12_raw_25 : decode cX12_raw 25 = .ok (.goto 4, 3) := by decide +kernel
theorem dX12_raw_28 : decode cX12_raw 28 = .ok (.iconst (-1), 1) := by decide +kernel
theorem dX12_raw_29 : decode cX12_raw 29 = .ok (.ireturn, 1) := by decide +kernel
theorem dX12_tries_0 : decode cX12_tries 0 = .ok (.aload_n 0, 1) := by decide +kernel
theorem dX12_tries_1 : decode cX12_tries 1 = .ok (.iconst 0, 1) := by decide +kernel
theorem dX12_tries_2 : decode cX12_tries 2 = .ok (.putfield 208, 3) := by decide +kernel
theorem dX12_tries_5 : decode cX12_tries 5 = .ok (.iload_n 1, 1) := by decide +kernel
theorem dX12_tries_6 : decode cX12_tries 6 = .ok (.ifCond .lt 25, 3) := by decide +kernel
theorem dX12_tries_9 : decode cX12_tries 9 = .ok (.iload_n 1, 1) := by decide +kernel
theorem dX12_tries_10 : decode cX12_tries 10 = .ok (.aload_n 0, 1) := by decide +kernel
theorem dX12_tries_11 : decode cX12_tries 11 = .ok (.getfield 366, 3) := by decide +kernel
theorem dX12_tries_14 : decode cX12_tries 14 = .ok (.if_icmp .ge 17, 3) := by decide +kernel
theorem dX12_tries_17 : decode cX12_tries 17 = .ok (.iload_n 2, 1) := by decide +kernel
theorem dX12_tries_18 : decode cX12_tries 18 = .ok (.invokestatic 231, 3) := by decide +kernel
theorem dX12_tries_21 : decode cX12_tries 21 = .ok (.ifCond .eq 10, 3) := by decide +kernel
theorem dX12_tries_24 : decode cX12_tries 24 = .ok (.iload_n 3, 1) := by decide +kernel
theorem dX12_tries_25 : decode cX12_tries 25 = .ok (.invokestatic 231, 3) := by decide +kernel
theorem dX12_tries_28 : decode cX12_tries 28 = .ok (.ifCond .ne 7, 3) := by decide +kernel
theorem dX12_tries_31 : decode cX12_tries 31 = .ok (.ldc2_w 375, 3) := by decide +kernel
theorem dX12_tries_34 : decode cX12_tries 34 = .ok (.lreturn, 1) := by decide +kernel
theorem dX12_tries_35 : decode cX12_tries 35 = .ok (.aload_n 0, 1) := by decide +kernel
theorem dX12_tries_36 : decode cX12_tries 36 = .ok (.iload_n 3, 1) := by decide +kernel
theorem dX12_tries_37 : decode cX12_tries 37 = .ok (.invokevirtual 234, 3) := by decide +kernel
theorem dX12_tries_40 : decode cX12_tries 40 = .ok (.aload_n 0, 1) := by decide +kernel
theorem dX12_tries_41 : decode cX12_tries 41 = .ok (.iload_n 1, 1) := by decide +kernel
theorem dX12_tries_42 : decode cX12_tries 42 = .ok (.iload_n 2, 1) := by decide +kernel
theorem dX12_tries_43 : decode cX12_tries 43 = .ok (.invokevirtual 398, 3) := by decide +kernel
theorem dX12_tries_46 : decode cX12_tries 46 = .ok (.lreturn, 1) := by decide +kernel
theorem dX12_levelAt_0 : decode cX12_levelAt 0 = .ok (.iconst 0, 1) := by decide +kernel
theorem dX12_levelAt_1 : decode cX12_levelAt 1 = .ok (.istore_n 2, 1) := by decide +kernel
theorem dX12_levelAt_2 : decode cX12_levelAt 2 = .ok (.iload_n 1, 1) := by decide +kernel
theorem dX12_levelAt_3 : decode cX12_levelAt 3 = .ok (.aload_n 0, 1) := by decide +kernel
theorem dX12_levelAt_4 : decode cX12_levelAt 4 = .ok (.getfield 369, 3) := by decide +kernel
theorem dX12_levelAt_7 : decode cX12_levelAt 7 = .ok (.isub, 1) := by decide +kernel
theorem dX12_levelAt_8 : decode cX12_levelAt 8 = .ok (.ifCond .ge 7, 3) := by decide +kernel
theorem dX12_levelAt_11 : decode cX12_levelAt 11 = .ok (.iconst 0, 1) := by decide +kernel
theorem dX12_levelAt_12 : decode cX12_levelAt 12 = .ok (.goto 9, 3) := by decide +kernel
theorem dX12_levelAt_15 : decode cX12_levelAt 15 = .ok (.iload_n 1, 1) := by decide +kernel
theorem dX12_levelAt_16 : decode cX12_levelAt 16 = .ok (.aload_n 0, 1) := by decide +kernel
theorem dX12_levelAt_17 : decode cX12_levelAt 17 = .ok (.getfield 369, 3) := by decide +kernel
theorem dX12_levelAt_20 : decode cX12_levelAt 20 = .ok (.isub, 1) := by decide +kernel
theorem dX12_levelAt_21 : decode cX12_levelAt 21 = .ok (.istore_n 3, 1) := by decide +kernel
theorem dX12_levelAt_22 : decode cX12_levelAt 22 = .ok (.iload_n 3, 1) := by decide +kernel
theorem dX12_levelAt_23 : decode cX12_levelAt 23 = .ok (.iload_n 1, 1) := by decide +kernel
theorem dX12_levelAt_24 : decode cX12_levelAt 24 = .ok (.if_icmp .gt 30, 3) := by decide +kernel
theorem dX12_levelAt_27 : decode cX12_levelAt 27 = .ok (.aload_n 0, 1) := by decide +kernel
theorem dX12_levelAt_28 : decode cX12_levelAt 28 = .ok (.iload_n 3, 1) := by decide +kernel
theorem dX12_levelAt_29 : decode cX12_levelAt 29 = .ok (.iload_n 3, 1) := by decide +kernel
theorem dX12_levelAt_30 : decode cX12_levelAt 30 = .ok (.invokevirtual 402, 3) := by decide +kernel
theorem dX12_levelAt_33 : decode cX12_levelAt 33 = .ok (.istore 4, 2) := by decide +kernel
theorem dX12_levelAt_35 : decode cX12_levelAt 35 = .ok (.iload 4, 2) := by decide +kernel
theorem dX12_levelAt_37 : decode cX12_levelAt 37 = .ok (.iload_n 2, 1) := by decide +kernel
theorem dX12_levelAt_38 : decode cX12_levelAt 38 = .ok (.if_icmp .le 8, 3) := by decide +kernel
theorem dX12_levelAt_41 : decode cX12_levelAt 41 = .ok (.iload 4, 2) := by decide +kernel
theorem dX12_levelAt_43 : decode cX12_levelAt 43 = .ok (.goto 4, 3) := by decide +kernel
theorem dX12_levelAt_46 : decode cX12_levelAt 46 = .ok (.iload_n 2, 1) := by decide +kernel
theorem dX12_levelAt_47 : decode cX12_levelAt 47 = .ok (.istore_n 2, 1) := by decide +kernel
theorem dX12_levelAt_48 : decode cX12_levelAt 48 = .ok (.iinc 3 1, 3) := by decide +kernel
theorem dX12_levelAt_51 : decode cX12_levelAt 51 = .ok (.goto (-29), 3) := by decide +kernel
theorem dX12_levelAt_54 : decode cX12_levelAt 54 = .ok (.iload_n 2, 1) := by decide +kernel
theorem dX12_levelAt_55 : decode cX12_levelAt 55 = .ok (.ireturn, 1) := by decide +kernel
theorem dX12_level_0 : decode cX12_level 0 = .ok (.aload_n 0, 1) := by decide +kernel
theorem dX12_level_1 : decode cX12_level 1 = .ok (.iconst 0, 1) := by decide +kernel
theorem dX12_level_2 : decode cX12_level 2 = .ok (.putfield 208, 3) := by decide +kernel
theorem dX12_level_5 : decode cX12_level 5 = .ok (.iload_n 1, 1) := by decide +kernel
theorem dX12_level_6 : decode cX12_level 6 = .ok (.invokestatic 231, 3) := by decide +kernel
theorem dX12_level_9 : decode cX12_level 9 = .ok (.ifCond .eq 11, 3) := by decide +kernel
theorem dX12_level_12 : decode cX12_level 12 = .ok (.aload_n 0, 1) := by decide +kernel
theorem dX12_level_13 : decode cX12_level 13 = .ok (.iload_n 1, 1) := by decide +kernel
theorem dX12_level_14 : decode cX12_level 14 = .ok (.invokevirtual 405, 3) := by decide +kernel
theorem dX12_level_17 : decode cX12_level 17 = .ok (.goto 4, 3) := by decide +kernel
theorem dX12_level_20 : decode cX12_level 20 = .ok (.iconst (-1), 1) := by decide +kernel
theorem dX12_level_21 : decode cX12_level 21 = .ok (.ireturn, 1) := by decide +kernel
theorem dX12_land_0 : decode cX12_land 0 = .ok (.aload_n 0, 1) := by decide +kernel
theorem dX12_land_1 : decode cX12_land 1 = .ok (.iconst 0, 1) := by decide +kernel
theorem dX12_land_2 : decode cX12_land 2 = .ok (.putfield 208, 3) := by decide +kernel
theorem dX12_land_5 : decode cX12_land 5 = .ok (.iload_n 1, 1) := by decide +kernel
theorem dX12_land_6 : decode cX12_land 6 = .ok (.iconst 2, 1) := by decide +kernel
theorem dX12_land_7 : decode cX12_land 7 = .ok (.bipush 8, 2) := by decide +kernel
theorem dX12_land_9 : decode cX12_land 9 = .ok (.invokestatic 214, 3) := by decide +kernel
theorem dX12_land_12 : decode cX12_land 12 = .ok (.ifCond .eq 13, 3) := by decide +kernel
theorem dX12_land_15 : decode cX12_land 15 = .ok (.iload_n 2, 1) := by decide +kernel
theorem dX12_land_16 : decode cX12_land 16 = .ok (.iconst 2, 1) := by decide +kernel
theorem dX12_land_17 : decode cX12_land 17 = .ok (.bipush 8, 2) := by decide +kernel
theorem dX12_land_19 : decode cX12_land 19 = .ok (.invokestatic 214, 3) := by decide +kernel
theorem dX12_land_22 : decode cX12_land 22 = .ok (.ifCond .ne 5, 3) := by decide +kernel
theorem dX12_land_25 : decode cX12_land 25 = .ok (.iconst 0, 1) := by decide +kernel
theorem dX12_land_26 : decode cX12_land 26 = .ok (.ireturn, 1) := by decide +kernel
theorem dX12_land_27 : decode cX12_land 27 = .ok (.aload_n 0, 1) := by decide +kernel
theorem dX12_land_28 : decode cX12_land 28 = .ok (.iload_n 1, 1) := by decide +kernel
theorem dX12_land_29 : decode cX12_land 29 = .ok (.putfield 91, 3) := by decide +kernel
theorem dX12_land_32 : decode cX12_land 32 = .ok (.aload_n 0, 1) := by decide +kernel
theorem dX12_land_33 : decode cX12_land 33 = .ok (.iload_n 2, 1) := by decide +kernel
theorem dX12_land_34 : decode cX12_land 34 = .ok (.putfield 94, 3) := by decide +kernel
theorem dX12_land_37 : decode cX12_land 37 = .ok (.iconst 0, 1) := by decide +kernel
theorem dX12_land_38 : decode cX12_land 38 = .ok (.istore_n 3, 1) := by decide +kernel
theorem dX12_land_39 : decode cX12_land 39 = .ok (.iload_n 3, 1) := by decide +kernel
theorem dX12_land_40 : decode cX12_land 40 = .ok (.bipush 64, 2) := by decide +kernel
theorem dX12_land_42 : decode cX12_land 42 = .ok (.if_icmp .ge 37, 3) := by decide +kernel
theorem dX12_land_45 : decode cX12_land 45 = .ok (.aload_n 0, 1) := by decide +kernel
theorem dX12_land_46 : decode cX12_land 46 = .ok (.getfield 97, 3) := by decide +kernel
theorem dX12_land_49 : decode cX12_land 49 = .ok (.iload_n 3, 1) := by decide +kernel
theorem dX12_land_50 : decode cX12_land 50 = .ok (.iconst 0, 1) := by decide +kernel
theorem dX12_land_51 : decode cX12_land 51 = .ok (.iastore, 1) := by decide +kernel
theorem dX12_land_52 : decode cX12_land 52 = .ok (.aload_n 0, 1) := by decide +kernel
theorem dX12_land_53 : decode cX12_land 53 = .ok (.getfield 100, 3) := by decide +kernel
theorem dX12_land_56 : decode cX12_land 56 = .ok (.iload_n 3, 1) := by decide +kernel
theorem dX12_land_57 : decode cX12_land 57 = .ok (.iconst 0, 1) := by decide +kernel
theorem dX12_land_58 : decode cX12_land 58 = .ok (.iastore, 1) := by decide +kernel
theorem dX12_land_59 : decode cX12_land 59 = .ok (.aload_n 0, 1) := by decide +kernel
theorem dX12_land_60 : decode cX12_land 60 = .ok (.getfield 103, 3) := by decide +kernel
theorem dX12_land_63 : decode cX12_land 63 = .ok (.iload_n 3, 1) := by decide +kernel
theorem dX12_land_64 : decode cX12_land 64 = .ok (.iconst 0, 1) := by decide +kernel
theorem dX12_land_65 : decode cX12_land 65 = .ok (.bastore, 1) := by decide +kernel
theorem dX12_land_66 : decode cX12_land 66 = .ok (.aload_n 0, 1) := by decide +kernel
theorem dX12_land_67 : decode cX12_land 67 = .ok (.getfield 106, 3) := by decide +kernel
theorem dX12_land_70 : decode cX12_land 70 = .ok (.iload_n 3, 1) := by decide +kernel
theorem dX12_land_71 : decode cX12_land 71 = .ok (.iconst 0, 1) := by decide +kernel
theorem dX12_land_72 : decode cX12_land 72 = .ok (.bastore, 1) := by decide +kernel
theorem dX12_land_73 : decode cX12_land 73 = .ok (.iinc 3 1, 3) := by decide +kernel
theorem dX12_land_76 : decode cX12_land 76 = .ok (.goto (-37), 3) := by decide +kernel
theorem dX12_land_79 : decode cX12_land 79 = .ok (.aload_n 0, 1) := by decide +kernel
theorem dX12_land_80 : decode cX12_land 80 = .ok (.iconst 0, 1) := by decide +kernel
theorem dX12_land_81 : decode cX12_land 81 = .ok (.putfield 408, 3) := by decide +kernel
theorem dX12_land_84 : decode cX12_land 84 = .ok (.aload_n 0, 1) := by decide +kernel
theorem dX12_land_85 : decode cX12_land 85 = .ok (.iconst 0, 1) := by decide +kernel
theorem dX12_land_86 : decode cX12_land 86 = .ok (.putfield 411, 3) := by decide +kernel
theorem dX12_land_89 : decode cX12_land 89 = .ok (.aload_n 0, 1) := by decide +kernel
theorem dX12_land_90 : decode cX12_land 90 = .ok (.iconst 0, 1) := by decide +kernel
theorem dX12_land_91 : decode cX12_land 91 = .ok (.putfield 414, 3) := by decide +kernel
theorem dX12_land_94 : decode cX12_land 94 = .ok (.aload_n 0, 1) := by decide +kernel
theorem dX12_land_95 : decode cX12_land 95 = .ok (.iconst 0, 1) := by decide +kernel
theorem dX12_land_96 : decode cX12_land 96 = .ok (.putfield 417, 3) := by decide +kernel
theorem dX12_land_99 : decode cX12_land 99 = .ok (.aload_n 0, 1) := by decide +kernel
theorem dX12_land_100 : decode cX12_land 100 = .ok (.iconst 0, 1) := by decide +kernel
theorem dX12_land_101 : decode cX12_land 101 = .ok (.putfield 420, 3) := by decide +kernel
theorem dX12_land_104 : decode cX12_land 104 = .ok (.iconst 1, 1) := by decide +kernel
theorem dX12_land_105 : decode cX12_land 105 = .ok (.ireturn, 1) := by decide +kernel
theorem dX12_isCell_0 : decode cX12_isCell 0 = .ok (.iload_n 1, 1) := by decide +kernel
theorem dX12_isCell_1 : decode cX12_isCell 1 = .ok (.ifCond .lt 20, 3) := by decide +kernel
theorem dX12_isCell_4 : decode cX12_isCell 4 = .ok (.iload_n 1, 1) := by decide +kernel
theorem dX12_isCell_5 : decode cX12_isCell 5 = .ok (.aload_n 0, 1) := by decide +kernel
theorem dX12_isCell_6 : decode cX12_isCell 6 = .ok (.getfield 91, 3) := by decide +kernel
theorem dX12_isCell_9 : decode cX12_isCell 9 = .ok (.aload_n 0, 1) := by decide +kernel
theorem dX12_isCell_10 : decode cX12_isCell 10 = .ok (.getfield 94, 3) := by decide +kernel
theorem dX12_isCell_13 : decode cX12_isCell 13 = .ok (.imul, 1) := by decide +kernel
theorem dX12_isCell_14 : decode cX12_isCell 14 = .ok (.if_icmp .ge 7, 3) := by decide +kernel
theorem dX12_isCell_17 : decode cX12_isCell 17 = .ok (.iconst 1, 1) := by decide +kernel
theorem dX12_isCell_18 : decode cX12_isCell 18 = .ok (.goto 4, 3) := by decide +kernel
theorem dX12_isCell_21 : decode cX12_isCell 21 = .ok (.iconst 0, 1) := by decide +kernel
theorem dX12_isCell_22 : decode cX12_isCell 22 = .ok (.ireturn, 1) := by decide +kernel
theorem dX12_ground_0 : decode cX12_ground 0 = .ok (.aload_n 0, 1) := by decide +kernel
theorem dX12_ground_1 : decode cX12_ground 1 = .ok (.iconst 0, 1) := by decide +kernel
theorem dX12_ground_2 : decode cX12_ground 2 = .ok (.putfield 208, 3) := by decide +kernel
theorem dX12_ground_5 : decode cX12_ground 5 = .ok (.aload_n 0, 1) := by decide +kernel
theorem dX12_ground_6 : decode cX12_ground 6 = .ok (.iload_n 1, 1) := by decide +kernel
theorem dX12_ground_7 : decode cX12_ground 7 = .ok (.invokevirtual 423, 3) := by decide +kernel
theorem dX12_ground_10 : decode cX12_ground 10 = .ok (.ifCond .eq 46, 3) := by decide +kernel
theorem dX12_ground_13 : decode cX12_ground 13 = .ok (.iload_n 2, 1) := by decide +kernel
theorem dX12_ground_14 : decode cX12_ground 14 = .ok (.iconst 0, 1) := by decide +kernel
theorem dX12_ground_15 : decode cX12_ground 15 = .ok (.sipush 999, 3) := by decide +kernel
theorem dX12_ground_18 : decode cX12_ground 18 = .ok (.invokestatic 214, 3) := by decide +kernel
theorem dX12_ground_21 : decode cX12_ground 21 = .ok (.ifCond .eq 35, 3) := by decide +kernel
theorem dX12_ground_24 : decode cX12_ground 24 = .ok (.iload_n 3, 1) := by decide +kernel
theorem dX12_ground_25 : decode cX12_ground 25 = .ok (.iconst 0, 1) := by decide +kernel
theorem dX12_ground_26 : decode cX12_ground 26 = .ok (.bipush 99, 2) := by decide +kernel
theorem dX12_ground_28 : decode cX12_ground 28 = .ok (.invokestatic 214, 3) := by decide +kernel
theorem dX12_ground_31 : decode cX12_ground 31 = .ok (.ifCond .eq 25, 3) := by decide +kernel
theorem dX12_ground_34 : decode cX12_ground 34 = .ok (.iload_n 3, 1) := by decide +kernel
theorem dX12_ground_35 : decode cX12_ground 35 = .ok (.ifCond .le 23, 3) := by decide +kernel
theorem dX12_ground_38 : decode cX12_ground 38 = .ok (.aload_n 0, 1) := by decide +kernel
theorem dX12_ground_39 : decode cX12_ground 39 = .ok (.getfield 103, 3) := by decide +kernel
theorem dX12_ground_42 : decode cX12_ground 42 = .ok (.iload_n 1, 1) := by decide +kernel
theorem dX12_ground_43 : decode cX12_ground 43 = .ok (.baload, 1) := by decide +kernel
theorem dX12_ground_44 : decode cX12_ground 44 = .ok (.ifCond .ne 12, 3) := by decide +kernel
theorem dX12_ground_47 : decode cX12_ground 47 = .ok (.aload_n 0, 1) := by decide +kernel
theorem dX12_ground_48 : decode cX12_ground 48 = .ok (.getfield 106, 3) := by decide +kernel
theorem dX12_ground_51 : decode cX12_ground 51 = .ok (.iload_n 1, 1) := by decide +kernel
theorem dX12_ground_52 : decode cX12_ground 52 = .ok (.baload, 1) := by decide +kernel
theorem dX12_ground_53 : decode cX12_ground 53 = .ok (.ifCond .eq 5, 3) := by decide +kernel
theorem dX12_ground_56 : decode cX12_ground 56 = .ok (.iconst 0, 1) := by decide +kernel
theorem dX12_ground_57 : decode cX12_ground 57 = .ok (.ireturn, 1) := by decide +kernel
theorem dX12_ground_58 : decode cX12_ground 58 = .ok (.aload_n 0, 1) := by decide +kernel
theorem dX12_ground_59 : decode cX12_ground 59 = .ok (.getfield 97, 3) := by decide +kernel
theorem dX12_ground_62 : decode cX12_ground 62 = .ok (.iload_n 1, 1) := by decide +kernel
theorem dX12_ground_63 : decode cX12_ground 63 = .ok (.iload_n 2, 1) := by decide +kernel
theorem dX12_ground_64 : decode cX12_ground 64 = .ok (.iastore, 1) := by decide +kernel
theorem dX12_ground_65 : decode cX12_ground 65 = .ok (.aload_n 0, 1) := by decide +kernel
theorem dX12_ground_66 : decode cX12_ground 66 = .ok (.getfield 100, 3) := by decide +kernel
theorem dX12_ground_69 : decode cX12_ground 69 = .ok (.iload_n 1, 1) := by decide +kernel
theorem dX12_ground_70 : decode cX12_ground 70 = .ok (.iload_n 3, 1) := by decide +kernel
theorem dX12_ground_71 : decode cX12_ground 71 = .ok (.iastore, 1) := by decide +kernel
theorem dX12_ground_72 : decode cX12_ground 72 = .ok (.iconst 1, 1) := by decide +kernel
theorem dX12_ground_73 : decode cX12_ground 73 = .ok (.ireturn, 1) := by decide +kernel
theorem dX12_hasWork_0 : decode cX12_hasWork 0 = .ok (.iload_n 2, 1) := by decide +kernel
theorem dX12_hasWork_1 : decode cX12_hasWork 1 = .ok (.ifCond .eq 12, 3) := by decide +kernel
theorem dX12_hasWork_4 : decode cX12_hasWork 4 = .ok (.aload_n 0, 1) := by decide +kernel
theorem dX12_hasWork_5 : decode cX12_hasWork 5 = .ok (.getfield 106, 3) := by decide +kernel
theorem dX12_hasWork_8 : decode cX12_hasWork 8 = .ok (.iload_n 1, 1) := by decide +kernel
theorem dX12_hasWork_9 : decode cX12_hasWork 9 = .ok (.baload, 1) := by decide +kernel
theorem dX12_hasWork_10 : decode cX12_hasWork 10 = .ok (.goto 9, 3) := by decide +kernel
theorem dX12_hasWork_13 : decode cX12_hasWork 13 = .ok (.aload_n 0, 1) := by decide +kernel
theorem dX12_hasWork_14 : decode cX12_hasWork 14 = .ok (.getfield 103, 3) := by decide +kernel
theorem dX12_hasWork_17 : decode cX12_hasWork 17 = .ok (.iload_n 1, 1) := by decide +kernel
theorem dX12_hasWork_18 : decode cX12_hasWork 18 = .ok (.baload, 1) := by decide +kernel
theorem dX12_hasWork_19 : decode cX12_hasWork 19 = .ok (.ireturn, 1) := by decide +kernel
theorem dX12_mayWork_0 : decode cX12_mayWork 0 = .ok (.aload_n 0, 1) := by decide +kernel
theorem dX12_mayWork_1 : decode cX12_mayWork 1 = .ok (.iload_n 1, 1) := by decide +kernel
theorem dX12_mayWork_2 : decode cX12_mayWork 2 = .ok (.iload_n 2, 1) := by decide +kernel
theorem dX12_mayWork_3 : decode cX12_mayWork 3 = .ok (.invokevirtual 426, 3) := by decide +kernel
theorem dX12_mayWork_6 : decode cX12_mayWork 6 = .ok (.ifCond .ne 24, 3) := by decide +kernel
theorem dX12_mayWork_9 : decode cX12_mayWork 9 = .ok (.aload_n 0, 1) := by decide +kernel
theorem dX12_mayWork_10 : decode cX12_mayWork 10 = .ok (.getfield 100, 3) := by decide +kernel
theorem dX12_mayWork_13 : decode cX12_mayWork 13 = .ok (.iload_n 1, 1) := by decide +kernel
theorem dX12_mayWork_14 : decode cX12_mayWork 14 = .ok (.iaload, 1) := by decide +kernel
theorem dX12_mayWork_15 : decode cX12_mayWork 15 = .ok (.ifCond .ne 15, 3) := by decide +kernel
theorem dX12_mayWork_18 : decode cX12_mayWork 18 = .ok (.aload_n 0, 1) := by decide +kernel
theorem dX12_mayWork_19 : decode cX12_mayWork 19 = .ok (.getfield 408, 3) := by decide +kernel
theorem dX12_mayWork_22 : decode cX12_mayWork 22 = .ok (.iconst 4, 1) := by decide +kernel
theorem dX12_mayWork_23 : decode cX12_mayWork 23 = .ok (.if_icmp .ge 7, 3) := by decide +kernel
theorem dX12_mayWork_26 : decode cX12_mayWork 26 = .ok (.iconst 1, 1) := by decide +kernel
theorem dX12_mayWork_27 : decode cX12_mayWork 27 = .ok (.goto 4, 3) := by decide +kernel
theorem dX12_mayWork_30 : decode cX12_mayWork 30 = .ok (.iconst 0, 1) := by decide +kernel
theorem dX12_mayWork_31 : decode cX12_mayWork 31 = .ok (.ireturn, 1) := by decide +kernel
theorem dX12_setWork_0 : decode cX12_setWork 0 = .ok (.iload_n 2, 1) := by decide +kernel
theorem dX12_setWork_1 : decode cX12_setWork 1 = .ok (.ifCond .eq 13, 3) := by decide +kernel
theorem dX12_setWork_4 : decode cX12_setWork 4 = .ok (.aload_n 0, 1) := by decide +kernel
theorem dX12_setWork_5 : decode cX12_setWork 5 = .ok (.getfield 106, 3) := by decide +kernel
theorem dX12_setWork_8 : decode cX12_setWork 8 = .ok (.iload_n 1, 1) := by decide +kernel
theorem dX12_setWork_9 : decode cX12_setWork 9 = .ok (.iload_n 3, 1) := by decide +kernel
theorem dX12_setWork_10 : decode cX12_setWork 10 = .ok (.bastore, 1) := by decide +kernel
theorem dX12_setWork_11 : decode cX12_setWork 11 = .ok (.goto 10, 3) := by decide +kernel
theorem dX12_setWork_14 : decode cX12_setWork 14 = .ok (.aload_n 0, 1) := by decide +kernel
theorem dX12_setWork_15 : decode cX12_setWork 15 = .ok (.getfield 103, 3) := by decide +kernel
theorem dX12_setWork_18 : decode cX12_setWork 18 = .ok (.iload_n 1, 1) := by decide +kernel
theorem dX12_setWork_19 : decode cX12_setWork 19 = .ok (.iload_n 3, 1) := by decide +kernel
theorem dX12_setWork_20 : decode cX12_setWork 20 = .ok (.bastore, 1) := by decide +kernel
theorem dX12_setWork_21 : decode cX12_setWork 21 = .ok (.aload_n 0, 1) := by decide +kernel
theorem dX12_setWork_22 : decode cX12_setWork 22 = .ok (.dup, 1) := by decide +kernel
theorem dX12_setWork_23 : decode cX12_setWork 23 = .ok (.getfield 408, 3) := by decide +kernel
theorem dX12_setWork_26 : decode cX12_setWork 26 = .ok (.iload_n 3, 1) := by decide +kernel
theorem dX12_setWork_27 : decode cX12_setWork 27 = .ok (.ifCond .eq 7, 3) := by decide +kernel
theorem dX12_setWork_30 : decode cX12_setWork 30 = .ok (.iconst 1, 1) := by decide +kernel
theorem dX12_setWork_31 : decode cX12_setWork 31 = .ok (.goto 4, 3) := by decide +kernel
theorem dX12_setWork_34 : decode cX12_setWork 34 = .ok (.iconst (-1), 1) := by decide +kernel
theorem dX12_setWork_35 : decode cX12_setWork 35 = .ok (.iadd, 1) := by decide +kernel
theorem dX12_setWork_36 : decode cX12_setWork 36 = .ok (.putfield 408, 3) := by decide +kernel
theorem dX12_setWork_39 : decode cX12_setWork 39 = .ok (.return_, 1) := by decide +kernel
theorem dX12_work_0 : decode cX12_work 0 = .ok (.aload_n 0, 1) := by decide +kernel
theorem dX12_work_1 : decode cX12_work 1 = .ok (.iconst 0, 1) := by decide +kernel
theorem dX12_work_2 : decode cX12_work 2 = .ok (.putfield 208, 3) := by decide +kernel
theorem dX12_work_5 : decode cX12_work 5 = .ok (.aload_n 0, 1) := by decide +kernel
theorem dX12_work_6 : decode cX12_work 6 = .ok (.iload_n 1, 1) := by decide +kernel
theorem dX12_work_7 : decode cX12_work 7 = .ok (.invokevirtual 423, 3) := by decide +kernel
theorem dX12_work_10 : decode cX12_work 10 = .ok (.ifCond .eq 28, 3) := by decide +kernel
theorem dX12_work_13 : decode cX12_work 13 = .ok (.iload_n 3, 1) := by decide +kernel
theorem dX12_work_14 : decode cX12_work 14 = .ok (.ifCond .eq 15, 3) := by decide +kernel
theorem dX12_work_17 : decode cX12_work 17 = .ok (.aload_n 0, 1) := by decide +kernel
theorem dX12_work_18 : decode cX12_work 18 = .ok (.iload_n 1, 1) := by decide +kernel
theorem dX12_work_19 : decode cX12_work 19 = .ok (.iload_n 2, 1) := by decide +kernel
theorem dX12_work_20 : decode cX12_work 20 = .ok (.invokevirtual 430, 3) := by decide +kernel
theorem dX12_work_23 : decode cX12_work 23 = .ok (.ifCond .ne 17, 3) := by decide +kernel
theorem dX12_work_26 : decode cX12_work 26 = .ok (.goto 12, 3) := by decide +kernel
theorem dX12_work_29 : decode cX12_work 29 = .ok (.aload_n 0, 1) := by decide +kernel
theorem dX12_work_30 : decode cX12_work 30 = .ok (.iload_n 1, 1) := by decide +kernel
theorem dX12_work_31 : decode cX12_work 31 = .ok (.iload_n 2, 1) := by decide +kernel
theorem dX12_work_32 : decode cX12_work 32 = .ok (.invokevirtual 426, 3) := by decide +kernel
theorem dX12_work_35 : decode cX12_work 35 = .ok (.ifCond .ne 5, 3) := by decide +kernel
theorem dX12_work_38 : decode cX12_work 38 = .ok (.iconst 0, 1) := by decide +kernel
theorem dX12_work_39 : decode cX12_work 39 = .ok (.ireturn, 1) := by decide +kernel
theorem dX12_work_40 : decode cX12_work 40 = .ok (.aload_n 0, 1) := by decide +kernel
theorem dX12_work_41 : decode cX12_work 41 = .ok (.iload_n 1, 1) := by decide +kernel
theorem dX12_work_42 : decode cX12_work 42 = .ok (.iload_n 2, 1) := by decide +kernel
theorem dX12_work_43 : decode cX12_work 43 = .ok (.iload_n 3, 1) := by decide +kernel
theorem dX12_work_44 : decode cX12_work 44 = .ok (.invokevirtual 433, 3) := by decide +kernel
theorem dX12_work_47 : decode cX12_work 47 = .ok (.iconst 1, 1) := by decide +kernel
theorem dX12_work_48 : decode cX12_work 48 = .ok (.ireturn, 1) := by decide +kernel
theorem dX12_world_0 : decode cX12_world 0 = .ok (.aload_n 0, 1) := by decide +kernel
theorem dX12_world_1 : decode cX12_world 1 = .ok (.iconst 0, 1) := by decide +kernel
theorem dX12_world_2 : decode cX12_world 2 = .ok (.putfield 208, 3) := by decide +kernel
theorem dX12_world_5 : decode cX12_world 5 = .ok (.aload_n 0, 1) := by decide +kernel
theorem dX12_world_6 : decode cX12_world 6 = .ok (.getfield 411, 3) := by decide +kernel
theorem dX12_world_9 : decode cX12_world 9 = .ok (.iconst 3, 1) := by decide +kernel
theorem dX12_world_10 : decode cX12_world 10 = .ok (.if_icmp .eq 50, 3) := by decide +kernel
theorem dX12_world_13 : decode cX12_world 13 = .ok (.iload_n 1, 1) := by decide +kernel
theorem dX12_world_14 : decode cX12_world 14 = .ok (.invokestatic 231, 3) := by decide +kernel
theorem dX12_world_17 : decode cX12_world 17 = .ok (.ifCond .eq 43, 3) := by decide +kernel
theorem dX12_world_20 : decode cX12_world 20 = .ok (.aload_n 0, 1) := by decide +kernel
theorem dX12_world_21 : decode cX12_world 21 = .ok (.iload_n 2, 1) := by decide +kernel
theorem dX12_world_22 : decode cX12_world 22 = .ok (.invokevirtual 423, 3) := by decide +kernel
theorem dX12_world_25 : decode cX12_world 25 = .ok (.ifCond .eq 35, 3) := by decide +kernel
theorem dX12_world_28 : decode cX12_world 28 = .ok (.iload_n 3, 1) := by decide +kernel
theorem dX12_world_29 : decode cX12_world 29 = .ok (.iconst 1, 1) := by decide +kernel
theorem dX12_world_30 : decode cX12_world 30 = .ok (.bipush 99, 2) := by decide +kernel
theorem dX12_world_32 : decode cX12_world 32 = .ok (.invokestatic 214, 3) := by decide +kernel
theorem dX12_world_35 : decode cX12_world 35 = .ok (.ifCond .eq 25, 3) := by decide +kernel
theorem dX12_world_38 : decode cX12_world 38 = .ok (.iload 4, 2) := by decide +kernel
theorem dX12_world_40 : decode cX12_world 40 = .ok (.iconst 1, 1) := by decide +kernel
theorem dX12_world_41 : decode cX12_world 41 = .ok (.bipush 12, 2) := by decide +kernel
theorem dX12_world_43 : decode cX12_world 43 = .ok (.invokestatic 214, 3) := by decide +kernel
theorem dX12_world_46 : decode cX12_world 46 = .ok (.ifCond .eq 14, 3) := by decide +kernel
theorem dX12_world_49 : decode cX12_world 49 = .ok (.iload 5, 2) := by decide +kernel
theorem dX12_world_51 : decode cX12_world 51 = .ok (.iconst 1, 1) := by decide +kernel
theorem dX12_world_52 : decode cX12_world 52 = .ok (.bipush 99, 2) := by decide +kernel
theorem dX12_world_54 : decode cX12_world 54 = .ok (.invokestatic 214, 3) := by decide +kernel
theorem dX12_world_57 : decode cX12_world 57 = .ok (.ifCond .ne 5, 3) := by decide +kernel
theorem dX12_world_60 : decode cX12_world 60 = .ok (.iconst (-1), 1) := by decide +kernel
theorem dX12_world_61 : decode cX12_world 61 = .ok (.ireturn, 1) := by decide +kernel
theorem dX12_world_62 : decode cX12_world 62 = .ok (.aload_n 0, 1) := by decide +kernel
theorem dX12_world_63 : decode cX12_world 63 = .ok (.getfield 109, 3) := by decide +kernel
theorem dX12_world_66 : decode cX12_world 66 = .ok (.aload_n 0, 1) := by decide +kernel
theorem dX12_world_67 : decode cX12_world 67 = .ok (.getfield 411, 3) := by decide +kernel
theorem dX12_world_70 : decode cX12_world 70 = .ok (.iload_n 1, 1) := by decide +kernel
theorem dX12_world_71 : decode cX12_world 71 = .ok (.iastore, 1) := by decide +kernel
theorem dX12_world_72 : decode cX12_world 72 = .ok (.aload_n 0, 1) := by decide +kernel
theorem dX12_world_73 : decode cX12_world 73 = .ok (.getfield 112, 3) := by decide +kernel
theorem dX12_world_76 : decode cX12_world 76 = .ok (.aload_n 0, 1) := by decide +kernel
theorem dX12_world_77 : decode cX12_world 77 = .ok (.getfield 411, 3) := by decide +kernel
theorem dX12_world_80 : decode cX12_world 80 = .ok (.iload_n 2, 1) := by decide +kernel
theorem dX12_world_81 : decode cX12_world 81 = .ok (.iastore, 1) := by decide +kernel
theorem dX12_world_82 : decode cX12_world 82 = .ok (.aload_n 0, 1) := by decide +kernel
theorem dX12_world_83 : decode cX12_world 83 = .ok (.getfield 115, 3) := by decide +kernel
theorem dX12_world_86 : decode cX12_world 86 = .ok (.aload_n 0, 1) := by decide +kernel
theorem dX12_world_87 : decode cX12_world 87 = .ok (.getfield 411, 3) := by decide +kernel
theorem dX12_world_90 : decode cX12_world 90 = .ok (.iload_n 3, 1) := by decide +kernel
theorem dX12_world_91 : decode cX12_world 91 = .ok (.iastore, 1) := by decide +kernel
theorem dX12_world_92 : decode cX12_world 92 = .ok (.aload_n 0, 1) := by decide +kernel
theorem dX12_world_93 : decode cX12_world 93 = .ok (.getfield 118, 3) := by decide +kernel
theorem dX12_world_96 : decode cX12_world 96 = .ok (.aload_n 0, 1) := by decide +kernel
theorem dX12_world_97 : decode cX12_world 97 = .ok (.getfield 411, 3) := by decide +kernel
theorem dX12_world_100 : decode cX12_world 100 = .ok (.iload 4, 2) := by decide +kernel
theorem dX12_world_102 : decode cX12_world 102 = .ok (.iastore, 1) := by decide +kernel
theorem dX12_world_103 : decode cX12_world 103 = .ok (.aload_n 0, 1) := by decide +kernel
theorem dX12_world_104 : decode cX12_world 104 = .ok (.getfield 121, 3) := by decide +kernel
theorem dX12_world_107 : decode cX12_world 107 = .ok (.aload_n 0, 1) := by decide +kernel
theorem dX12_world_108 : decode cX12_world 108 = .ok (.getfield 411, 3) := by decide +kernel
theorem dX12_world_111 : decode cX12_world 111 = .ok (.iload 5, 2) := by decide +kernel
theorem dX12_world_113 : decode cX12_world 113 = .ok (.iastore, 1) := by decide +kernel
theorem dX12_world_114 : decode cX12_world 114 = .ok (.aload_n 0, 1) := by decide +kernel
theorem dX12_world_115 : decode cX12_world 115 = .ok (.dup, 1) := by decide +kernel
theorem dX12_world_116 : decode cX12_world 116 = .ok (.getfield 411, 3) := by decide +kernel
theorem dX12_world_119 : decode cX12_world 119 = .ok (.iconst 1, 1) := by decide +kernel
theorem dX12_world_120 : decode cX12_world 120 = .ok (.iadd, 1) := by decide +kernel
theorem dX12_world_121 : decode cX12_world 121 = .ok (.putfield 411, 3) := by decide +kernel
theorem dX12_world_124 : decode cX12_world 124 = .ok (.aload_n 0, 1) := by decide +kernel
theorem dX12_world_125 : decode cX12_world 125 = .ok (.getfield 411, 3) := by decide +kernel
theorem dX12_world_128 : decode cX12_world 128 = .ok (.iconst 1, 1) := by decide +kernel
theorem dX12_world_129 : decode cX12_world 129 = .ok (.isub, 1) := by decide +kernel
theorem dX12_world_130 : decode cX12_world 130 = .ok (.ireturn, 1) := by decide +kernel
theorem dX12_besideOf_0 : decode cX12_besideOf 0 = .ok (.iload_n 1, 1) := by decide +kernel
theorem dX12_besideOf_1 : decode cX12_besideOf 1 = .ok (.aload_n 0, 1) := by decide +kernel
theorem dX12_besideOf_2 : decode cX12_besideOf 2 = .ok (.getfield 91, 3) := by decide +kernel
theorem dX12_besideOf_5 : decode cX12_besideOf 5 = .ok (.irem, 1) := by decide +kernel
theorem dX12_besideOf_6 : decode cX12_besideOf 6 = .ok (.istore_n 3, 1) := by decide +kernel
theorem dX12_besideOf_7 : decode cX12_besideOf 7 = .ok (.iload_n 2, 1) := by decide +kernel
theorem dX12_besideOf_8 : decode cX12_besideOf 8 = .ok (.ifCond .ne 10, 3) := by decide +kernel
theorem dX12_besideOf_11 : decode cX12_besideOf 11 = .ok (.iload_n 1, 1) := by decide +kernel
theorem dX12_besideOf_12 : decode cX12_besideOf 12 = .ok (.aload_n 0, 1) := by decide +kernel
theorem dX12_besideOf_13 : decode cX12_besideOf 13 = .ok (.getfield 91, 3) := by decide +kernel
theorem dX12_besideOf_16 : decode cX12_besideOf 16 = .ok (.isub, 1) := by decide +kernel
theorem dX12_besideOf_17 : decode cX12_besideOf 17 = .ok (.ireturn, 1) := by decide +kernel
theorem dX12_besideOf_18 : decode cX12_besideOf 18 = .ok (.iload_n 2, 1) := by decide +kernel
theorem dX12_besideOf_19 : decode cX12_besideOf 19 = .ok (.iconst 1, 1) := by decide +kernel
theorem dX12_besideOf_20 : decode cX12_besideOf 20 = .ok (.if_icmp .ne 15, 3) := by decide +kernel
theorem dX12_besideOf_23 : decode cX12_besideOf 23 = .ok (.iload_n 3, 1) := by decide +kernel
theorem dX12_besideOf_24 : decode cX12_besideOf 24 = .ok (.ifCond .le 9, 3) := by decide +kernel
theorem dX12_besideOf_27 : decode cX12_besideOf 27 = .ok (.iload_n 1, 1) := by decide +kernel
theorem dX12_besideOf_28 : decode cX12_besideOf 28 = .ok (.iconst 1, 1) := by decide +kernel
theorem dX12_besideOf_29 : decode cX12_besideOf 29 = .ok (.isub, 1) := by decide +kernel
theorem dX12_besideOf_30 : decode cX12_besideOf 30 = .ok (.goto 4, 3) := by decide +kernel
theorem dX12_besideOf_33 : decode cX12_besideOf 33 = .ok (.iconst (-1), 1) := by decide +kernel
theorem dX12_besideOf_34 : decode cX12_besideOf 34 = .ok (.ireturn, 1) := by decide +kernel
theorem dX12_besideOf_35 : decode cX12_besideOf 35 = .ok (.iload_n 2, 1) := by decide +kernel
theorem dX12_besideOf_36 : decode cX12_besideOf 36 = .ok (.iconst 2, 1) := by decide +kernel
theorem dX12_besideOf_37 : decode cX12_besideOf 37 = .ok (.if_icmp .ne 21, 3) := by decide +kernel
theorem dX12_besideOf_40 : decode cX12_besideOf 40 = .ok (.iload_n 3, 1) := by decide +kernel
theorem dX12_besideOf_41 : decode cX12_besideOf 41 = .ok (.aload_n 0, 1) := by decide +kernel
theorem dX12_besideOf_42 : decode cX12_besideOf 42 = .ok (.getfield 91, 3) := by decide +kernel
theorem dX12_besideOf_45 : decode cX12_besideOf 45 = .ok (.iconst 1, 1) := by decide +kernel
theorem dX12_besideOf_46 : decode cX12_besideOf 46 = .ok (.isub, 1) := by decide +kernel
theorem dX12_besideOf_47 : decode cX12_besideOf 47 = .ok (.if_icmp .ge 9, 3) := by decide +kernel
theorem dX12_besideOf_50 : decode cX12_besideOf 50 = .ok (.iload_n 1, 1) := by decide +kernel
theorem dX12_besideOf_51 : decode cX12_besideOf 51 = .ok (.iconst 1, 1) := by decide +kernel
theorem dX12_besideOf_52 : decode cX12_besideOf 52 = .ok (.iadd, 1) := by decide +kernel
theorem dX12_besideOf_53 : decode cX12_besideOf 53 = .ok (.goto 4, 3) := by decide +kernel
theorem dX12_besideOf_56 : decode cX12_besideOf 56 = .ok (.iconst (-1), 1) := by decide +kernel
theorem dX12_besideOf_57 : decode cX12_besideOf 57 = .ok (.ireturn, 1) := by decide +kernel
theorem dX12_besideOf_58 : decode cX12_besideOf 58 = .ok (.iload_n 1, 1) := by decide +kernel
theorem dX12_besideOf_59 : decode cX12_besideOf 59 = .ok (.aload_n 0, 1) := by decide +kernel
theorem dX12_besideOf_60 : decode cX12_besideOf 60 = .ok (.getfield 91, 3) := by decide +kernel
theorem dX12_besideOf_63 : decode cX12_besideOf 63 = .ok (.iadd, 1) := by decide +kernel
theorem dX12_besideOf_64 : decode cX12_besideOf 64 = .ok (.aload_n 0, 1) := by decide +kernel
theorem dX12_besideOf_65 : decode cX12_besideOf 65 = .ok (.getfield 91, 3) := by decide +kernel
theorem dX12_besideOf_68 : decode cX12_besideOf 68 = .ok (.aload_n 0, 1) := by decide +kernel
theorem dX12_besideOf_69 : decode cX12_besideOf 69 = .ok (.getfield 94, 3) := by decide +kernel
theorem dX12_besideOf_72 : decode cX12_besideOf 72 = .ok (.imul, 1) := by decide +kernel
theorem dX12_besideOf_73 : decode cX12_besideOf 73 = .ok (.if_icmp .ge 12, 3) := by decide +kernel
theorem dX12_besideOf_76 : decode cX12_besideOf 76 = .ok (.iload_n 1, 1) := by decide +kernel
theorem dX12_besideOf_77 : decode cX12_besideOf 77 = .ok (.aload_n 0, 1) := by decide +kernel
theorem dX12_besideOf_78 : decode cX12_besideOf 78 = .ok (.getfield 91, 3) := by decide +kernel
theorem dX12_besideOf_81 : decode cX12_besideOf 81 = .ok (.iadd, 1) := by decide +kernel
theorem dX12_besideOf_82 : decode cX12_besideOf 82 = .ok (.goto 4, 3) := by decide +kernel
theorem dX12_besideOf_85 : decode cX12_besideOf 85 = .ok (.iconst (-1), 1) := by decide +kernel
theorem dX12_besideOf_86 : decode cX12_besideOf 86 = .ok (.ireturn, 1) := by decide +kernel
theorem dX12_lowestBy_0 : decode cX12_lowestBy 0 = .ok (.iconst (-1), 1) := by decide +kernel
theorem dX12_lowestBy_1 : decode cX12_lowestBy 1 = .ok (.istore_n 3, 1) := by decide +kernel
theorem dX12_lowestBy_2 : decode cX12_lowestBy 2 = .ok (.iconst 0, 1) := by decide +kernel
theorem dX12_lowestBy_3 : decode cX12_lowestBy 3 = .ok (.istore 4, 2) := by decide +kernel
theorem dX12_lowestBy_5 : decode cX12_lowestBy 5 = .ok (.iload 4, 2) := by decide +kernel
theorem dX12_lowestBy_7 : decode cX12_lowestBy 7 = .ok (.iconst 4, 1) := by decide +kernel
theorem dX12_lowestBy_8 : decode cX12_lowestBy 8 = .ok (.if_icmp .ge 48, 3) := by decide +kernel
theorem dX12_lowestBy_11 : decode cX12_lowestBy 11 = .ok (.aload_n 0, 1) := by decide +kernel
theorem dX12_lowestBy_12 : decode cX12_lowestBy 12 = .ok (.iload_n 1, 1) := by decide +kernel
theorem dX12_lowestBy_13 : decode cX12_lowestBy 13 = .ok (.iload 4, 2) := by decide +kernel
theorem dX12_lowestBy_15 : decode cX12_lowestBy 15 = .ok (.invokevirtual 437, 3) := by decide +kernel
theorem dX12_lowestBy_18 : decode cX12_lowestBy 18 = .ok (.istore 5, 2) := by decide +kernel
theorem dX12_lowestBy_20 : decode cX12_lowestBy 20 = .ok (.iload 5, 2) := by decide +kernel
theorem dX12_lowestBy_22 : decode cX12_lowestBy 22 = .ok (.ifCond .lt 28, 3) := by decide +kernel
theorem dX12_lowestBy_25 : decode cX12_lowestBy 25 = .ok (.iload_n 3, 1) := by decide +kernel
theorem dX12_lowestBy_26 : decode cX12_lowestBy 26 = .ok (.ifCond .lt 21, 3) := by decide +kernel
theorem dX12_lowestBy_29 : decode cX12_lowestBy 29 = .ok (.aload_n 0, 1) := by decide +kernel
theorem dX12_lowestBy_30 : decode cX12_lowestBy 30 = .ok (.iload_n 2, 1) := by decide +kernel
theorem dX12_lowestBy_31 : decode cX12_lowestBy 31 = .ok (.iload 5, 2) := by decide +kernel
theorem dX12_lowestBy_33 : decode cX12_lowestBy 33 = .ok (.iadd, 1) := by decide +kernel
theorem dX12_lowestBy_34 : decode cX12_lowestBy 34 = .ok (.invokevirtual 440, 3) := by decide +kernel
theorem dX12_lowestBy_37 : decode cX12_lowestBy 37 = .ok (.aload_n 0, 1) := by decide +kernel
theorem dX12_lowestBy_38 : decode cX12_lowestBy 38 = .ok (.iload_n 2, 1) := by decide +kernel
theorem dX12_lowestBy_39 : decode cX12_lowestBy 39 = .ok (.iload_n 3, 1) := by decide +kernel
theorem dX12_lowestBy_40 : decode cX12_lowestBy 40 = .ok (.iadd, 1) := by decide +kernel
theorem dX12_lowestBy_41 : decode cX12_lowestBy 41 = .ok (.invokevirtual 440, 3) := by decide +kernel
theorem dX12_lowestBy_44 : decode cX12_lowestBy 44 = .ok (.if_icmp .ge 6, 3) := by decide +kernel
theorem dX12_lowestBy_47 : decode cX12_lowestBy 47 = .ok (.iload 5, 2) := by decide +kernel
theorem dX12_lowestBy_49 : decode cX12_lowestBy 49 = .ok (.istore_n 3, 1) := by decide +kernel
theorem dX12_lowestBy_50 : decode cX12_lowestBy 50 = .ok (.iinc 4 1, 3) := by decide +kernel
theorem dX12_lowestBy_53 : decode cX12_lowestBy 53 = .ok (.goto (-48), 3) := by decide +kernel
theorem dX12_lowestBy_56 : decode cX12_lowestBy 56 = .ok (.iload_n 3, 1) := by decide +kernel
theorem dX12_lowestBy_57 : decode cX12_lowestBy 57 = .ok (.ireturn, 1) := by decide +kernel
theorem dX12_topOf_0 : decode cX12_topOf 0 = .ok (.aload_n 0, 1) := by decide +kernel
theorem dX12_topOf_1 : decode cX12_topOf 1 = .ok (.getfield 124, 3) := by decide +kernel
theorem dX12_topOf_4 : decode cX12_topOf 4 = .ok (.iload_n 1, 1) := by decide +kernel
theorem dX12_topOf_5 : decode cX12_topOf 5 = .ok (.iaload, 1) := by decide +kernel
theorem dX12_topOf_6 : decode cX12_topOf 6 = .ok (.aload_n 0, 1) := by decide +kernel
theorem dX12_topOf_7 : decode cX12_topOf 7 = .ok (.getfield 127, 3) := by decide +kernel
theorem dX12_topOf_10 : decode cX12_topOf 10 = .ok (.iload_n 1, 1) := by decide +kernel
theorem dX12_topOf_11 : decode cX12_topOf 11 = .ok (.iaload, 1) := by decide +kernel
theorem dX12_topOf_12 : decode cX12_topOf 12 = .ok (.iadd, 1) := by decide +kernel
theorem dX12_topOf_13 : decode cX12_topOf 13 = .ok (.ireturn, 1) := by decide +kernel
theorem dX12_flows_0 : decode cX12_flows 0 = .ok (.aload_n 0, 1) := by decide +kernel
theorem dX12_flows_1 : decode cX12_flows 1 = .ok (.getfield 91, 3) := by decide +kernel
theorem dX12_flows_4 : decode cX12_flows 4 = .ok (.aload_n 0, 1) := by decide +kernel
theorem dX12_flows_5 : decode cX12_flows 5 = .ok (.getfield 94, 3) := by decide +kernel
theorem dX12_flows_8 : decode cX12_flows 8 = .ok (.imul, 1) := by decide +kernel
theorem dX12_flows_9 : decode cX12_flows 9 = .ok (.istore_n 2, 1) := by decide +kernel
theorem dX12_flows_10 : decode cX12_flows 10 = .ok (.iconst 0, 1) := by decide +kernel
theorem dX12_flows_11 : decode cX12_flows 11 = .ok (.istore_n 3, 1) := by decide +kernel
theorem dX12_flows_12 : decode cX12_flows 12 = .ok (.iload_n 3, 1) := by decide +kernel
theorem dX12_flows_13 : decode cX12_flows 13 = .ok (.iload_n 2, 1) := by decide +kernel
theorem dX12_flows_14 : decode cX12_flows 14 = .ok (.if_icmp .ge 68, 3) := by decide +kernel
theorem dX12_flows_17 : decode cX12_flows 17 = .ok (.aload_n 0, 1) := by decide +kernel
theorem dX12_flows_18 : decode cX12_flows 18 = .ok (.getfield 124, 3) := by decide +kernel
theorem dX12_flows_21 : decode cX12_flows 21 = .ok (.iload_n 3, 1) := by decide +kernel
theorem dX12_flows_22 : decode cX12_flows 22 = .ok (.iconst 0, 1) := by decide +kernel
theorem dX12_flows_23 : decode cX12_flows 23 = .ok (.iastore, 1) := by decide +kernel
theorem dX12_flows_24 : decode cX12_flows 24 = .ok (.aload_n 0, 1) := by decide +kernel
theorem dX12_flows_25 : decode cX12_flows 25 = .ok (.getfield 127, 3) := by decide +kernel
theorem dX12_flows_28 : decode cX12_flows 28 = .ok (.iload_n 3, 1) := by decide +kernel
theorem dX12_flows_29 : decode cX12_flows 29 = .ok (.aload_n 0, 1) := by decide +kernel
theorem dX12_flows_30 : decode cX12_flows 30 = .ok (.getfield 97, 3) := by decide +kernel
theorem dX12_flows_33 : decode cX12_flows 33 = .ok (.iload_n 3, 1) := by decide +kernel
theorem dX12_flows_34 : decode cX12_flows 34 = .ok (.iaload, 1) := by decide +kernel
theorem dX12_flows_35 : decode cX12_flows 35 = .ok (.aload_n 0, 1) := by decide +kernel
theorem dX12_flows_36 : decode cX12_flows 36 = .ok (.getfield 103, 3) := by decide +kernel
theorem dX12_flows_39 : decode cX12_flows 39 = .ok (.iload_n 3, 1) := by decide +kernel
theorem dX12_flows_40 : decode cX12_flows 40 = .ok (.baload, 1) := by decide +kernel
theorem dX12_flows_41 : decode cX12_flows 41 = .ok (.ifCond .eq 8, 3) := by decide +kernel
theorem dX12_flows_44 : decode cX12_flows 44 = .ok (.bipush 8, 2) := by decide +kernel
theorem dX12_flows_46 : decode cX12_flows 46 = .ok (.goto 4, 3) := by decide +kernel
theorem dX12_flows_49 : decode cX12_flows 49 = .ok (.iconst 0, 1) := by decide +kernel
theorem dX12_flows_50 : decode cX12_flows 50 = .ok (.iadd, 1) := by decide +kernel
theorem dX12_flows_51 : decode cX12_flows 51 = .ok (.aload_n 0, 1) := by decide +kernel
theorem dX12_flows_52 : decode cX12_flows 52 = .ok (.getfield 106, 3) := by decide +kernel
theorem dX12_flows_55 : decode cX12_flows 55 = .ok (.iload_n 3, 1) := by decide +kernel
theorem dX12_flows_56 : decode cX12_flows 56 = .ok (.baload, 1) := by decide +kernel
theorem dX12_flows_57 : decode cX12_flows 57 = .ok (.ifCond .eq 8, 3) := by decide +kernel
theorem dX12_flows_60 : decode cX12_flows 60 = .ok (.bipush 8, 2) := by decide +kernel
theorem dX12_flows_62 : decode cX12_flows 62 = .ok (.goto 4, 3) := by decide +kernel
theorem dX12_flows_65 : decode cX12_flows 65 = .ok (.iconst 0, 1) := by decide +kernel
theorem dX12_flows_66 : decode cX12_flows 66 = .ok (.isub, 1) := by decide +kernel
theorem dX12_flows_67 : decode cX12_flows 67 = .ok (.iastore, 1) := by decide +kernel
theorem dX12_flows_68 : decode cX12_flows 68 = .ok (.aload_n 0, 1) := by decide +kernel
theorem dX12_flows_69 : decode cX12_flows 69 = .ok (.getfield 130, 3) := by decide +kernel
theorem dX12_flows_72 : decode cX12_flows 72 = .ok (.iload_n 3, 1) := by decide +kernel
theorem dX12_flows_73 : decode cX12_flows 73 = .ok (.bipush 13, 2) := by decide +kernel
theorem dX12_flows_75 : decode cX12_flows 75 = .ok (.iastore, 1) := by decide +kernel
theorem dX12_flows_76 : decode cX12_flows 76 = .ok (.iinc 3 1, 3) := by decide +kernel
theorem dX12_flows_79 : decode cX12_flows 79 = .ok (.goto (-67), 3) := by decide +kernel
theorem dX12_flows_82 : decode cX12_flows 82 = .ok (.iconst 1, 1) := by decide +kernel
theorem dX12_flows_83 : decode cX12_flows 83 = .ok (.istore_n 3, 1) := by decide +kernel
theorem dX12_flows_84 : decode cX12_flows 84 = .ok (.iload_n 3, 1) := by decide +kernel
theorem dX12_flows_85 : decode cX12_flows 85 = .ok (.bipush 12, 2) := by decide +kernel
theorem dX12_flows_87 : decode cX12_flows 87 = .ok (.if_icmp .gt 489, 3) := by decide +kernel
theorem dX12_flows_90 : decode cX12_flows 90 = .ok (.bipush 64, 2) := by decide +kernel
theorem dX12_flows_92 : decode cX12_flows 92 = .ok (.iload_n 3, 1) := by decide +kernel
theorem dX12_flows_93 : decode cX12_flows 93 = .ok (.iconst 1, 1) := by decide +kernel
theorem dX12_flows_94 : decode cX12_flows 94 = .ok (.isub, 1) := by decide +kernel
theorem dX12_flows_95 : decode cX12_flows 95 = .ok (.imul, 1) := by decide +kernel
theorem dX12_flows_96 : decode cX12_flows 96 = .ok (.istore 4, 2) := by decide +kernel
theorem dX12_flows_98 : decode cX12_flows 98 = .ok (.bipush 64, 2) := by decide +kernel
theorem dX12_flows_100 : decode cX12_flows 100 = .ok (.iload_n 3, 1) := by decide +kernel
theorem dX12_flows_101 : decode cX12_flows 101 = .ok (.imul, 1) := by decide +kernel
theorem dX12_flows_102 : decode cX12_flows 102 = .ok (.istore 5, 2) := by decide +kernel
theorem dX12_flows_104 : decode cX12_flows 104 = .ok (.iload_n 3, 1) := by decide +kernel
theorem dX12_flows_105 : decode cX12_flows 105 = .ok (.aload_n 0, 1) := by decide +kernel
theorem dX12_flows_106 : decode cX12_flows 106 = .ok (.getfield 118, 3) := by decide +kernel
theorem dX12_flows_109 : decode cX12_flows 109 = .ok (.iload_n 1, 1) := by decide +kernel
theorem dX12_flows_110 : decode cX12_flows 110 = .ok (.iaload, 1) := by decide +kernel
theorem dX12_flows_111 : decode cX12_flows 111 = .ok (.if_icmp .gt 7, 3) := by decide +kernel
theorem dX12_flows_114 : decode cX12_flows 114 = .ok (.iconst 1, 1) := by decide +kernel
theorem dX12_flows_115 : decode cX12_flows 115 = .ok (.goto 4, 3) := by decide +kernel
theorem dX12_flows_118 : decode cX12_flows 118 = .ok (.iconst 0, 1) := by decide +kernel
theorem dX12_flows_119 : decode cX12_flows 119 = .ok (.istore 6, 2) := by decide +kernel
theorem dX12_flows_121 : decode cX12_flows 121 = .ok (.iload 6, 2) := by decide +kernel
theorem dX12_flows_123 : decode cX12_flows 123 = .ok (.ifCond .eq 26, 3) := by decide +kernel
theorem dX12_flows_126 : decode cX12_flows 126 = .ok (.aload_n 0, 1) := by decide +kernel
theorem dX12_flows_127 : decode cX12_flows 127 = .ok (.getfield 124, 3) := by decide +kernel
theorem dX12_flows_130 : decode cX12_flows 130 = .ok (.iload 4, 2) := by decide +kernel
theorem dX12_flows_132 : decode cX12_flows 132 = .ok (.aload_n 0, 1) := by decide +kernel
theorem dX12_flows_133 : decode cX12_flows 133 = .ok (.getfield 112, 3) := by decide +kernel
theorem dX12_flows_136 : decode cX12_flows 136 = .ok (.iload_n 1, 1) := by decide +kernel
theorem dX12_flows_137 : decode cX12_flows 137 = .ok (.iaload, 1) := by decide +kernel
theorem dX12_flows_138 : decode cX12_flows 138 = .ok (.iadd, 1) := by decide +kernel
theorem dX12_flows_139 : decode cX12_flows 139 = .ok (.dup2, 1) := by decide +kernel
theorem dX12_flows_140 : decode cX12_flows 140 = .ok (.iaload, 1) := by decide +kernel
theorem dX12_flows_141 : decode cX12_flows 141 = .ok (.aload_n 0, 1) := by decide +kernel
theorem dX12_flows_142 : decode cX12_flows 142 = .ok (.getfield 115, 3) := by decide +kernel
theorem dX12_flows_145 : decode cX12_flows 145 = .ok (.iload_n 1, 1) := by decide +kernel
theorem dX12_flows_146 : decode cX12_flows 146 = .ok (.iaload, 1) := by decide +kernel
theorem dX12_flows_147 : decode cX12_flows 147 = .ok (.iadd, 1) := by decide +kernel
theorem dX12_flows_148 : decode cX12_flows 148 = .ok (.iastore, 1) := by decide +kernel
theorem dX12_flows_149 : decode cX12_flows 149 = .ok (.iconst 0, 1) := by decide +kernel
theorem dX12_flows_150 : decode cX12_flows 150 = .ok (.istore 7, 2) := by decide +kernel
theorem dX12_flows_152 : decode cX12_flows 152 = .ok (.iload 7, 2) := by decide +kernel
theorem dX12_flows_154 : decode cX12_flows 154 = .ok (.iload_n 2, 1) := by decide +kernel
theorem dX12_flows_155 : decode cX12_flows 155 = .ok (.if_icmp .ge 118, 3) := by decide +kernel
theorem dX12_flows_158 : decode cX12_flows 158 = .ok (.aload_n 0, 1) := by decide +kernel
theorem dX12_flows_159 : decode cX12_flows 159 = .ok (.getfield 133, 3) := by decide +kernel
theorem dX12_flows_162 : decode cX12_flows 162 = .ok (.iload 7, 2) := by decide +kernel
theorem dX12_flows_164 : decode cX12_flows 164 = .ok (.iconst 0, 1) := by decide +kernel
theorem dX12_flows_165 : decode cX12_flows 165 = .ok (.iastore, 1) := by decide +kernel
theorem dX12_flows_166 : decode cX12_flows 166 = .ok (.aload_n 0, 1) := by decide +kernel
theorem dX12_flows_167 : decode cX12_flows 167 = .ok (.getfield 136, 3) := by decide +kernel
theorem dX12_flows_170 : decode cX12_flows 170 = .ok (.iload 7, 2) := by decide +kernel
theorem dX12_flows_172 : decode cX12_flows 172 = .ok (.iload 6, 2) := by decide +kernel
theorem dX12_flows_174 : decode cX12_flows 174 = .ok (.ifCond .eq 18, 3) := by decide +kernel
theorem dX12_flows_177 : decode cX12_flows 177 = .ok (.iload 7, 2) := by decide +kernel
theorem dX12_flows_179 : decode cX12_flows 179 = .ok (.aload_n 0, 1) := by decide +kernel
theorem dX12_flows_180 : decode cX12_flows 180 = .ok (.getfield 112, 3) := by decide +kernel
theorem dX12_flows_183 : decode cX12_flows 183 = .ok (.iload_n 1, 1) := by decide +kernel
theorem dX12_flows_184 : decode cX12_flows 184 = .ok (.iaload, 1) := by decide +kernel
theorem dX12_flows_185 : decode cX12_flows 185 = .ok (.if_icmp .ne 7, 3) := by decide +kernel
theorem dX12_flows_188 : decode cX12_flows 188 = .ok (.iconst 1, 1) := by decide +kernel
theorem dX12_flows_189 : decode cX12_flows 189 = .ok (.goto 4, 3) := by decide +kernel
theorem dX12_flows_192 : decode cX12_flows 192 = .ok (.iconst 0, 1) := by decide +kernel
theorem dX12_flows_193 : decode cX12_flows 193 = .ok (.iastore, 1) := by decide +kernel
theorem dX12_flows_194 : decode cX12_flows 194 = .ok (.aload_n 0, 1) := by decide +kernel
theorem dX12_flows_195 : decode cX12_flows 195 = .ok (.getfield 124, 3) := by decide +kernel
theorem dX12_flows_198 : decode cX12_flows 198 = .ok (.iload 5, 2) := by decide +kernel
theorem dX12_flows_200 : decode cX12_flows 200 = .ok (.iload 7, 2) := by decide +kernel
theorem dX12_flows_202 : decode cX12_flows 202 = .ok (.iadd, 1) := by decide +kernel
theorem dX12_flows_203 : decode cX12_flows 203 = .ok (.aload_n 0, 1) := by decide +kernel
theorem dX12_flows_204 : decode cX12_flows 204 = .ok (.getfield 124, 3) := by decide +kernel
theorem dX12_flows_207 : decode cX12_flows 207 = .ok (.iload 4, 2) := by decide +kernel
theorem dX12_flows_209 : decode cX12_flows 209 = .ok (.iload 7, 2) := by decide +kernel
theorem dX12_flows_211 : decode cX12_flows 211 = .ok (.iadd, 1) := by decide +kernel
theorem dX12_flows_212 : decode cX12_flows 212 = .ok (.iaload, 1) := by decide +kernel
theorem dX12_flows_213 : decode cX12_flows 213 = .ok (.iastore, 1) := by decide +kernel
theorem dX12_flows_214 : decode cX12_flows 214 = .ok (.aload_n 0, 1) := by decide +kernel
theorem dX12_flows_215 : decode cX12_flows 215 = .ok (.getfield 127, 3) := by decide +kernel
theorem dX12_flows_218 : decode cX12_flows 218 = .ok (.iload 5, 2) := by decide +kernel
theorem dX12_flows_220 : decode cX12_flows 220 = .ok (.iload 7, 2) := by decide +kernel
theorem dX12_flows_222 : decode cX12_flows 222 = .ok (.iadd, 1) := by decide +kernel
theorem dX12_flows_223 : decode cX12_flows 223 = .ok (.aload_n 0, 1) := by decide +kernel
theorem dX12_flows_224 : decode cX12_flows 224 = .ok (.getfield 127, 3) := by decide +kernel
theorem dX12_flows_227 : decode cX12_flows 227 = .ok (.iload 4, 2) := by decide +kernel
theorem dX12_flows_229 : decode cX12_flows 229 = .ok (.iload 7, 2) := by decide +kernel
theorem dX12_flows_231 : decode cX12_flows 231 = .ok (.iadd, 1) := by decide +kernel
theorem dX12_flows_232 : decode cX12_flows 232 = .ok (.iaload, 1) := by decide +kernel
theorem dX12_flows_233 : decode cX12_flows 233 = .ok (.iastore, 1) := by decide +kernel
theorem dX12_flows_234 : decode cX12_flows 234 = .ok (.aload_n 0, 1) := by decide +kernel
theorem dX12_flows_235 : decode cX12_flows 235 = .ok (.getfield 124, 3) := by decide +kernel
theorem dX12_flows_238 : decode cX12_flows 238 = .ok (.iload 4, 2) := by decide +kernel
theorem dX12_flows_240 : decode cX12_flows 240 = .ok (.iload 7, 2) := by decide +kernel
theorem dX12_flows_242 : decode cX12_flows 242 = .ok (.iadd, 1) := by decide +kernel
theorem dX12_flows_243 : decode cX12_flows 243 = .ok (.iaload, 1) := by decide +kernel
theorem dX12_flows_244 : decode cX12_flows 244 = .ok (.ifCond .le 23, 3) := by decide +kernel
theorem dX12_flows_247 : decode cX12_flows 247 = .ok (.aload_n 0, 1) := by decide +kernel
theorem dX12_flows_248 : decode cX12_flows 248 = .ok (.getfield 130, 3) := by decide +kernel
theorem dX12_flows_251 : decode cX12_flows 251 = .ok (.iload 7, 2) := by decide +kernel
theorem dX12_flows_253 : decode cX12_flows 253 = .ok (.iaload, 1) := by decide +kernel
theorem dX12_flows_254 : decode cX12_flows 254 = .ok (.bipush 13, 2) := by decide +kernel
theorem dX12_flows_256 : decode cX12_flows 256 = .ok (.if_icmp .ne 11, 3) := by decide +kernel
theorem dX12_flows_259 : decode cX12_flows 259 = .ok (.aload_n 0, 1) := by decide +kernel
theorem dX12_flows_260 : decode cX12_flows 260 = .ok (.getfield 130, 3) := by decide +kernel
theorem dX12_flows_263 : decode cX12_flows 263 = .ok (.iload 7, 2) := by decide +kernel
theorem dX12_flows_265 : decode cX12_flows 265 = .ok (.iload_n 3, 1) := by decide +kernel
theorem dX12_flows_266 : decode cX12_flows 266 = .ok (.iastore, 1) := by decide +kernel
theorem dX12_flows_267 : decode cX12_flows 267 = .ok (.iinc 7 1, 3) := by decide +kernel
theorem dX12_flows_270 : decode cX12_flows 270 = .ok (.goto (-118), 3) := by decide +kernel
theorem dX12_flows_273 : decode cX12_flows 273 = .ok (.iconst 0, 1) := by decide +kernel
theorem dX12_flows_274 : decode cX12_flows 274 = .ok (.istore 7, 2) := by decide +kernel
theorem dX12_flows_276 : decode cX12_flows 276 = .ok (.iload 7, 2) := by decide +kernel
theorem dX12_flows_278 : decode cX12_flows 278 = .ok (.iload_n 2, 1) := by decide +kernel
theorem dX12_flows_279 : decode cX12_flows 279 = .ok (.if_icmp .ge 151, 3) := by decide +kernel
theorem dX12_flows_282 : decode cX12_flows 282 = .ok (.aload_n 0, 1) := by decide +kernel
theorem dX12_flows_283 : decode cX12_flows 283 = .ok (.getfield 124, 3) := by decide +kernel
theorem dX12_flows_286 : decode cX12_flows 286 = .ok (.iload 4, 2) := by decide +kernel
theorem dX12_flows_288 : decode cX12_flows 288 = .ok (.iload 7, 2) := by decide +kernel
theorem dX12_flows_290 : decode cX12_flows 290 = .ok (.iadd, 1) := by decide +kernel
theorem dX12_flows_291 : decode cX12_flows 291 = .ok (.iaload, 1) := by decide +kernel
theorem dX12_flows_292 : decode cX12_flows 292 = .ok (.ifCond .ne 6, 3) := by decide +kernel
theorem dX12_flows_295 : decode cX12_flows 295 = .ok (.goto 129, 3) := by decide +kernel
theorem dX12_flows_298 : decode cX12_flows 298 = .ok (.aload_n 0, 1) := by decide +kernel
theorem dX12_flows_299 : decode cX12_flows 299 = .ok (.iload 7, 2) := by decide +kernel
theorem dX12_flows_301 : decode cX12_flows 301 = .ok (.iload 4, 2) := by decide +kernel
theorem dX12_flows_303 : decode cX12_flows 303 = .ok (.invokevirtual 443, 3) := by decide +kernel
theorem dX12_flows_306 : decode cX12_flows 306 = .ok (.istore 8, 2) := by decide +kernel
theorem dX12_flows_308 : decode cX12_flows 308 = .ok (.aload_n 0, 1) := by decide +kernel
theorem dX12_flows_309 : decode cX12_flows 309 = .ok (.iload 4, 2) := by decide +kernel
theorem dX12_flows_311 : decode cX12_flows 311 = .ok (.iload 7, 2) := by decide +kernel
theorem dX12_flows_313 : decode cX12_flows 313 = .ok (.iadd, 1) := by decide +kernel
theorem dX12_flows_314 : decode cX12_flows 314 = .ok (.invokevirtual 440, 3) := by decide +kernel
theorem dX12_flows_317 : decode cX12_flows 317 = .ok (.aload_n 0, 1) := by decide +kernel
theorem dX12_flows_318 : decode cX12_flows 318 = .ok (.iload 4, 2) := by decide +kernel
theorem dX12_flows_320 : decode cX12_flows 320 = .ok (.iload 8, 2) := by decide +kernel
theorem dX12_flows_322 : decode cX12_flows 322 = .ok (.iadd, 1) := by decide +kernel
theorem dX12_flows_323 : decode cX12_flows 323 = .ok (.invokevirtual 440, 3) := by decide +kernel
theorem dX12_flows_326 : decode cX12_flows 326 = .ok (.isub, 1) := by decide +kernel
theorem dX12_flows_327 : decode cX12_flows 327 = .ok (.istore 9, 2) := by decide +kernel
theorem dX12_flows_329 : decode cX12_flows 329 = .ok (.iload 9, 2) := by decide +kernel
theorem dX12_flows_331 : decode cX12_flows 331 = .ok (.iconst 2, 1) := by decide +kernel
theorem dX12_flows_332 : decode cX12_flows 332 = .ok (.if_icmp .ge 6, 3) := by decide +kernel
theorem dX12_flows_335 : decode cX12_flows 335 = .ok (.goto 89, 3) := by decide +kernel
theorem dX12_flows_338 : decode cX12_flows 338 = .ok (.iload 9, 2) := by decide +kernel
theorem dX12_flows_340 : decode cX12_flows 340 = .ok (.iconst 2, 1) := by decide +kernel
theorem dX12_flows_341 : decode cX12_flows 341 = .ok (.idiv, 1) := by decide +kernel
theorem dX12_flows_342 : decode cX12_flows 342 = .ok (.aload_n 0, 1) := by decide +kernel
theorem dX12_flows_343 : decode cX12_flows 343 = .ok (.getfield 124, 3) := by decide +kernel
theorem dX12_flows_346 : decode cX12_flows 346 = .ok (.iload 4, 2) := by decide +kernel
theorem dX12_flows_348 : decode cX12_flows 348 = .ok (.iload 7, 2) := by decide +kernel
theorem dX12_flows_350 : decode cX12_flows 350 = .ok (.iadd, 1) := by decide +kernel
theorem dX12_flows_351 : decode cX12_flows 351 = .ok (.iaload, 1) := by decide +kernel
theorem dX12_flows_352 : decode cX12_flows 352 = .ok (.if_icmp .ge 10, 3) := by decide +kernel
theorem dX12_flows_355 : decode cX12_flows 355 = .ok (.iload 9, 2) := by decide +kernel
theorem dX12_flows_357 : decode cX12_flows 357 = .ok (.iconst 2, 1) := by decide +kernel
theorem dX12_flows_358 : decode cX12_flows 358 = .ok (.idiv, 1) := by decide +kernel
theorem dX12_flows_359 : decode cX12_flows 359 = .ok (.goto 13, 3) := by decide +kernel
theorem dX12_flows_362 : decode cX12_flows 362 = .ok (.aload_n 0, 1) := by decide +kernel
theorem dX12_flows_363 : decode cX12_flows 363 = .ok (.getfield 124, 3) := by decide +kernel
theorem dX12_flows_366 : decode cX12_flows 366 = .ok (.iload 4, 2) := by decide +kernel
theorem dX12_flows_368 : decode cX12_flows 368 = .ok (.iload 7, 2) := by decide +kernel
theorem dX12_flows_370 : decode cX12_flows 370 = .ok (.iadd, 1) := by decide +kernel
theorem dX12_flows_371 : decode cX12_flows 371 = .ok (.iaload, 1) := by decide +kernel
theorem dX12_flows_372 : decode cX12_flows 372 = .ok (.istore 10, 2) := by decide +kernel
theorem dX12_flows_374 : decode cX12_flows 374 = .ok (.aload_n 0, 1) := by decide +kernel
theorem dX12_flows_375 : decode cX12_flows 375 = .ok (.getfield 133, 3) := by decide +kernel
theorem dX12_flows_378 : decode cX12_flows 378 = .ok (.iload 7, 2) := by decide +kernel
theorem dX12_flows_380 : decode cX12_flows 380 = .ok (.iload 10, 2) := by decide +kernel
theorem dX12_flows_382 : decode cX12_flows 382 = .ok (.iastore, 1) := by decide +kernel
theorem dX12_flows_383 : decode cX12_flows 383 = .ok (.aload_n 0, 1) := by decide +kernel
theorem dX12_flows_384 : decode cX12_flows 384 = .ok (.getfield 136, 3) := by decide +kernel
theorem dX12_flows_387 : decode cX12_flows 387 = .ok (.iload 8, 2) := by decide +kernel
theorem dX12_flows_389 : decode cX12_flows 389 = .ok (.dup2, 1) := by decide +kernel
theorem dX12_flows_390 : decode cX12_flows 390 = .ok (.iaload, 1) := by decide +kernel
theorem dX12_flows_391 : decode cX12_flows 391 = .ok (.iconst 1, 1) := by decide +kernel
theorem dX12_flows_392 : decode cX12_flows 392 = .ok (.iadd, 1) := by decide +kernel
theorem dX12_flows_393 : decode cX12_flows 393 = .ok (.iastore, 1) := by decide +kernel
theorem dX12_flows_394 : decode cX12_flows 394 = .ok (.aload_n 0, 1) := by decide +kernel
theorem dX12_flows_395 : decode cX12_flows 395 = .ok (.getfield 124, 3) := by decide +kernel
theorem dX12_flows_398 : decode cX12_flows 398 = .ok (.iload 5, 2) := by decide +kernel
theorem dX12_flows_400 : decode cX12_flows 400 = .ok (.iload 7, 2) := by decide +kernel
theorem dX12_flows_402 : decode cX12_flows 402 = .ok (.iadd, 1) := by decide +kernel
theorem dX12_flows_403 : decode cX12_flows 403 = .ok (.dup2, 1) := by decide +kernel
theorem dX12_flows_404 : decode cX12_flows 404 = .ok (.iaload, 1) := by decide +kernel
theorem dX12_flows_405 : decode cX12_flows 405 = .ok (.iload 10, 2) := by decide +kernel
theorem dX12_flows_407 : decode cX12_flows 407 = .ok (.isub, 1) := by decide +kernel
theorem dX12_flows_408 : decode cX12_flows 408 = .ok (.iastore, 1) := by decide +kernel
theorem dX12_flows_409 : decode cX12_flows 409 = .ok (.aload_n 0, 1) := by decide +kernel
theorem dX12_flows_410 : decode cX12_flows 410 = .ok (.getfield 124, 3) := by decide +kernel
theorem dX12_flows_413 : decode cX12_flows 413 = .ok (.iload 5, 2) := by decide +kernel
theorem dX12_flows_415 : decode cX12_flows 415 = .ok (.iload 8, 2) := by decide +kernel
theorem dX12_flows_417 : decode cX12_flows 417 = .ok (.iadd, 1) := by decide +kernel
theorem dX12_flows_418 : decode cX12_flows 418 = .ok (.dup2, 1) := by decide +kernel
theorem dX12_flows_419 : decode cX12_flows 419 = .ok (.iaload, 1) := by decide +kernel
theorem dX12_flows_420 : decode cX12_flows 420 = .ok (.iload 10, 2) := by decide +kernel
theorem dX12_flows_422 : decode cX12_flows 422 = .ok (.iadd, 1) := by decide +kernel
theorem dX12_flows_423 : decode cX12_flows 423 = .ok (.iastore, 1) := by decide +kernel
theorem dX12_flows_424 : decode cX12_flows 424 = .ok (.iinc 7 1, 3) := by decide +kernel
theorem dX12_flows_427 : decode cX12_flows 427 = .ok (.goto (-151), 3) := by decide +kernel
theorem dX12_flows_430 : decode cX12_flows 430 = .ok (.iload 6, 2) := by decide +kernel
theorem dX12_flows_432 : decode cX12_flows 432 = .ok (.ifCond .eq 26, 3) := by decide +kernel
theorem dX12_flows_435 : decode cX12_flows 435 = .ok (.aload_n 0, 1) := by decide +kernel
theorem dX12_flows_436 : decode cX12_flows 436 = .ok (.getfield 124, 3) := by decide +kernel
theorem dX12_flows_439 : decode cX12_flows 439 = .ok (.iload 4, 2) := by decide +kernel
theorem dX12_flows_441 : decode cX12_flows 441 = .ok (.aload_n 0, 1) := by decide +kernel
theorem dX12_flows_442 : decode cX12_flows 442 = .ok (.getfield 112, 3) := by decide +kernel
theorem dX12_flows_445 : decode cX12_flows 445 = .ok (.iload_n 1, 1) := by decide +kernel
theorem dX12_flows_446 : decode cX12_flows 446 = .ok (.iaload, 1) := by decide +kernel
theorem dX12_flows_447 : decode cX12_flows 447 = .ok (.iadd, 1) := by decide +kernel
theorem dX12_flows_448 : decode cX12_flows 448 = .ok (.dup2, 1) := by decide +kernel
theorem dX12_flows_449 : decode cX12_flows 449 = .ok (.iaload, 1) := by decide +kernel
theorem dX12_flows_450 : decode cX12_flows 450 = .ok (.aload_n 0, 1) := by decide +kernel
theorem dX12_flows_451 : decode cX12_flows 451 = .ok (.getfield 115, 3) := by decide +kernel
theorem dX12_flows_454 : decode cX12_flows 454 = .ok (.iload_n 1, 1) := by decide +kernel
theorem dX12_flows_455 : decode cX12_flows 455 = .ok (.iaload, 1) := by decide +kernel
theorem dX12_flows_456 : decode cX12_flows 456 = .ok (.isub, 1) := by decide +kernel
theorem dX12_flows_457 : decode cX12_flows 457 = .ok (.iastore, 1) := by decide +kernel
theorem dX12_flows_458 : decode cX12_flows 458 = .ok (.iconst 0, 1) := by decide +kernel
theorem dX12_flows_459 : decode cX12_flows 459 = .ok (.istore 7, 2) := by decide +kernel
theorem dX12_flows_461 : decode cX12_flows 461 = .ok (.iload 7, 2) := by decide +kernel
theorem dX12_flows_463 : decode cX12_flows 463 = .ok (.iload_n 2, 1) := by decide +kernel
theorem dX12_flows_464 : decode cX12_flows 464 = .ok (.if_icmp .ge 106, 3) := by decide +kernel
theorem dX12_flows_467 : decode cX12_flows 467 = .ok (.aload_n 0, 1) := by decide +kernel
theorem dX12_flows_468 : decode cX12_flows 468 = .ok (.getfield 124, 3) := by decide +kernel
theorem dX12_flows_471 : decode cX12_flows 471 = .ok (.iload 5, 2) := by decide +kernel
theorem dX12_flows_473 : decode cX12_flows 473 = .ok (.iload 7, 2) := by decide +kernel
theorem dX12_flows_475 : decode cX12_flows 475 = .ok (.iadd, 1) := by decide +kernel
theorem dX12_flows_476 : decode cX12_flows 476 = .ok (.iaload, 1) := by decide +kernel
theorem dX12_flows_477 : decode cX12_flows 477 = .ok (.ifCond .le 23, 3) := by decide +kernel
theorem dX12_flows_480 : decode cX12_flows 480 = .ok (.aload_n 0, 1) := by decide +kernel
theorem dX12_flows_481 : decode cX12_flows 481 = .ok (.getfield 130, 3) := by decide +kernel
theorem dX12_flows_484 : decode cX12_flows 484 = .ok (.iload 7, 2) := by decide +kernel
theorem dX12_flows_486 : decode cX12_flows 486 = .ok (.iaload, 1) := by decide +kernel
theorem dX12_flows_487 : decode cX12_flows 487 = .ok (.bipush 13, 2) := by decide +kernel
theorem dX12_flows_489 : decode cX12_flows 489 = .ok (.if_icmp .ne 11, 3) := by decide +kernel
theorem dX12_flows_492 : decode cX12_flows 492 = .ok (.aload_n 0, 1) := by decide +kernel
theorem dX12_flows_493 : decode cX12_flows 493 = .ok (.getfield 130, 3) := by decide +kernel
theorem dX12_flows_496 : decode cX12_flows 496 = .ok (.iload 7, 2) := by decide +kernel
theorem dX12_flows_498 : decode cX12_flows 498 = .ok (.iload_n 3, 1) := by decide +kernel
theorem dX12_flows_499 : decode cX12_flows 499 = .ok (.iastore, 1) := by decide +kernel
theorem dX12_flows_500 : decode cX12_flows 500 = .ok (.aload_n 0, 1) := by decide +kernel
theorem dX12_flows_501 : decode cX12_flows 501 = .ok (.getfield 124, 3) := by decide +kernel
theorem dX12_flows_504 : decode cX12_flows 504 = .ok (.iload 5, 2) := by decide +kernel
theorem dX12_flows_506 : decode cX12_flows 506 = .ok (.iload 7, 2) := by decide +kernel
theorem dX12_flows_508 : decode cX12_flows 508 = .ok (.iadd, 1) := by decide +kernel
theorem dX12_flows_509 : decode cX12_flows 509 = .ok (.iaload, 1) := by decide +kernel
theorem dX12_flows_510 : decode cX12_flows 510 = .ok (.ifCond .eq 54, 3) := by decide +kernel
theorem dX12_flows_513 : decode cX12_flows 513 = .ok (.aload_n 0, 1) := by decide +kernel
theorem dX12_flows_514 : decode cX12_flows 514 = .ok (.getfield 133, 3) := by decide +kernel
theorem dX12_flows_517 : decode cX12_flows 517 = .ok (.iload 7, 2) := by decide +kernel
theorem dX12_flows_519 : decode cX12_flows 519 = .ok (.iaload, 1) := by decide +kernel
theorem dX12_flows_520 : decode cX12_flows 520 = .ok (.ifCond .gt 44, 3) := by decide +kernel
theorem dX12_flows_523 : decode cX12_flows 523 = .ok (.aload_n 0, 1) := by decide +kernel
theorem dX12_flows_524 : decode cX12_flows 524 = .ok (.getfield 136, 3) := by decide +kernel
theorem dX12_flows_527 : decode cX12_flows 527 = .ok (.iload 7, 2) := by decide +kernel
theorem dX12_flows_529 : decode cX12_flows 529 = .ok (.iaload, 1) := by decide +kernel
theorem dX12_flows_530 : decode cX12_flows 530 = .ok (.ifCond .le 6, 3) := by decide +kernel
theorem dX12_flows_533 : decode cX12_flows 533 = .ok (.goto 31, 3) := by decide +kernel
theorem dX12_flows_536 : decode cX12_flows 536 = .ok (.aload_n 0, 1) := by decide +kernel
theorem dX12_flows_537 : decode cX12_flows 537 = .ok (.getfield 124, 3) := by decide +kernel
theorem dX12_flows_540 : decode cX12_flows 540 = .ok (.iload 5, 2) := by decide +kernel
theorem dX12_flows_542 : decode cX12_flows 542 = .ok (.iload 7, 2) := by decide +kernel
theorem dX12_flows_544 : decode cX12_flows 544 = .ok (.iadd, 1) := by decide +kernel
theorem dX12_flows_545 : decode cX12_flows 545 = .ok (.dup2, 1) := by decide +kernel
theorem dX12_flows_546 : decode cX12_flows 546 = .ok (.iaload, 1) := by decide +kernel
theorem dX12_flows_547 : decode cX12_flows 547 = .ok (.iconst 1, 1) := by decide +kernel
theorem dX12_flows_548 : decode cX12_flows 548 = .ok (.isub, 1) := by decide +kernel
theorem dX12_flows_549 : decode cX12_flows 549 = .ok (.iastore, 1) := by decide +kernel
theorem dX12_flows_550 : decode cX12_flows 550 = .ok (.aload_n 0, 1) := by decide +kernel
theorem dX12_flows_551 : decode cX12_flows 551 = .ok (.getfield 127, 3) := by decide +kernel
theorem dX12_flows_554 : decode cX12_flows 554 = .ok (.iload 5, 2) := by decide +kernel
theorem dX12_flows_556 : decode cX12_flows 556 = .ok (.iload 7, 2) := by decide +kernel
theorem dX12_flows_558 : decode cX12_flows 558 = .ok (.iadd, 1) := by decide +kernel
theorem dX12_flows_559 : decode cX12_flows 559 = .ok (.dup2, 1) := by decide +kernel
theorem dX12_flows_560 : decode cX12_flows 560 = .ok (.iaload, 1) := by decide +kernel
theorem dX12_flows_561 : decode cX12_flows 561 = .ok (.iconst 1, 1) := by decide +kernel
theorem dX12_flows_562 : decode cX12_flows 562 = .ok (.iadd, 1) := by decide +kernel
theorem dX12_flows_563 : decode cX12_flows 563 = .ok (.iastore, 1) := by decide +kernel
theorem dX12_flows_564 : decode cX12_flows 564 = .ok (.iinc 7 1, 3) := by decide +kernel
theorem dX12_flows_567 : decode cX12_flows 567 = .ok (.goto (-106), 3) := by decide +kernel
theorem dX12_flows_570 : decode cX12_flows 570 = .ok (.iinc 3 1, 3) := by decide +kernel
theorem dX12_flows_573 : decode cX12_flows 573 = .ok (.goto (-489), 3) := by decide +kernel
theorem dX12_flows_576 : decode cX12_flows 576 = .ok (.return_, 1) := by decide +kernel
theorem dX12_isWorld_0 : decode cX12_isWorld 0 = .ok (.iload_n 1, 1) := by decide +kernel
theorem dX12_isWorld_1 : decode cX12_isWorld 1 = .ok (.ifCond .lt 15, 3) := by decide +kernel
theorem dX12_isWorld_4 : decode cX12_isWorld 4 = .ok (.iload_n 1, 1) := by decide +kernel
theorem dX12_isWorld_5 : decode cX12_isWorld 5 = .ok (.aload_n 0, 1) := by decide +kernel
theorem dX12_isWorld_6 : decode cX12_isWorld 6 = .ok (.getfield 411, 3) := by decide +kernel
theorem dX12_isWorld_9 : decode cX12_isWorld 9 = .ok (.if_icmp .ge 7, 3) := by decide +kernel
theorem dX12_isWorld_12 : decode cX12_isWorld 12 = .ok (.iconst 1, 1) := by decide +kernel
theorem dX12_isWorld_13 : decode cX12_isWorld 13 = .ok (.goto 4, 3) := by decide +kernel
theorem dX12_isWorld_16 : decode cX12_isWorld 16 = .ok (.iconst 0, 1) := by decide +kernel
theorem dX12_isWorld_17 : decode cX12_isWorld 17 = .ok (.ireturn, 1) := by decide +kernel
theorem dX12_lava_0 : decode cX12_lava 0 = .ok (.aload_n 0, 1) := by decide +kernel
theorem dX12_lava_1 : decode cX12_lava 1 = .ok (.iconst 0, 1) := by decide +kernel
theorem dX12_lava_2 : decode cX12_lava 2 = .ok (.putfield 208, 3) := by decide +kernel
theorem dX12_lava_5 : decode cX12_lava 5 = .ok (.aload_n 0, 1) := by decide +kernel
theorem dX12_lava_6 : decode cX12_lava 6 = .ok (.iload_n 1, 1) := by decide +kernel
theorem dX12_lava_7 : decode cX12_lava 7 = .ok (.invokevirtual 446, 3) := by decide +kernel
theorem dX12_lava_10 : decode cX12_lava 10 = .ok (.ifCond .eq 31, 3) := by decide +kernel
theorem dX12_lava_13 : decode cX12_lava 13 = .ok (.iload_n 2, 1) := by decide +kernel
theorem dX12_lava_14 : decode cX12_lava 14 = .ok (.iconst 0, 1) := by decide +kernel
theorem dX12_lava_15 : decode cX12_lava 15 = .ok (.bipush 12, 2) := by decide +kernel
theorem dX12_lava_17 : decode cX12_lava 17 = .ok (.invokestatic 214, 3) := by decide +kernel
theorem dX12_lava_20 : decode cX12_lava 20 = .ok (.ifCond .eq 21, 3) := by decide +kernel
theorem dX12_lava_23 : decode cX12_lava 23 = .ok (.aload_n 0, 1) := by decide +kernel
theorem dX12_lava_24 : decode cX12_lava 24 = .ok (.iload_n 3, 1) := by decide +kernel
theorem dX12_lava_25 : decode cX12_lava 25 = .ok (.invokevirtual 423, 3) := by decide +kernel
theorem dX12_lava_28 : decode cX12_lava 28 = .ok (.ifCond .eq 13, 3) := by decide +kernel
theorem dX12_lava_31 : decode cX12_lava 31 = .ok (.iload 4, 2) := by decide +kernel
theorem dX12_lava_33 : decode cX12_lava 33 = .ok (.iconst 0, 1) := by decide +kernel
theorem dX12_lava_34 : decode cX12_lava 34 = .ok (.iconst 1, 1) := by decide +kernel
theorem dX12_lava_35 : decode cX12_lava 35 = .ok (.invokestatic 214, 3) := by decide +kernel
theorem dX12_lava_38 : decode cX12_lava 38 = .ok (.ifCond .ne 7, 3) := by decide +kernel
theorem dX12_lava_41 : decode cX12_lava 41 = .ok (.sipush (-1000), 3) := by decide +kernel
theorem dX12_lava_44 : decode cX12_lava 44 = .ok (.ireturn, 1) := by decide +kernel
theorem dX12_lava_45 : decode cX12_lava 45 = .ok (.aload_n 0, 1) := by decide +kernel
theorem dX12_lava_46 : decode cX12_lava 46 = .ok (.iload_n 1, 1) := by decide +kernel
theorem dX12_lava_47 : decode cX12_lava 47 = .ok (.invokevirtual 449, 3) := by decide +kernel
theorem dX12_lava_50 : decode cX12_lava 50 = .ok (.iload 4, 2) := by decide +kernel
theorem dX12_lava_52 : decode cX12_lava 52 = .ok (.ifCond .ne 17, 3) := by decide +kernel
theorem dX12_lava_55 : decode cX12_lava 55 = .ok (.aload_n 0, 1) := by decide +kernel
theorem dX12_lava_56 : decode cX12_lava 56 = .ok (.getfield 124, 3) := by decide +kernel
theorem dX12_lava_59 : decode cX12_lava 59 = .ok (.bipush 64, 2) := by decide +kernel
theorem dX12_lava_61 : decode cX12_lava 61 = .ok (.iload_n 2, 1) := by decide +kernel
theorem dX12_lava_62 : decode cX12_lava 62 = .ok (.imul, 1) := by decide +kernel
theorem dX12_lava_63 : decode cX12_lava 63 = .ok (.iload_n 3, 1) := by decide +kernel
theorem dX12_lava_64 : decode cX12_lava 64 = .ok (.iadd, 1) := by decide +kernel
theorem dX12_lava_65 : decode cX12_lava 65 = .ok (.iaload, 1) := by decide +kernel
theorem dX12_lava_66 : decode cX12_lava 66 = .ok (.goto 14, 3) := by decide +kernel
theorem dX12_lava_69 : decode cX12_lava 69 = .ok (.aload_n 0, 1) := by decide +kernel
theorem dX12_lava_70 : decode cX12_lava 70 = .ok (.getfield 127, 3) := by decide +kernel
theorem dX12_lava_73 : decode cX12_lava 73 = .ok (.bipush 64, 2) := by decide +kernel
theorem dX12_lava_75 : decode cX12_lava 75 = .ok (.iload_n 2, 1) := by decide +kernel
theorem dX12_lava_76 : decode cX12_lava 76 = .ok (.imul, 1) := by decide +kernel
theorem dX12_lava_77 : decode cX12_lava 77 = .ok (.iload_n 3, 1) := by decide +kernel
theorem dX12_lava_78 : decode cX12_lava 78 = .ok (.iadd, 1) := by decide +kernel
theorem dX12_lava_79 : decode cX12_lava 79 = .ok (.iaload, 1) := by decide +kernel
theorem dX12_lava_80 : decode cX12_lava 80 = .ok (.ireturn, 1) := by decide +kernel
theorem dX12_reached_0 : decode cX12_reached 0 = .ok (.aload_n 0, 1) := by decide +kernel
theorem dX12_reached_1 : decode cX12_reached 1 = .ok (.iconst 0, 1) := by decide +kernel
theorem dX12_reached_2 : decode cX12_reached 2 = .ok (.putfield 208, 3) := by decide +kernel
theorem dX12_reached_5 : decode cX12_reached 5 = .ok (.aload_n 0, 1) := by decide +kernel
theorem dX12_reached_6 : decode cX12_reached 6 = .ok (.iload_n 1, 1) := by decide +kernel
theorem dX12_reached_7 : decode cX12_reached 7 = .ok (.invokevirtual 446, 3) := by decide +kernel
theorem dX12_reached_10 : decode cX12_reached 10 = .ok (.ifCond .eq 11, 3) := by decide +kernel
theorem dX12_reached_13 : decode cX12_reached 13 = .ok (.aload_n 0, 1) := by decide +kernel
theorem dX12_reached_14 : decode cX12_reached 14 = .ok (.iload_n 2, 1) := by decide +kernel
theorem dX12_reached_15 : decode cX12_reached 15 = .ok (.invokevirtual 423, 3) := by decide +kernel
theorem dX12_reached_18 : decode cX12_reached 18 = .ok (.ifCond .ne 5, 3) := by decide +kernel
theorem dX12_reached_21 : decode cX12_reached 21 = .ok (.iconst (-1), 1) := by decide +kernel
theorem dX12_reached_22 : decode cX12_reached 22 = .ok (.ireturn, 1) := by decide +kernel
theorem dX12_reached_23 : decode cX12_reached 23 = .ok (.aload_n 0, 1) := by decide +kernel
theorem dX12_reached_24 : decode cX12_reached 24 = .ok (.iload_n 1, 1) := by decide +kernel
theorem dX12_reached_25 : decode cX12_reached 25 = .ok (.invokevirtual 449, 3) := by decide +kernel
theorem dX12_reached_28 : decode cX12_reached 28 = .ok (.aload_n 0, 1) := by decide +kernel
theorem dX12_reached_29 : decode cX12_reached 29 = .ok (.getfield 130, 3) := by decide +kernel
theorem dX12_reached_32 : decode cX12_reached 32 = .ok (.iload_n 2, 1) := by decide +kernel
theorem dX12_reached_33 : decode cX12_reached 33 = .ok (.iaload, 1) := by decide +kernel
theorem dX12_reached_34 : decode cX12_reached 34 = .ok (.ireturn, 1) := by decide +kernel
theorem dX12_town_0 : decode cX12_town 0 = .ok (.aload_n 0, 1) := by decide +kernel
theorem dX12_town_1 : decode cX12_town 1 = .ok (.iconst 0, 1) := by decide +kernel
theorem dX12_town_2 : decode cX12_town 2 = .ok (.putfield 208, 3) := by decide +kernel
theorem dX12_town_5 : decode cX12_town 5 = .ok (.aload_n 0, 1) := by decide +kernel
theorem dX12_town_6 : decode cX12_town 6 = .ok (.getfield 414, 3) := by decide +kernel
theorem dX12_town_9 : decode cX12_town 9 = .ok (.bipush 8, 2) := by decide +kernel
theorem dX12_town_11 : decode cX12_town 11 = .ok (.if_icmp .eq 41, 3) := by decide +kernel
theorem dX12_town_14 : decode cX12_town 14 = .ok (.aload_n 0, 1) := by decide +kernel
theorem dX12_town_15 : decode cX12_town 15 = .ok (.iload_n 1, 1) := by decide +kernel
theorem dX12_town_16 : decode cX12_town 16 = .ok (.invokevirtual 423, 3) := by decide +kernel
theorem dX12_town_19 : decode cX12_town 19 = .ok (.ifCond .eq 33, 3) := by decide +kernel
theorem dX12_town_22 : decode cX12_town 22 = .ok (.iload_n 2, 1) := by decide +kernel
theorem dX12_town_23 : decode cX12_town 23 = .ok (.iconst 1, 1) := by decide +kernel
theorem dX12_town_24 : decode cX12_town 24 = .ok (.sipush 999, 3) := by decide +kernel
theorem dX12_town_27 : decode cX12_town 27 = .ok (.invokestatic 214, 3) := by decide +kernel
theorem dX12_town_30 : decode cX12_town 30 = .ok (.ifCond .eq 22, 3) := by decide +kernel
theorem dX12_town_33 : decode cX12_town 33 = .ok (.iload_n 3, 1) := by decide +kernel
theorem dX12_town_34 : decode cX12_town 34 = .ok (.iconst 1, 1) := by decide +kernel
theorem dX12_town_35 : decode cX12_town 35 = .ok (.iconst 4, 1) := by decide +kernel
theorem dX12_town_36 : decode cX12_town 36 = .ok (.invokestatic 214, 3) := by decide +kernel
theorem dX12_town_39 : decode cX12_town 39 = .ok (.ifCond .eq 13, 3) := by decide +kernel
theorem dX12_town_42 : decode cX12_town 42 = .ok (.iload 4, 2) := by decide +kernel
theorem dX12_town_44 : decode cX12_town 44 = .ok (.iconst 0, 1) := by decide +kernel
theorem dX12_town_45 : decode cX12_town 45 = .ok (.iconst 5, 1) := by decide +kernel
theorem dX12_town_46 : decode cX12_town 46 = .ok (.invokestatic 214, 3) := by decide +kernel
theorem dX12_town_49 : decode cX12_town 49 = .ok (.ifCond .ne 5, 3) := by decide +kernel
theorem dX12_town_52 : decode cX12_town 52 = .ok (.iconst (-1), 1) := by decide +kernel
theorem dX12_town_53 : decode cX12_town 53 = .ok (.ireturn, 1) := by decide +kernel
theorem dX12_town_54 : decode cX12_town 54 = .ok (.aload_n 0, 1) := by decide +kernel
theorem dX12_town_55 : decode cX12_town 55 = .ok (.getfield 139, 3) := by decide +kernel
theorem dX12_town_58 : decode cX12_town 58 = .ok (.aload_n 0, 1) := by decide +kernel
theorem dX12_town_59 : decode cX12_town 59 = .ok (.getfield 414, 3) := by decide +kernel
theorem dX12_town_62 : decode cX12_town 62 = .ok (.iconst 1, 1) := by decide +kernel
theorem dX12_town_63 : decode cX12_town 63 = .ok (.bastore, 1) := by decide +kernel
theorem dX12_town_64 : decode cX12_town 64 = .ok (.aload_n 0, 1) := by decide +kernel
theorem dX12_town_65 : decode cX12_town 65 = .ok (.getfield 142, 3) := by decide +kernel
theorem dX12_town_68 : decode cX12_town 68 = .ok (.aload_n 0, 1) := by decide +kernel
theorem dX12_town_69 : decode cX12_town 69 = .ok (.getfield 414, 3) := by decide +kernel
theorem dX12_town_72 : decode cX12_town 72 = .ok (.iload_n 1, 1) := by decide +kernel
theorem dX12_town_73 : decode cX12_town 73 = .ok (.iastore, 1) := by decide +kernel
theorem dX12_town_74 : decode cX12_town 74 = .ok (.aload_n 0, 1) := by decide +kernel
theorem dX12_town_75 : decode cX12_town 75 = .ok (.getfield 145, 3) := by decide +kernel
theorem dX12_town_78 : decode cX12_town 78 = .ok (.aload_n 0, 1) := by decide +kernel
theorem dX12_town_79 : decode cX12_town 79 = .ok (.getfield 414, 3) := by decide +kernel
theorem dX12_town_82 : decode cX12_town 82 = .ok (.iload_n 2, 1) := by decide +kernel
theorem dX12_town_83 : decode cX12_town 83 = .ok (.iastore, 1) := by decide +kernel
theorem dX12_town_84 : decode cX12_town 84 = .ok (.aload_n 0, 1) := by decide +kernel
theorem dX12_town_85 : decode cX12_town 85 = .ok (.getfield 148, 3) := by decide +kernel
theorem dX12_town_88 : decode cX12_town 88 = .ok (.aload_n 0, 1) := by decide +kernel
theorem dX12_town_89 : decode cX12_town 89 = .ok (.getfield 414, 3) := by decide +kernel
theorem dX12_town_92 : decode cX12_town 92 = .ok (.iload_n 3, 1) := by decide +kernel
theorem dX12_town_93 : decode cX12_town 93 = .ok (.iastore, 1) := by decide +kernel
theorem dX12_town_94 : decode cX12_town 94 = .ok (.aload_n 0, 1) := by decide +kernel
theorem dX12_town_95 : decode cX12_town 95 = .ok (.getfield 151, 3) := by decide +kernel
theorem dX12_town_98 : decode cX12_town 98 = .ok (.aload_n 0, 1) := by decide +kernel
theorem dX12_town_99 : decode cX12_town 99 = .ok (.getfield 414, 3) := by decide +kernel
theorem dX12_town_102 : decode cX12_town 102 = .ok (.iload 4, 2) := by decide +kernel
theorem dX12_town_104 : decode cX12_town 104 = .ok (.iastore, 1) := by decide +kernel
theorem dX12_town_105 : decode cX12_town 105 = .ok (.aload_n 0, 1) := by decide +kernel
theorem dX12_town_106 : decode cX12_town 106 = .ok (.dup, 1) := by decide +kernel
theorem dX12_town_107 : decode cX12_town 107 = .ok (.getfield 414, 3) := by decide +kernel
theorem dX12_town_110 : decode cX12_town 110 = .ok (.iconst 1, 1) := by decide +kernel
theorem dX12_town_111 : decode cX12_town 111 = .ok (.iadd, 1) := by decide +kernel
theorem dX12_town_112 : decode cX12_town 112 = .ok (.putfield 414, 3) := by decide +kernel
theorem dX12_town_115 : decode cX12_town 115 = .ok (.aload_n 0, 1) := by decide +kernel
theorem dX12_town_116 : decode cX12_town 116 = .ok (.getfield 414, 3) := by decide +kernel
theorem dX12_town_119 : decode cX12_town 119 = .ok (.iconst 1, 1) := by decide +kernel
theorem dX12_town_120 : decode cX12_town 120 = .ok (.isub, 1) := by decide +kernel
theorem dX12_town_121 : decode cX12_town 121 = .ok (.ireturn, 1) := by decide +kernel
theorem dX12_shelter_0 : decode cX12_shelter 0 = .ok (.aload_n 0, 1) := by decide +kernel
theorem dX12_shelter_1 : decode cX12_shelter 1 = .ok (.iconst 0, 1) := by decide +kernel
theorem dX12_shelter_2 : decode cX12_shelter 2 = .ok (.putfield 208, 3) := by decide +kernel
theorem dX12_shelter_5 : decode cX12_shelter 5 = .ok (.aload_n 0, 1) := by decide +kernel
theorem dX12_shelter_6 : decode cX12_shelter 6 = .ok (.getfield 414, 3) := by decide +kernel
theorem dX12_shelter_9 : decode cX12_shelter 9 = .ok (.bipush 8, 2) := by decide +kernel
theorem dX12_shelter_11 : decode cX12_shelter 11 = .ok (.if_icmp .eq 14, 3) := by decide +kernel
theorem dX12_shelter_14 : decode cX12_shelter 14 = .ok (.iload_n 1, 1) := by decide +kernel
theorem dX12_shelter_15 : decode cX12_shelter 15 = .ok (.iconst 0, 1) := by decide +kernel
theorem dX12_shelter_16 : decode cX12_shelter 16 = .ok (.sipush 9999, 3) := by decide +kernel
theorem dX12_shelter_19 : decode cX12_shelter 19 = .ok (.invokestatic 214, 3) := by decide +kernel
theorem dX12_shelter_22 : decode cX12_shelter 22 = .ok (.ifCond .ne 5, 3) := by decide +kernel
theorem dX12_shelter_25 : decode cX12_shelter 25 = .ok (.iconst (-1), 1) := by decide +kernel
theorem dX12_shelter_26 : decode cX12_shelter 26 = .ok (.ireturn, 1) := by decide +kernel
theorem dX12_shelter_27 : decode cX12_shelter 27 = .ok (.aload_n 0, 1) := by decide +kernel
theorem dX12_shelter_28 : decode cX12_shelter 28 = .ok (.getfield 139, 3) := by decide +kernel
theorem dX12_shelter_31 : decode cX12_shelter 31 = .ok (.aload_n 0, 1) := by decide +kernel
theorem dX12_shelter_32 : decode cX12_shelter 32 = .ok (.getfield 414, 3) := by decide +kernel
theorem dX12_shelter_35 : decode cX12_shelter 35 = .ok (.iconst 0, 1) := by decide +kernel
theorem dX12_shelter_36 : decode cX12_shelter 36 = .ok (.bastore, 1) := by decide +kernel
theorem dX12_shelter_37 : decode cX12_shelter 37 = .ok (.aload_n 0, 1) := by decide +kernel
theorem dX12_shelter_38 : decode cX12_shelter 38 = .ok (.getfield 154, 3) := by decide +kernel
theorem dX12_shelter_41 : decode cX12_shelter 41 = .ok (.aload_n 0, 1) := by decide +kernel
theorem dX12_shelter_42 : decode cX12_shelter 42 = .ok (.getfield 414, 3) := by decide +kernel
theorem dX12_shelter_45 : decode cX12_shelter 45 = .ok (.iload_n 1, 1) := by decide +kernel
theorem dX12_shelter_46 : decode cX12_shelter 46 = .ok (.iastore, 1) := by decide +kernel
theorem dX12_shelter_47 : decode cX12_shelter 47 = .ok (.aload_n 0, 1) := by decide +kernel
theorem dX12_shelter_48 : decode cX12_shelter 48 = .ok (.dup, 1) := by decide +kernel
theorem dX12_shelter_49 : decode cX12_shelter 49 = .ok (.getfield 414, 3) := by decide +kernel
theorem dX12_shelter_52 : decode cX12_shelter 52 = .ok (.iconst 1, 1) := by decide +kernel
theorem dX12_shelter_53 : decode cX12_shelter 53 = .ok (.iadd, 1) := by decide +kernel
theorem dX12_shelter_54 : decode cX12_shelter 54 = .ok (.putfield 414, 3) := by decide +kernel
theorem dX12_shelter_57 : decode cX12_shelter 57 = .ok (.aload_n 0, 1) := by decide +kernel
theorem dX12_shelter_58 : decode cX12_shelter 58 = .ok (.getfield 414, 3) := by decide +kernel
theorem dX12_shelter_61 : decode cX12_shelter 61 = .ok (.iconst 1, 1) := by decide +kernel
theorem dX12_shelter_62 : decode cX12_shelter 62 = .ok (.isub, 1) := by decide +kernel
theorem dX12_shelter_63 : decode cX12_shelter 63 = .ok (.ireturn, 1) := by decide +kernel
theorem dX12_isPlace_0 : decode cX12_isPlace 0 = .ok (.iload_n 1, 1) := by decide +kernel
theorem dX12_isPlace_1 : decode cX12_isPlace 1 = .ok (.ifCond .lt 15, 3) := by decide +kernel
theorem dX12_isPlace_4 : decode cX12_isPlace 4 = .ok (.iload_n 1, 1) := by decide +kernel
theorem dX12_isPlace_5 : decode cX12_isPlace 5 = .ok (.aload_n 0, 1) := by decide +kernel
theorem dX12_isPlace_6 : decode cX12_isPlace 6 = .ok (.getfield 414, 3) := by decide +kernel
theorem dX12_isPlace_9 : decode cX12_isPlace 9 = .ok (.if_icmp .ge 7, 3) := by decide +kernel
theorem dX12_isPlace_12 : decode cX12_isPlace 12 = .ok (.iconst 1, 1) := by decide +kernel
theorem dX12_isPlace_13 : decode cX12_isPlace 13 = .ok (.goto 4, 3) := by decide +kernel
theorem dX12_isPlace_16 : decode cX12_isPlace 16 = .ok (.iconst 0, 1) := by decide +kernel
theorem dX12_isPlace_17 : decode cX12_isPlace 17 = .ok (.ireturn, 1) := by decide +kernel
theorem dX12_road_0 : decode cX12_road 0 = .ok (.aload_n 0, 1) := by decide +kernel
theorem dX12_road_1 : decode cX12_road 1 = .ok (.iconst 0, 1) := by decide +kernel
theorem dX12_road_2 : decode cX12_road 2 = .ok (.putfield 208, 3) := by decide +kernel
theorem dX12_road_5 : decode cX12_road 5 = .ok (.aload_n 0, 1) := by decide +kernel
theorem dX12_road_6 : decode cX12_road 6 = .ok (.getfield 417, 3) := by decide +kernel
theorem dX12_road_9 : decode cX12_road 9 = .ok (.bipush 14, 2) := by decide +kernel
theorem dX12_road_11 : decode cX12_road 11 = .ok (.if_icmp .eq 71, 3) := by decide +kernel
theorem dX12_road_14 : decode cX12_road 14 = .ok (.aload_n 0, 1) := by decide +kernel
theorem dX12_road_15 : decode cX12_road 15 = .ok (.iload_n 1, 1) := by decide +kernel
theorem dX12_road_16 : decode cX12_road 16 = .ok (.invokevirtual 452, 3) := by decide +kernel
theorem dX12_road_19 : decode cX12_road 19 = .ok (.ifCond .eq 63, 3) := by decide +kernel
theorem dX12_road_22 : decode cX12_road 22 = .ok (.aload_n 0, 1) := by decide +kernel
theorem dX12_road_23 : decode cX12_road 23 = .ok (.iload_n 2, 1) := by decide +kernel
theorem dX12_road_24 : decode cX12_road 24 = .ok (.invokevirtual 452, 3) := by decide +kernel
theorem dX12_road_27 : decode cX12_road 27 = .ok (.ifCond .eq 55, 3) := by decide +kernel
theorem dX12_road_30 : decode cX12_road 30 = .ok (.iload_n 1, 1) := by decide +kernel
theorem dX12_road_31 : decode cX12_road 31 = .ok (.iload_n 2, 1) := by decide +kernel
theorem dX12_road_32 : decode cX12_road 32 = .ok (.if_icmp .eq 50, 3) := by decide +kernel
theorem dX12_road_35 : decode cX12_road 35 = .ok (.iload_n 3, 1) := by decide +kernel
theorem dX12_road_36 : decode cX12_road 36 = .ok (.iconst 1, 1) := by decide +kernel
theorem dX12_road_37 : decode cX12_road 37 = .ok (.iconst 5, 1) := by decide +kernel
theorem dX12_road_38 : decode cX12_road 38 = .ok (.invokestatic 214, 3) := by decide +kernel
theorem dX12_road_41 : decode cX12_road 41 = .ok (.ifCond .eq 41, 3) := by decide +kernel
theorem dX12_road_44 : decode cX12_road 44 = .ok (.iload 4, 2) := by decide +kernel
theorem dX12_road_46 : decode cX12_road 46 = .ok (.iconst 1, 1) := by decide +kernel
theorem dX12_road_47 : decode cX12_road 47 = .ok (.sipush 999, 3) := by decide +kernel
theorem dX12_road_50 : decode cX12_road 50 = .ok (.invokestatic 214, 3) := by decide +kernel
theorem dX12_road_53 : decode cX12_road 53 = .ok (.ifCond .eq 29, 3) := by decide +kernel
theorem dX12_road_56 : decode cX12_road 56 = .ok (.iload 5, 2) := by decide +kernel
theorem dX12_road_58 : decode cX12_road 58 = .ok (.iconst 1, 1) := by decide +kernel
theorem dX12_road_59 : decode cX12_road 59 = .ok (.bipush 6, 2) := by decide +kernel
theorem dX12_road_61 : decode cX12_road 61 = .ok (.invokestatic 214, 3) := by decide +kernel
theorem dX12_road_64 : decode cX12_road 64 = .ok (.ifCond .eq 18, 3) := by decide +kernel
theorem dX12_road_67 : decode cX12_road 67 = .ok (.iload 6, 2) := by decide +kernel
theorem dX12_road_69 : decode cX12_road 69 = .ok (.iconst (-1), 1) := by decide +kernel
theorem dX12_road_70 : decode cX12_road 70 = .ok (.if_icmp .eq 14, 3) := by decide +kernel
theorem dX12_road_73 : decode cX12_road 73 = .ok (.aload_n 0, 1) := by decide +kernel
theorem dX12_road_74 : decode cX12_road 74 = .ok (.iload 6, 2) := by decide +kernel
theorem dX12_road_76 : decode cX12_road 76 = .ok (.invokevirtual 423, 3) := by decide +kernel
theorem dX12_road_79 : decode cX12_road 79 = .ok (.ifCond .ne 5, 3) := by decide +kernel
theorem dX12_road_82 : decode cX12_road 82 = .ok (.iconst (-1), 1) := by decide +kernel
theorem dX12_road_83 : decode cX12_road 83 = .ok (.ireturn, 1) := by decide +kernel
theorem dX12_road_84 : decode cX12_road 84 = .ok (.aload_n 0, 1) := by decide +kernel
theorem dX12_road_85 : decode cX12_road 85 = .ok (.getfield 157, 3) := by decide +kernel
theorem dX12_road_88 : decode cX12_road 88 = .ok (.aload_n 0, 1) := by decide +kernel
theorem dX12_road_89 : decode cX12_road 89 = .ok (.getfield 417, 3) := by decide +kernel
theorem dX12_road_92 : decode cX12_road 92 = .ok (.iload_n 1, 1) := by decide +kernel
theorem dX12_road_93 : decode cX12_road 93 = .ok (.iastore, 1) := by decide +kernel
theorem dX12_road_94 : decode cX12_road 94 = .ok (.aload_n 0, 1) := by decide +kernel
theorem dX12_road_95 : decode cX12_road 95 = .ok (.getfield 160, 3) := by decide +kernel
theorem dX12_road_98 : decode cX12_road 98 = .ok (.aload_n 0, 1) := by decide +kernel
theorem dX12_road_99 : decode cX12_road 99 = .ok (.getfield 417, 3) := by decide +kernel
theorem dX12_road_102 : decode cX12_road 102 = .ok (.iload_n 2, 1) := by decide +kernel
theorem dX12_road_103 : decode cX12_road 103 = .ok (.iastore, 1) := by decide +kernel
theorem dX12_road_104 : decode cX12_road 104 = .ok (.aload_n 0, 1) := by decide +kernel
theorem dX12_road_105 : decode cX12_road 105 = .ok (.getfield 163, 3) := by decide +kernel
theorem dX12_road_108 : decode cX12_road 108 = .ok (.aload_n 0, 1) := by decide +kernel
theorem dX12_road_109 : decode cX12_road 109 = .ok (.getfield 417, 3) := by decide +kernel
theorem dX12_road_112 : decode cX12_road 112 = .ok (.iload_n 3, 1) := by decide +kernel
theorem dX12_road_113 : decode cX12_road 113 = .ok (.iastore, 1) := by decide +kernel
theorem dX12_road_114 : decode cX12_road 114 = .ok (.aload_n 0, 1) := by decide +kernel
theorem dX12_road_115 : decode cX12_road 115 = .ok (.getfield 166, 3) := by decide +kernel
theorem dX12_road_118 : decode cX12_road 118 = .ok (.aload_n 0, 1) := by decide +kernel
theorem dX12_road_119 : decode cX12_road 119 = .ok (.getfield 417, 3) := by decide +kernel
theorem dX12_road_122 : decode cX12_road 122 = .ok (.iload 4, 2) := by decide +kernel
theorem dX12_road_124 : decode cX12_road 124 = .ok (.iastore, 1) := by decide +kernel
theorem dX12_road_125 : decode cX12_road 125 = .ok (.aload_n 0, 1) := by decide +kernel
theorem dX12_road_126 : decode cX12_road 126 = .ok (.getfield 169, 3) := by decide +kernel
theorem dX12_road_129 : decode cX12_road 129 = .ok (.aload_n 0, 1) := by decide +kernel
theorem dX12_road_130 : decode cX12_road 130 = .ok (.getfield 417, 3) := by decide +kernel
theorem dX12_road_133 : decode cX12_road 133 = .ok (.iload 5, 2) := by decide +kernel
theorem dX12_road_135 : decode cX12_road 135 = .ok (.iastore, 1) := by decide +kernel
theorem dX12_road_136 : decode cX12_road 136 = .ok (.aload_n 0, 1) := by decide +kernel
theorem dX12_road_137 : decode cX12_road 137 = .ok (.getfield 172, 3) := by decide +kernel
theorem dX12_road_140 : decode cX12_road 140 = .ok (.aload_n 0, 1) := by decide +kernel
theorem dX12_road_141 : decode cX12_road 141 = .ok (.getfield 417, 3) := by decide +kernel
theorem dX12_road_144 : decode cX12_road 144 = .ok (.iload 6, 2) := by decide +kernel
theorem dX12_road_146 : decode cX12_road 146 = .ok (.iastore, 1) := by decide +kernel
theorem dX12_road_147 : decode cX12_road 147 = .ok (.aload_n 0, 1) := by decide +kernel
theorem dX12_road_148 : decode cX12_road 148 = .ok (.dup, 1) := by decide +kernel
theorem dX12_road_149 : decode cX12_road 149 = .ok (.getfield 417, 3) := by decide +kernel
theorem dX12_road_152 : decode cX12_road 152 = .ok (.iconst 1, 1) := by decide +kernel
theorem dX12_road_153 : decode cX12_road 153 = .ok (.iadd, 1) := by decide +kernel
theorem dX12_road_154 : decode cX12_road 154 = .ok (.putfield 417, 3) := by decide +kernel
theorem dX12_road_157 : decode cX12_road 157 = .ok (.aload_n 0, 1) := by decide +kernel
theorem dX12_road_158 : decode cX12_road 158 = .ok (.getfield 417, 3) := by decide +kernel
theorem dX12_road_161 : decode cX12_road 161 = .ok (.iconst 1, 1) := by decide +kernel
theorem dX12_road_162 : decode cX12_road 162 = .ok (.isub, 1) := by decide +kernel
theorem dX12_road_163 : decode cX12_road 163 = .ok (.ireturn, 1) := by decide +kernel
theorem dX12_allLevels_0 : decode cX12_allLevels 0 = .ok (.iconst 0, 1) := by decide +kernel
theorem dX12_allLevels_1 : decode cX12_allLevels 1 = .ok (.istore_n 1, 1) := by decide +kernel
theorem dX12_allLevels_2 : decode cX12_allLevels 2 = .ok (.iload_n 1, 1) := by decide +kernel
theorem dX12_allLevels_3 : decode cX12_allLevels 3 = .ok (.bipush 100, 2) := by decide +kernel
theorem dX12_allLevels_5 : decode cX12_allLevels 5 = .ok (.if_icmp .ge 21, 3) := by decide +kernel
theorem dX12_allLevels_8 : decode cX12_allLevels 8 = .ok (.aload_n 0, 1) := by decide +kernel
theorem dX12_allLevels_9 : decode cX12_allLevels 9 = .ok (.getfield 178, 3) := by decide +kernel
theorem dX12_allLevels_12 : decode cX12_allLevels 12 = .ok (.iload_n 1, 1) := by decide +kernel
theorem dX12_allLevels_13 : decode cX12_allLevels 13 = .ok (.aload_n 0, 1) := by decide +kernel
theorem dX12_allLevels_14 : decode cX12_allLevels 14 = .ok (.iload_n 1, 1) := by decide +kernel
theorem dX12_allLevels_15 : decode cX12_allLevels 15 = .ok (.iload_n 1, 1) := by decide +kernel
theorem dX12_allLevels_16 : decode cX12_allLevels 16 = .ok (.invokevirtual 402, 3) := by decide +kernel
theorem dX12_allLevels_19 : decode cX12_allLevels 19 = .ok (.iastore, 1) := by decide +kernel
theorem dX12_allLevels_20 : decode cX12_allLevels 20 = .ok (.iinc 1 1, 3) := by decide +kernel
theorem dX12_allLevels_23 : decode cX12_allLevels 23 = .ok (.goto (-21), 3) := by decide +kernel
theorem dX12_allLevels_26 : decode cX12_allLevels 26 = .ok (.iconst 0, 1) := by decide +kernel
theorem dX12_allLevels_27 : decode cX12_allLevels 27 = .ok (.istore_n 1, 1) := by decide +kernel
theorem dX12_allLevels_28 : decode cX12_allLevels 28 = .ok (.iload_n 1, 1) := by decide +kernel
theorem dX12_allLevels_29 : decode cX12_allLevels 29 = .ok (.bipush 100, 2) := by decide +kernel
theorem dX12_allLevels_31 : decode cX12_allLevels 31 = .ok (.if_icmp .ge 83, 3) := by decide +kernel
theorem dX12_allLevels_34 : decode cX12_allLevels 34 = .ok (.aload_n 0, 1) := by decide +kernel
theorem dX12_allLevels_35 : decode cX12_allLevels 35 = .ok (.getfield 175, 3) := by decide +kernel
theorem dX12_allLevels_38 : decode cX12_allLevels 38 = .ok (.iload_n 1, 1) := by decide +kernel
theorem dX12_allLevels_39 : decode cX12_allLevels 39 = .ok (.iconst 0, 1) := by decide +kernel
theorem dX12_allLevels_40 : decode cX12_allLevels 40 = .ok (.iastore, 1) := by decide +kernel
theorem dX12_allLevels_41 : decode cX12_allLevels 41 = .ok (.iload_n 1, 1) := by decide +kernel
theorem dX12_allLevels_42 : decode cX12_allLevels 42 = .ok (.aload_n 0, 1) := by decide +kernel
theorem dX12_allLevels_43 : decode cX12_allLevels 43 = .ok (.getfield 369, 3) := by decide +kernel
theorem dX12_allLevels_46 : decode cX12_allLevels 46 = .ok (.isub, 1) := by decide +kernel
theorem dX12_allLevels_47 : decode cX12_allLevels 47 = .ok (.ifCond .ge 7, 3) := by decide +kernel
theorem dX12_allLevels_50 : decode cX12_allLevels 50 = .ok (.iconst 0, 1) := by decide +kernel
theorem dX12_allLevels_51 : decode cX12_allLevels 51 = .ok (.goto 9, 3) := by decide +kernel
theorem dX12_allLevels_54 : decode cX12_allLevels 54 = .ok (.iload_n 1, 1) := by decide +kernel
theorem dX12_allLevels_55 : decode cX12_allLevels 55 = .ok (.aload_n 0, 1) := by decide +kernel
theorem dX12_allLevels_56 : decode cX12_allLevels 56 = .ok (.getfield 369, 3) := by decide +kernel
theorem dX12_allLevels_59 : decode cX12_allLevels 59 = .ok (.isub, 1) := by decide +kernel
theorem dX12_allLevels_60 : decode cX12_allLevels 60 = .ok (.istore_n 2, 1) := by decide +kernel
theorem dX12_allLevels_61 : decode cX12_allLevels 61 = .ok (.iload_n 2, 1) := by decide +kernel
theorem dX12_allLevels_62 : decode cX12_allLevels 62 = .ok (.iload_n 1, 1) := by decide +kernel
theorem dX12_allLevels_63 : decode cX12_allLevels 63 = .ok (.if_icmp .gt 45, 3) := by decide +kernel
theorem dX12_allLevels_66 : decode cX12_allLevels 66 = .ok (.aload_n 0, 1) := by decide +kernel
theorem dX12_allLevels_67 : decode cX12_allLevels 67 = .ok (.getfield 175, 3) := by decide +kernel
theorem dX12_allLevels_70 : decode cX12_allLevels 70 = .ok (.iload_n 1, 1) := by decide +kernel
theorem dX12_allLevels_71 : decode cX12_allLevels 71 = .ok (.aload_n 0, 1) := by decide +kernel
theorem dX12_allLevels_72 : decode cX12_allLevels 72 = .ok (.getfield 178, 3) := by decide +kernel
theorem dX12_allLevels_75 : decode cX12_allLevels 75 = .ok (.iload_n 2, 1) := by decide +kernel
theorem dX12_allLevels_76 : decode cX12_allLevels 76 = .ok (.iaload, 1) := by decide +kernel
theorem dX12_allLevels_77 : decode cX12_allLevels 77 = .ok (.aload_n 0, 1) := by decide +kernel
theorem dX12_allLevels_78 : decode cX12_allLevels 78 = .ok (.getfield 175, 3) := by decide +kernel
theorem dX12_allLevels_81 : decode cX12_allLevels 81 = .ok (.iload_n 1, 1) := by decide +kernel
theorem dX12_allLevels_82 : decode cX12_allLevels 82 = .ok (.iaload, 1) := by decide +kernel
theorem dX12_allLevels_83 : decode cX12_allLevels 83 = .ok (.if_icmp .le 12, 3) := by decide +kernel
theorem dX12_allLevels_86 : decode cX12_allLevels 86 = .ok (.aload_n 0, 1) := by decide +kernel
theorem dX12_allLevels_87 : decode cX12_allLevels 87 = .ok (.getfield 178, 3) := by decide +kernel
theorem dX12_allLevels_90 : decode cX12_allLevels 90 = .ok (.iload_n 2, 1) := by decide +kernel
theorem dX12_allLevels_91 : decode cX12_allLevels 91 = .ok (.iaload, 1) := by decide +kernel
theorem dX12_allLevels_92 : decode cX12_allLevels 92 = .ok (.goto 9, 3) := by decide +kernel
theorem dX12_allLevels_95 : decode cX12_allLevels 95 = .ok (.aload_n 0, 1) := by decide +kernel
theorem dX12_allLevels_96 : decode cX12_allLevels 96 = .ok (.getfield 175, 3) := by decide +kernel
theorem dX12_allLevels_99 : decode cX12_allLevels 99 = .ok (.iload_n 1, 1) := by decide +kernel
theorem dX12_allLevels_100 : decode cX12_allLevels 100 = .ok (.iaload, 1) := by decide +kernel
theorem dX12_allLevels_101 : decode cX12_allLevels 101 = .ok (.iastore, 1) := by decide +kernel
theorem dX12_allLevels_102 : decode cX12_allLevels 102 = .ok (.iinc 2 1, 3) := by decide +kernel
theorem dX12_allLevels_105 : decode cX12_allLevels 105 = .ok (.goto (-44), 3) := by decide +kernel
theorem dX12_allLevels_108 : decode cX12_allLevels 108 = .ok (.iinc 1 1, 3) := by decide +kernel
theorem dX12_allLevels_111 : decode cX12_allLevels 111 = .ok (.goto (-83), 3) := by decide +kernel
theorem dX12_allLevels_114 : decode cX12_allLevels 114 = .ok (.return_, 1) := by decide +kernel
