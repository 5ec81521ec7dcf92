theorem dX9_isWordAt_0 : decode cX9_isWordAt 0 = .ok (.iload_n 2, 1) := by decide +kernel
theorem dX9_isWordAt_1 : decode cX9_isWordAt 1 = .ok (.iload_n 1, 1) := by decide +kernel
theorem dX9_isWordAt_2 : decode cX9_isWordAt 2 = .ok (.isub, 1) := by decide +kernel
theorem dX9_isWordAt_3 : decode cX9_isWordAt 3 = .ok (.aload_n 0, 1) := by decide +kernel
theorem dX9_isWordAt_4 : decode cX9_isWordAt 4 = .ok (.getfield 29, 3) := by decide +kernel
theorem dX9_isWordAt_7 : decode cX9_isWordAt 7 = .ok (.aload_n 0, 1) := by decide +kernel
theorem dX9_isWordAt_8 : decode cX9_isWordAt 8 = .ok (.getfield 32, 3) := by decide +kernel
theorem dX9_isWordAt_11 : decode cX9_isWordAt 11 = .ok (.isub, 1) := by decide +kernel
theorem dX9_isWordAt_12 : decode cX9_isWordAt 12 = .ok (.if_icmp .eq 5, 3) := by decide +kernel
theorem dX9_isWordAt_15 : decode cX9_isWordAt 15 = .ok (.iconst 0, 1) := by decide +kernel
theorem dX9_isWordAt_16 : decode cX9_isWordAt 16 = .ok (.ireturn, 1) := by decide +kernel
theorem dX9_isWordAt_17 : decode cX9_isWordAt 17 = .ok (.iload_n 1, 1) := by decide +kernel
theorem dX9_isWordAt_18 : decode cX9_isWordAt 18 = .ok (.istore_n 3, 1) := by decide +kernel
theorem dX9_isWordAt_19 : decode cX9_isWordAt 19 = .ok (.iload_n 3, 1) := by decide +kernel
theorem dX9_isWordAt_20 : decode cX9_isWordAt 20 = .ok (.iload_n 2, 1) := by decide +kernel
theorem dX9_isWordAt_21 : decode cX9_isWordAt 21 = .ok (.if_icmp .ge 33, 3) := by decide +kernel
theorem dX9_isWordAt_24 : decode cX9_isWordAt 24 = .ok (.ldc 54, 2) := by decide +kernel
theorem dX9_isWordAt_26 : decode cX9_isWordAt 26 = .ok (.iload_n 3, 1) := by decide +kernel
theorem dX9_isWordAt_27 : decode cX9_isWordAt 27 = .ok (.invokevirtual 62, 3) := by decide +kernel
theorem dX9_isWordAt_30 : decode cX9_isWordAt 30 = .ok (.aload_n 0, 1) := by decide +kernel
theorem dX9_isWordAt_31 : decode cX9_isWordAt 31 = .ok (.getfield 9, 3) := by decide +kernel
theorem dX9_isWordAt_34 : decode cX9_isWordAt 34 = .ok (.aload_n 0, 1) := by decide +kernel
theorem dX9_isWordAt_35 : decode cX9_isWordAt 35 = .ok (.getfield 32, 3) := by decide +kernel
theorem dX9_isWordAt_38 : decode cX9_isWordAt 38 = .ok (.iload_n 3, 1) := by decide +kernel
theorem dX9_isWordAt_39 : decode cX9_isWordAt 39 = .ok (.iadd, 1) := by decide +kernel
theorem dX9_isWordAt_40 : decode cX9_isWordAt 40 = .ok (.iload_n 1, 1) := by decide +kernel
theorem dX9_isWordAt_41 : decode cX9_isWordAt 41 = .ok (.isub, 1) := by decide +kernel
theorem dX9_isWordAt_42 : decode cX9_isWordAt 42 = .ok (.iaload, 1) := by decide +kernel
theorem dX9_isWordAt_43 : decode cX9_isWordAt 43 = .ok (.if_icmp .eq 5, 3) := by decide +kernel
theorem dX9_isWordAt_46 : decode cX9_isWordAt 46 = .ok (.iconst 0, 1) := by decide +kernel
theorem dX9_isWordAt_47 : decode cX9_isWordAt 47 = .ok (.ireturn, 1) := by decide +kernel
theorem dX9_isWordAt_48 : decode cX9_isWordAt 48 = .ok (.iinc 3 1, 3) := by decide +kernel
theorem dX9_isWordAt_51 : decode cX9_isWordAt 51 = .ok (.goto (-32), 3) := by decide +kernel
theorem dX9_isWordAt_54 : decode cX9_isWordAt 54 = .ok (.iconst 1, 1) := by decide +kernel
theorem dX9_isWordAt_55 : decode cX9_isWordAt 55 = .ok (.ireturn, 1) := by decide +kernel
theorem dX9_readNumber_0 : decode cX9_readNumber 0 = .ok (.aload_n 0, 1) := by decide +kernel
theorem dX9_readNumber_1 : decode cX9_readNumber 1 = .ok (.bipush 16, 2) := by decide +kernel
theorem dX9_readNumber_3 : decode cX9_readNumber 3 = .ok (.putfield 35, 3) := by decide +kernel
theorem dX9_readNumber_6 : decode cX9_readNumber 6 = .ok (.aload_n 0, 1) := by decide +kernel
theorem dX9_readNumber_7 : decode cX9_readNumber 7 = .ok (.iconst 0, 1) := by decide +kernel
theorem dX9_readNumber_8 : decode cX9_readNumber 8 = .ok (.putfield 70, 3) := by decide +kernel
theorem dX9_readNumber_11 : decode cX9_readNumber 11 = .ok (.aload_n 0, 1) := by decide +kernel
theorem dX9_readNumber_12 : decode cX9_readNumber 12 = .ok (.getfield 29, 3) := by decide +kernel
theorem dX9_readNumber_15 : decode cX9_readNumber 15 = .ok (.aload_n 0, 1) := by decide +kernel
theorem dX9_readNumber_16 : decode cX9_readNumber 16 = .ok (.getfield 26, 3) := by decide +kernel
theorem dX9_readNumber_19 : decode cX9_readNumber 19 = .ok (.if_icmp .ge 60, 3) := by decide +kernel
theorem dX9_readNumber_22 : decode cX9_readNumber 22 = .ok (.aload_n 0, 1) := by decide +kernel
theorem dX9_readNumber_23 : decode cX9_readNumber 23 = .ok (.getfield 9, 3) := by decide +kernel
theorem dX9_readNumber_26 : decode cX9_readNumber 26 = .ok (.aload_n 0, 1) := by decide +kernel
theorem dX9_readNumber_27 : decode cX9_readNumber 27 = .ok (.getfield 29, 3) := by decide +kernel
theorem dX9_readNumber_30 : decode cX9_readNumber 30 = .ok (.iaload, 1) := by decide +kernel
theorem dX9_readNumber_31 : decode cX9_readNumber 31 = .ok (.invokestatic 45, 3) := by decide +kernel
theorem dX9_readNumber_34 : decode cX9_readNumber 34 = .ok (.ifCond .eq 45, 3) := by decide +kernel
theorem dX9_readNumber_37 : decode cX9_readNumber 37 = .ok (.aload_n 0, 1) := by decide +kernel
theorem dX9_readNumber_38 : decode cX9_readNumber 38 = .ok (.ldc 73, 2) := by decide +kernel
theorem dX9_readNumber_40 : decode cX9_readNumber 40 = .ok (.aload_n 0, 1) := by decide +kernel
theorem dX9_readNumber_41 : decode cX9_readNumber 41 = .ok (.getfield 70, 3) := by decide +kernel
theorem dX9_readNumber_44 : decode cX9_readNumber 44 = .ok (.bipush 10, 2) := by decide +kernel
theorem dX9_readNumber_46 : decode cX9_readNumber 46 = .ok (.imul, 1) := by decide +kernel
theorem dX9_readNumber_47 : decode cX9_readNumber 47 = .ok (.aload_n 0, 1) := by decide +kernel
theorem dX9_readNumber_48 : decode cX9_readNumber 48 = .ok (.getfield 9, 3) := by decide +kernel
theorem dX9_readNumber_51 : decode cX9_readNumber 51 = .ok (.aload_n 0, 1) := by decide +kernel
theorem dX9_readNumber_52 : decode cX9_readNumber 52 = .ok (.getfield 29, 3) := by decide +kernel
theorem dX9_readNumber_55 : decode cX9_readNumber 55 = .ok (.iaload, 1) := by decide +kernel
theorem dX9_readNumber_56 : decode cX9_readNumber 56 = .ok (.iadd, 1) := by decide +kernel
theorem dX9_readNumber_57 : decode cX9_readNumber 57 = .ok (.bipush 48, 2) := by decide +kernel
theorem dX9_readNumber_59 : decode cX9_readNumber 59 = .ok (.isub, 1) := by decide +kernel
theorem dX9_readNumber_60 : decode cX9_readNumber 60 = .ok (.invokestatic 17, 3) := by decide +kernel
theorem dX9_readNumber_63 : decode cX9_readNumber 63 = .ok (.putfield 70, 3) := by decide +kernel
theorem dX9_readNumber_66 : decode cX9_readNumber 66 = .ok (.aload_n 0, 1) := by decide +kernel
theorem dX9_readNumber_67 : decode cX9_readNumber 67 = .ok (.dup, 1) := by decide +kernel
theorem dX9_readNumber_68 : decode cX9_readNumber 68 = .ok (.getfield 29, 3) := by decide +kernel
theorem dX9_readNumber_71 : decode cX9_readNumber 71 = .ok (.iconst 1, 1) := by decide +kernel
theorem dX9_readNumber_72 : decode cX9_readNumber 72 = .ok (.iadd, 1) := by decide +kernel
theorem dX9_readNumber_73 : decode cX9_readNumber 73 = .ok (.putfield 29, 3) := by decide +kernel
theorem dX9_readNumber_76 : decode cX9_readNumber 76 = .ok (.goto (-65), 3) := by decide +kernel
theorem dX9_readNumber_79 : decode cX9_readNumber 79 = .ok (.return_, 1) := by decide +kernel
theorem dX9_readSign_0 : decode cX9_readSign 0 = .ok (.aload_n 0, 1) := by decide +kernel
theorem dX9_readSign_1 : decode cX9_readSign 1 = .ok (.getfield 9, 3) := by decide +kernel
theorem dX9_readSign_4 : decode cX9_readSign 4 = .ok (.aload_n 0, 1) := by decide +kernel
theorem dX9_readSign_5 : decode cX9_readSign 5 = .ok (.getfield 29, 3) := by decide +kernel
theorem dX9_readSign_8 : decode cX9_readSign 8 = .ok (.iaload, 1) := by decide +kernel
theorem dX9_readSign_9 : decode cX9_readSign 9 = .ok (.istore_n 1, 1) := by decide +kernel
theorem dX9_readSign_10 : decode cX9_readSign 10 = .ok (.aload_n 0, 1) := by decide +kernel
theorem dX9_readSign_11 : decode cX9_readSign 11 = .ok (.dup, 1) := by decide +kernel
theorem dX9_readSign_12 : decode cX9_readSign 12 = .ok (.getfield 29, 3) := by decide +kernel
theorem dX9_readSign_15 : decode cX9_readSign 15 = .ok (.iconst 1, 1) := by decide +kernel
theorem dX9_readSign_16 : decode cX9_readSign 16 = .ok (.iadd, 1) := by decide +kernel
theorem dX9_readSign_17 : decode cX9_readSign 17 = .ok (.putfield 29, 3) := by decide +kernel
theorem dX9_readSign_20 : decode cX9_readSign 20 = .ok (.iload_n 1, 1) := by decide +kernel
theorem dX9_readSign_21 : decode cX9_readSign 21 = .ok (.tableswitch 248 40 62 #[116, 125, 161, 143, 134, 152, 248, 170, 248, 248, 248, 248, 248, 248, 248, 248, 248, 248, 248, 107, 188, 179, 225], 107) := by decide +kernel
theorem dX9_readSign_128 : decode cX9_readSign 128 = .ok (.aload_n 0, 1) := by decide +kernel
theorem dX9_readSign_129 : decode cX9_readSign 129 = .ok (.bipush 17, 2) := by decide +kernel
theorem dX9_readSign_131 : decode cX9_readSign 131 = .ok (.putfield 35, 3) := by decide +kernel
theorem dX9_readSign_134 : decode cX9_readSign 134 = .ok (.goto 141, 3) := by decide +kernel
theorem dX9_readSign_137 : decode cX9_readSign 137 = .ok (.aload_n 0, 1) := by decide +kernel
theorem dX9_readSign_138 : decode cX9_readSign 138 = .ok (.bipush 18, 2) := by decide +kernel
theorem dX9_readSign_140 : decode cX9_readSign 140 = .ok (.putfield 35, 3) := by decide +kernel
theorem dX9_readSign_143 : decode cX9_readSign 143 = .ok (.goto 132, 3) := by decide +kernel
theorem dX9_readSign_146 : decode cX9_readSign 146 = .ok (.aload_n 0, 1) := by decide +kernel
theorem dX9_readSign_147 : decode cX9_readSign 147 = .ok (.bipush 19, 2) := by decide +kernel
theorem dX9_readSign_149 : decode cX9_readSign 149 = .ok (.putfield 35, 3) := by decide +kernel
theorem dX9_readSign_152 : decode cX9_readSign 152 = .ok (.goto 123, 3) := by decide +kernel
theorem dX9_readSign_155 : decode cX9_readSign 155 = .ok (.aload_n 0, 1) := by decide +kernel
theorem dX9_readSign_156 : decode cX9_readSign 156 = .ok (.bipush 20, 2) := by decide +kernel
theorem dX9_readSign_158 : decode cX9_readSign 158 = .ok (.putfield 35, 3) := by decide +kernel
theorem dX9_readSign_161 : decode cX9_readSign 161 = .ok (.goto 114, 3) := by decide +kernel
theorem dX9_readSign_164 : decode cX9_readSign 164 = .ok (.aload_n 0, 1) := by decide +kernel
theorem dX9_readSign_165 : decode cX9_readSign 165 = .ok (.bipush 21, 2) := by decide +kernel
theorem dX9_readSign_167 : decode cX9_readSign 167 = .ok (.putfield 35, 3) := by decide +kernel
theorem dX9_readSign_170 : decode cX9_readSign 170 = .ok (.goto 105, 3) := by decide +kernel
theorem dX9_readSign_173 : decode cX9_readSign 173 = .ok (.aload_n 0, 1) := by decide +kernel
theorem dX9_readSign_174 : decode cX9_readSign 174 = .ok (.bipush 22, 2) := by decide +kernel
theorem dX9_readSign_176 : decode cX9_readSign 176 = .ok (.putfield 35, 3) := by decide +kernel
theorem dX9_readSign_179 : decode cX9_readSign 179 = .ok (.goto 96, 3) := by decide +kernel
theorem dX9_readSign_182 : decode cX9_readSign 182 = .ok (.aload_n 0, 1) := by decide +kernel
theorem dX9_readSign_183 : decode cX9_readSign 183 = .ok (.bipush 23, 2) := by decide +kernel
theorem dX9_readSign_185 : decode cX9_readSign 185 = .ok (.putfield 35, 3) := by decide +kernel
theorem dX9_readSign_188 : decode cX9_readSign 188 = .ok (.goto 87, 3) := by decide +kernel
theorem dX9_readSign_191 : decode cX9_readSign 191 = .ok (.aload_n 0, 1) := by decide +kernel
theorem dX9_readSign_192 : decode cX9_readSign 192 = .ok (.bipush 24, 2) := by decide +kernel
theorem dX9_readSign_194 : decode cX9_readSign 194 = .ok (.putfield 35, 3) := by decide +kernel
theorem dX9_readSign_197 : decode cX9_readSign 197 = .ok (.goto 78, 3) := by decide +kernel
theorem dX9_readSign_200 : decode cX9_readSign 200 = .ok (.aload_n 0, 1) := by decide +kernel
theorem dX9_readSign_201 : decode cX9_readSign 201 = .ok (.bipush 27, 2) := by decide +kernel
theorem dX9_readSign_203 : decode cX9_readSign 203 = .ok (.putfield 35, 3) := by decide +kernel
theorem dX9_readSign_206 : decode cX9_readSign 206 = .ok (.goto 69, 3) := by decide +kernel
theorem dX9_readSign_209 : decode cX9_readSign 209 = .ok (.aload_n 0, 1) := by decide +kernel
theorem dX9_readSign_210 : decode cX9_readSign 210 = .ok (.aload_n 0, 1) := by decide +kernel
theorem dX9_readSign_211 : decode cX9_readSign 211 = .ok (.bipush 61, 2) := by decide +kernel
theorem dX9_readSign_213 : decode cX9_readSign 213 = .ok (.invokevirtual 74, 3) := by decide +kernel
theorem dX9_readSign_216 : decode cX9_readSign 216 = .ok (.ifCond .eq 8, 3) := by decide +kernel
theorem dX9_readSign_219 : decode cX9_readSign 219 = .ok (.bipush 26, 2) := by decide +kernel
theorem dX9_readSign_221 : decode cX9_readSign 221 = .ok (.goto 19, 3) := by decide +kernel
theorem dX9_readSign_224 : decode cX9_readSign 224 = .ok (.aload_n 0, 1) := by decide +kernel
theorem dX9_readSign_225 : decode cX9_readSign 225 = .ok (.bipush 62, 2) := by decide +kernel
theorem dX9_readSign_227 : decode cX9_readSign 227 = .ok (.invokevirtual 74, 3) := by decide +kernel
theorem dX9_readSign_230 : decode cX9_readSign 230 = .ok (.ifCond .eq 8, 3) := by decide +kernel
theorem dX9_readSign_233 : decode cX9_readSign 233 = .ok (.bipush 28, 2) := by decide +kernel
theorem dX9_readSign_235 : decode cX9_readSign 235 = .ok (.goto 5, 3) := by decide +kernel
theorem dX9_readSign_238 : decode cX9_readSign 238 = .ok (.bipush 25, 2) := by decide +kernel
theorem dX9_readSign_240 : decode cX9_readSign 240 = .ok (.putfield 35, 3) := by decide +kernel
theorem dX9_readSign_243 : decode cX9_readSign 243 = .ok (.goto 32, 3) := by decide +kernel
theorem dX9_readSign_246 : decode cX9_readSign 246 = .ok (.aload_n 0, 1) := by decide +kernel
theorem dX9_readSign_247 : decode cX9_readSign 247 = .ok (.aload_n 0, 1) := by decide +kernel
theorem dX9_readSign_248 : decode cX9_readSign 248 = .ok (.bipush 61, 2) := by decide +kernel
theorem dX9_readSign_250 : decode cX9_readSign 250 = .ok (.invokevirtual 74, 3) := by decide +kernel
theorem dX9_readSign_253 : decode cX9_readSign 253 = .ok (.ifCond .eq 8, 3) := by decide +kernel
theorem dX9_readSign_256 : decode cX9_readSign 256 = .ok (.bipush 29, 2) := by decide +kernel
theorem dX9_readSign_258 : decode cX9_readSign 258 = .ok (.goto 5, 3) := by decide +kernel
theorem dX9_readSign_261 : decode cX9_readSign 261 = .ok (.bipush 30, 2) := by decide +kernel
theorem dX9_readSign_263 : decode cX9_readSign 263 = .ok (.putfield 35, 3) := by decide +kernel
theorem dX9_readSign_266 : decode cX9_readSign 266 = .ok (.goto 9, 3) := by decide +kernel
theorem dX9_readSign_269 : decode cX9_readSign 269 = .ok (.aload_n 0, 1) := by decide +kernel
theorem dX9_readSign_270 : decode cX9_readSign 270 = .ok (.bipush 33, 2) := by decide +kernel
theorem dX9_readSign_272 : decode cX9_readSign 272 = .ok (.putfield 35, 3) := by decide +kernel
theorem dX9_readSign_275 : decode cX9_readSign 275 = .ok (.return_, 1) := by decide +kernel
theorem dX9_takes_0 : decode cX9_takes 0 = .ok (.aload_n 0, 1) := by decide +kernel
theorem dX9_takes_1 : decode cX9_takes 1 = .ok (.getfield 29, 3) := by decide +kernel
theorem dX9_takes_4 : decode cX9_takes 4 = .ok (.aload_n 0, 1) := by decide +kernel
theorem dX9_takes_5 : decode cX9_takes 5 = .ok (.getfield 26, 3) := by decide +kernel
theorem dX9_takes_8 : decode cX9_takes 8 = .ok (.if_icmp .ge 28, 3) := by decide +kernel
theorem dX9_takes_11 : decode cX9_takes 11 = .ok (.aload_n 0, 1) := by decide +kernel
theorem dX9_takes_12 : decode cX9_takes 12 = .ok (.getfield 9, 3) := by decide +kernel
theorem dX9_takes_15 : decode cX9_takes 15 = .ok (.aload_n 0, 1) := by decide +kernel
theorem dX9_takes_16 : decode cX9_takes 16 = .ok (.getfield 29, 3) := by decide +kernel
theorem dX9_takes_19 : decode cX9_takes 19 = .ok (.iaload, 1) := by decide +kernel
theorem dX9_takes_20 : decode cX9_takes 20 = .ok (.iload_n 1, 1) := by decide +kernel
theorem dX9_takes_21 : decode cX9_takes 21 = .ok (.if_icmp .ne 15, 3) := by decide +kernel
theorem dX9_takes_24 : decode cX9_takes 24 = .ok (.aload_n 0, 1) := by decide +kernel
theorem dX9_takes_25 : decode cX9_takes 25 = .ok (.dup, 1) := by decide +kernel
theorem dX9_takes_26 : decode cX9_takes 26 = .ok (.getfield 29, 3) := by decide +kernel
theorem dX9_takes_29 : decode cX9_takes 29 = .ok (.iconst 1, 1) := by decide +kernel
theorem dX9_takes_30 : decode cX9_takes 30 = .ok (.iadd, 1) := by decide +kernel
theorem dX9_takes_31 : decode cX9_takes 31 = .ok (.putfield 29, 3) := by decide +kernel
theorem dX9_takes_34 : decode cX9_takes 34 = .ok (.iconst 1, 1) := by decide +kernel
theorem dX9_takes_35 : decode cX9_takes 35 = .ok (.ireturn, 1) := by decide +kernel
theorem dX9_takes_36 : decode cX9_takes 36 = .ok (.iconst 0, 1) := by decide +kernel
theorem dX9_takes_37 : decode cX9_takes 37 = .ok (.ireturn, 1) := by decide +kernel
theorem dX10_firstHour_0 : decode cX10_firstHour 0 = .ok (.iconst 0, 1) := by decide +kernel
theorem dX10_firstHour_1 : decode cX10_firstHour 1 = .ok (.aload_n 0, 1) := by decide +kernel
theorem dX10_firstHour_2 : decode cX10_firstHour 2 = .ok (.getfield 7, 3) := by decide +kernel
theorem dX10_firstHour_5 : decode cX10_firstHour 5 = .ok (.bipush 12, 2) := by decide +kernel
theorem dX10_firstHour_7 : decode cX10_firstHour 7 = .ok (.isub, 1) := by decide +kernel
theorem dX10_firstHour_8 : decode cX10_firstHour 8 = .ok (.invokestatic 15, 3) := by decide +kernel
theorem dX10_firstHour_11 : decode cX10_firstHour 11 = .ok (.ireturn, 1) := by decide +kernel
theorem dX10_lastHour_0 : decode cX10_lastHour 0 = .ok (.aload_n 0, 1) := by decide +kernel
theorem dX10_lastHour_1 : decode cX10_lastHour 1 = .ok (.getfield 7, 3) := by decide +kernel
theorem dX10_lastHour_4 : decode cX10_lastHour 4 = .ok (.bipush 12, 2) := by decide +kernel
theorem dX10_lastHour_6 : decode cX10_lastHour 6 = .ok (.iadd, 1) := by decide +kernel
theorem dX10_lastHour_7 : decode cX10_lastHour 7 = .ok (.ireturn, 1) := by decide +kernel
theorem dX11_feed_0 : decode cX11_feed 0 = .ok (.aload_n 0, 1) := by decide +kernel
theorem dX11_feed_1 : decode cX11_feed 1 = .ok (.getfield 10, 3) := by decide +kernel
theorem dX11_feed_4 : decode cX11_feed 4 = .ok (.getfield 89, 3) := by decide +kernel
theorem dX11_feed_7 : decode cX11_feed 7 = .ok (.astore 6, 2) := by decide +kernel
theorem dX11_feed_9 : decode cX11_feed 9 = .ok (.aload 6, 2) := by decide +kernel
theorem dX11_feed_11 : decode cX11_feed 11 = .ok (.bipush 20, 2) := by decide +kernel
theorem dX11_feed_13 : decode cX11_feed 13 = .ok (.invokevirtual 93, 3) := by decide +kernel
theorem dX11_feed_16 : decode cX11_feed 16 = .ok (.ifCond .ne 5, 3) := by decide +kernel
theorem dX11_feed_19 : decode cX11_feed 19 = .ok (.iconst (-1), 1) := by decide +kernel
theorem dX11_feed_20 : decode cX11_feed 20 = .ok (.ireturn, 1) := by decide +kernel
theorem dX11_feed_21 : decode cX11_feed 21 = .ok (.aload 6, 2) := by decide +kernel
theorem dX11_feed_23 : decode cX11_feed 23 = .ok (.iload_n 1, 1) := by decide +kernel
theorem dX11_feed_24 : decode cX11_feed 24 = .ok (.invokevirtual 99, 3) := by decide +kernel
theorem dX11_feed_27 : decode cX11_feed 27 = .ok (.aload 6, 2) := by decide +kernel
theorem dX11_feed_29 : decode cX11_feed 29 = .ok (.iload_n 2, 1) := by decide +kernel
theorem dX11_feed_30 : decode cX11_feed 30 = .ok (.invokevirtual 99, 3) := by decide +kernel
theorem dX11_feed_33 : decode cX11_feed 33 = .ok (.aload 6, 2) := by decide +kernel
theorem dX11_feed_35 : decode cX11_feed 35 = .ok (.iload_n 3, 1) := by decide +kernel
theorem dX11_feed_36 : decode cX11_feed 36 = .ok (.invokevirtual 99, 3) := by decide +kernel
theorem dX11_feed_39 : decode cX11_feed 39 = .ok (.aload 6, 2) := by decide +kernel
theorem dX11_feed_41 : decode cX11_feed 41 = .ok (.iload 4, 2) := by decide +kernel
theorem dX11_feed_43 : decode cX11_feed 43 = .ok (.invokevirtual 99, 3) := by decide +kernel
theorem dX11_feed_46 : decode cX11_feed 46 = .ok (.aload 6, 2) := by decide +kernel
theorem dX11_feed_48 : decode cX11_feed 48 = .ok (.iload 5, 2) := by decide +kernel
theorem dX11_feed_50 : decode cX11_feed 50 = .ok (.invokevirtual 99, 3) := by decide +kernel
theorem dX11_feed_53 : decode cX11_feed 53 = .ok (.aload 6, 2) := by decide +kernel
theorem dX11_feed_55 : decode cX11_feed 55 = .ok (.getfield 103, 3) := by decide +kernel
theorem dX11_feed_58 : decode cX11_feed 58 = .ok (.ireturn, 1) := by decide +kernel
theorem dX11_rules_0 : decode cX11_rules 0 = .ok (.iload_n 1, 1) := by decide +kernel
theorem dX11_rules_1 : decode cX11_rules 1 = .ok (.ifCond .lt 17, 3) := by decide +kernel
theorem dX11_rules_4 : decode cX11_rules 4 = .ok (.iload_n 1, 1) := by decide +kernel
theorem dX11_rules_5 : decode cX11_rules 5 = .ok (.aload_n 0, 1) := by decide +kernel
theorem dX11_rules_6 : decode cX11_rules 6 = .ok (.getfield 10, 3) := by decide +kernel
theorem dX11_rules_9 : decode cX11_rules 9 = .ok (.getfield 89, 3) := by decide +kernel
theorem dX11_rules_12 : decode cX11_rules 12 = .ok (.getfield 103, 3) := by decide +kernel
theorem dX11_rules_15 : decode cX11_rules 15 = .ok (.if_icmp .le 6, 3) := by decide +kernel
theorem dX11_rules_18 : decode cX11_rules 18 = .ok (.bipush (-2), 2) := by decide +kernel
theorem dX11_rules_20 : decode cX11_rules 20 = .ok (.ireturn, 1) := by decide +kernel
theorem dX11_rules_21 : decode cX11_rules 21 = .ok (.aload_n 0, 1) := by decide +kernel
theorem dX11_rules_22 : decode cX11_rules 22 = .ok (.getfield 10, 3) := by decide +kernel
theorem dX11_rules_25 : decode cX11_rules 25 = .ok (.iload_n 1, 1) := by decide +kernel
theorem dX11_rules_26 : decode cX11_rules 26 = .ok (.aload_n 0, 1) := by decide +kernel
theorem dX11_rules_27 : decode cX11_rules 27 = .ok (.getfield 23, 3) := by decide +kernel
theorem dX11_rules_30 : decode cX11_rules 30 = .ok (.invokevirtual 107, 3) := by decide +kernel
theorem dX11_rules_33 : decode cX11_rules 33 = .ok (.istore_n 2, 1) := by decide +kernel
theorem dX11_rules_34 : decode cX11_rules 34 = .ok (.iload_n 2, 1) := by decide +kernel
theorem dX11_rules_35 : decode cX11_rules 35 = .ok (.iconst (-1), 1) := by decide +kernel
theorem dX11_rules_36 : decode cX11_rules 36 = .ok (.if_icmp .ne 5, 3) := by decide +kernel
theorem dX11_rules_39 : decode cX11_rules 39 = .ok (.iconst (-1), 1) := by decide +kernel
theorem dX11_rules_40 : decode cX11_rules 40 = .ok (.ireturn, 1) := by decide +kernel
theorem dX11_rules_41 : decode cX11_rules 41 = .ok (.aload_n 0, 1) := by decide +kernel
theorem dX11_rules_42 : decode cX11_rules 42 = .ok (.getfield 19, 3) := by decide +kernel
theorem dX11_rules_45 : decode cX11_rules 45 = .ok (.astore_n 3, 1) := by decide +kernel
theorem dX11_rules_46 : decode cX11_rules 46 = .ok (.aload_n 0, 1) := by decide +kernel
theorem dX11_rules_47 : decode cX11_rules 47 = .ok (.aload_n 0, 1) := by decide +kernel
theorem dX11_rules_48 : decode cX11_rules 48 = .ok (.getfield 23, 3) := by decide +kernel
theorem dX11_rules_51 : decode cX11_rules 51 = .ok (.putfield 19, 3) := by decide +kernel
theorem dX11_rules_54 : decode cX11_rules 54 = .ok (.aload_n 0, 1) := by decide +kernel
theorem dX11_rules_55 : decode cX11_rules 55 = .ok (.aload_n 3, 1) := by decide +kernel
theorem dX11_rules_56 : decode cX11_rules 56 = .ok (.putfield 23, 3) := by decide +kernel
theorem dX11_rules_59 : decode cX11_rules 59 = .ok (.aload_n 0, 1) := by decide +kernel
theorem dX11_rules_60 : decode cX11_rules 60 = .ok (.iconst 0, 1) := by decide +kernel
theorem dX11_rules_61 : decode cX11_rules 61 = .ok (.invokevirtual 111, 3) := by decide +kernel
theorem dX11_rules_64 : decode cX11_rules 64 = .ok (.iload_n 2, 1) := by decide +kernel
theorem dX11_rules_65 : decode cX11_rules 65 = .ok (.ireturn, 1) := by decide +kernel
theorem dX11_fault_0 : decode cX11_fault 0 = .ok (.iload_n 1, 1) := by decide +kernel
theorem dX11_fault_1 : decode cX11_fault 1 = .ok (.lookupswitch 43 #[(0, 27), (1, 35)], 27) := by decide +kernel
theorem dX11_fault_28 : decode cX11_fault 28 = .ok (.aload_n 0, 1) := by decide +kernel
theorem dX11_fault_29 : decode cX11_fault 29 = .ok (.getfield 10, 3) := by decide +kernel
theorem dX11_fault_32 : decode cX11_fault 32 = .ok (.getfield 114, 3) := by decide +kernel
theorem dX11_fault_35 : decode cX11_fault 35 = .ok (.ireturn, 1) := by decide +kernel
theorem dX11_fault_36 : decode cX11_fault 36 = .ok (.aload_n 0, 1) := by decide +kernel
theorem dX11_fault_37 : decode cX11_fault 37 = .ok (.getfield 10, 3) := by decide +kernel
theorem dX11_fault_40 : decode cX11_fault 40 = .ok (.getfield 117, 3) := by decide +kernel
theorem dX11_fault_43 : decode cX11_fault 43 = .ok (.ireturn, 1) := by decide +kernel
theorem dX11_fault_44 : decode cX11_fault 44 = .ok (.iconst (-1), 1) := by decide +kernel
theorem dX11_fault_45 : decode cX11_fault 45 = .ok (.ireturn, 1) := by decide +kernel
theorem dX11_hours_0 : decode cX11_hours 0 = .ok (.iload_n 1, 1) := by decide +kernel
theorem dX11_hours_1 : decode cX11_hours 1 = .ok (.iconst 0, 1) := by decide +kernel
theorem dX11_hours_2 : decode cX11_hours 2 = .ok (.bipush 99, 2) := by decide +kernel
theorem dX11_hours_4 : decode cX11_hours 4 = .ok (.invokestatic 120, 3) := by decide +kernel
theorem dX11_hours_7 : decode cX11_hours 7 = .ok (.ifCond .eq 14, 3) := by decide +kernel
theorem dX11_hours_10 : decode cX11_hours 10 = .ok (.aload_n 0, 1) := by decide +kernel
theorem dX11_hours_11 : decode cX11_hours 11 = .ok (.getfield 124, 3) := by decide +kernel
theorem dX11_hours_14 : decode cX11_hours 14 = .ok (.iload_n 1, 1) := by decide +kernel
theorem dX11_hours_15 : decode cX11_hours 15 = .ok (.iadd, 1) := by decide +kernel
theorem dX11_hours_16 : decode cX11_hours 16 = .ok (.bipush 100, 2) := by decide +kernel
theorem dX11_hours_18 : decode cX11_hours 18 = .ok (.if_icmp .lt 5, 3) := by decide +kernel
theorem dX11_hours_21 : decode cX11_hours 21 = .ok (.iconst (-1), 1) := by decide +kernel
theorem dX11_hours_22 : decode cX11_hours 22 = .ok (.ireturn, 1) := by decide +kernel
theorem dX11_hours_23 : decode cX11_hours 23 = .ok (.aload_n 0, 1) := by decide +kernel
theorem dX11_hours_24 : decode cX11_hours 24 = .ok (.dup, 1) := by decide +kernel
theorem dX11_hours_25 : decode cX11_hours 25 = .ok (.getfield 124, 3) := by decide +kernel
theorem dX11_hours_28 : decode cX11_hours 28 = .ok (.iload_n 1, 1) := by decide +kernel
theorem dX11_hours_29 : decode cX11_hours 29 = .ok (.iadd, 1) := by decide +kernel
theorem dX11_hours_30 : decode cX11_hours 30 = .ok (.putfield 124, 3) := by decide +kernel
theorem dX11_hours_33 : decode cX11_hours 33 = .ok (.aload_n 0, 1) := by decide +kernel
theorem dX11_hours_34 : decode cX11_hours 34 = .ok (.getfield 124, 3) := by decide +kernel
theorem dX11_hours_37 : decode cX11_hours 37 = .ok (.ireturn, 1) := by decide +kernel
theorem dX11_post_0 : decode cX11_post 0 = .ok (.aload_n 0, 1) := by decide +kernel
theorem dX11_post_1 : decode cX11_post 1 = .ok (.getfield 29, 3) := by decide +kernel
theorem dX11_post_4 : decode cX11_post 4 = .ok (.iload_n 1, 1) := by decide +kernel
theorem dX11_post_5 : decode cX11_post 5 = .ok (.invokevirtual 127, 3) := by decide +kernel
theorem dX11_post_8 : decode cX11_post 8 = .ok (.istore_n 2, 1) := by decide +kernel
theorem dX11_post_9 : decode cX11_post 9 = .ok (.iload_n 2, 1) := by decide +kernel
theorem dX11_post_10 : decode cX11_post 10 = .ok (.iconst (-1), 1) := by decide +kernel
theorem dX11_post_11 : decode cX11_post 11 = .ok (.if_icmp .eq 8, 3) := by decide +kernel
theorem dX11_post_14 : decode cX11_post 14 = .ok (.aload_n 0, 1) := by decide +kernel
theorem dX11_post_15 : decode cX11_post 15 = .ok (.iconst 0, 1) := by decide +kernel
theorem dX11_post_16 : decode cX11_post 16 = .ok (.invokevirtual 111, 3) := by decide +kernel
theorem dX11_post_19 : decode cX11_post 19 = .ok (.iload_n 2, 1) := by decide +kernel
theorem dX11_post_20 : decode cX11_post 20 = .ok (.ireturn, 1) := by decide +kernel
theorem dX11_read_0 : decode cX11_read 0 = .ok (.iload_n 2, 1) := by decide +kernel
theorem dX11_read_1 : decode cX11_read 1 = .ok (.iconst 0, 1) := by decide +kernel
theorem dX11_read_2 : decode cX11_read 2 = .ok (.aload_n 0, 1) := by decide +kernel
theorem dX11_read_3 : decode cX11_read 3 = .ok (.getfield 124, 3) := by decide +kernel
theorem dX11_read_6 : decode cX11_read 6 = .ok (.invokestatic 120, 3) := by decide +kernel
theorem dX11_read_9 : decode cX11_read 9 = .ok (.ifCond .ne 5, 3) := by decide +kernel
theorem dX11_read_12 : decode cX11_read 12 = .ok (.iconst (-1), 1) := by decide +kernel
theorem dX11_read_13 : decode cX11_read 13 = .ok (.ireturn, 1) := by decide +kernel
theorem dX11_read_14 : decode cX11_read 14 = .ok (.aload_n 0, 1) := by decide +kernel
theorem dX11_read_15 : decode cX11_read 15 = .ok (.getfield 29, 3) := by decide +kernel
theorem dX11_read_18 : decode cX11_read 18 = .ok (.iload_n 1, 1) := by decide +kernel
theorem dX11_read_19 : decode cX11_read 19 = .ok (.iload_n 2, 1) := by decide +kernel
theorem dX11_read_20 : decode cX11_read 20 = .ok (.aload_n 0, 1) := by decide +kernel
theorem dX11_read_21 : decode cX11_read 21 = .ok (.getfield 124, 3) := by decide +kernel
theorem dX11_read_24 : decode cX11_read 24 = .ok (.iload_n 3, 1) := by decide +kernel
theorem dX11_read_25 : decode cX11_read 25 = .ok (.iload 4, 2) := by decide +kernel
theorem dX11_read_27 : decode cX11_read 27 = .ok (.invokevirtual 131, 3) := by decide +kernel
theorem dX11_read_30 : decode cX11_read 30 = .ok (.istore 5, 2) := by decide +kernel
theorem dX11_read_32 : decode cX11_read 32 = .ok (.iload 5, 2) := by decide +kernel
theorem dX11_read_34 : decode cX11_read 34 = .ok (.iconst (-1), 1) := by decide +kernel
theorem dX11_read_35 : decode cX11_read 35 = .ok (.if_icmp .eq 11, 3) := by decide +kernel
theorem dX11_read_38 : decode cX11_read 38 = .ok (.aload_n 0, 1) := by decide +kernel
theorem dX11_read_39 : decode cX11_read 39 = .ok (.aload_n 0, 1) := by decide +kernel
theorem dX11_read_40 : decode cX11_read 40 = .ok (.getfield 124, 3) := by decide +kernel
theorem dX11_read_43 : decode cX11_read 43 = .ok (.invokevirtual 111, 3) := by decide +kernel
theorem dX11_read_46 : decode cX11_read 46 = .ok (.iload 5, 2) := by decide +kernel
theorem dX11_read_48 : decode cX11_read 48 = .ok (.ireturn, 1) := by decide +kernel
theorem dX11_reading_0 : decode cX11_reading 0 = .ok (.aload_n 0, 1) := by decide +kernel
theorem dX11_reading_1 : decode cX11_reading 1 = .ok (.getfield 29, 3) := by decide +kernel
theorem dX11_reading_4 : decode cX11_reading 4 = .ok (.iload_n 1, 1) := by decide +kernel
theorem dX11_reading_5 : decode cX11_reading 5 = .ok (.invokevirtual 135, 3) := by decide +kernel
theorem dX11_reading_8 : decode cX11_reading 8 = .ok (.ifCond .eq 17, 3) := by decide +kernel
theorem dX11_reading_11 : decode cX11_reading 11 = .ok (.iload_n 2, 1) := by decide +kernel
theorem dX11_reading_12 : decode cX11_reading 12 = .ok (.invokestatic 138, 3) := by decide +kernel
theorem dX11_reading_15 : decode cX11_reading 15 = .ok (.ifCond .eq 10, 3) := by decide +kernel
theorem dX11_reading_18 : decode cX11_reading 18 = .ok (.iload_n 3, 1) := by decide +kernel
theorem dX11_reading_19 : decode cX11_reading 19 = .ok (.invokestatic 138, 3) := by decide +kernel
theorem dX11_reading_22 : decode cX11_reading 22 = .ok (.ifCond .ne 7, 3) := by decide +kernel
theorem dX11_reading_25 : decode cX11_reading 25 = .ok (.sipush (-20000), 3) := by decide +kernel
theorem dX11_reading_28 : decode cX11_reading 28 = .ok (.ireturn, 1) := by decide +kernel
theorem dX11_reading_29 : decode cX11_reading 29 = .ok (.aload_n 0, 1) := by decide +kernel
theorem dX11_reading_30 : decode cX11_reading 30 = .ok (.getfield 29, 3) := by decide +kernel
theorem dX11_reading_33 : decode cX11_reading 33 = .ok (.iload_n 1, 1) := by decide +kernel
theorem dX11_reading_34 : decode cX11_reading 34 = .ok (.iload_n 2, 1) := by decide +kernel
theorem dX11_reading_35 : decode cX11_reading 35 = .ok (.iload_n 3, 1) := by decide +kernel
theorem dX11_reading_36 : decode cX11_reading 36 = .ok (.invokevirtual 141, 3) := by decide +kernel
theorem dX11_reading_39 : decode cX11_reading 39 = .ok (.ireturn, 1) := by decide +kernel
theorem dX11_raw_0 : decode cX11_raw 0 = .ok (.iload_n 1, 1) := by decide +kernel
theorem dX11_raw_1 : decode cX11_raw 1 = .ok (.invokestatic 138, 3) := by decide +kernel
theorem dX11_raw_4 : decode cX11_raw 4 = .ok (.ifCond .eq 10, 3) := by decide +kernel
theorem dX11_raw_7 : decode cX11_raw 7 = .ok (.iload_n 2, 1) := by decide +kernel
theorem dX11_raw_8 : decode cX11_raw 8 = .ok (.invokestatic 138, 3) := by decide +kernel
theorem dX11_raw_11 : decode cX11_raw 11 = .ok (.ifCond .ne 5, 3) := by decide +kernel
theorem dX11_raw_14 : decode cX11_raw 14 = .ok (.iconst (-1), 1) := by decide +kernel
theorem dX11_raw_15 : decode cX11_raw 15 = .ok (.ireturn, 1) := by decide +kernel
theorem dX11_raw_16 : decode cX11_raw 16 = .ok (.aload_n 0, 1) := by decide +kernel
theorem dX11_raw_17 : decode cX11_raw 17 = .ok (.getfield 19, 3) := by decide +kernel
theorem dX11_raw_20 : decode cX11_raw 20 = .ok (.aload_n 0, 1) := by decide +kernel
theorem dX11_raw_21 : decode cX11_raw 21 = .ok (.getfield 29, 3) := by decide +kernel
theorem dX11_raw_24 : decode cX11_raw 24 = .ok (.iload_n 1, 1) := by decide +kernel
theorem dX11_raw_25 : decode cX11_raw 25 = .ok (.iload_n 2, 1) := by decide +kernel
theorem dX11_raw_26 : decode cX11_raw 26 = .ok (.invokevirtual 145, 3) := by decide +kernel
theorem dX11_raw_29 : decode cX11_raw 29 = .ok (.ireturn, 1) := by decide +kernel
theorem dX11_tries_0 : decode cX11_tries 0 = .ok (.iload_n 1, 1) := by decide +kernel
theorem dX11_tries_1 : decode cX11_tries 1 = .ok (.iconst 0, 1) := by decide +kernel
theorem dX11_tries_2 : decode cX11_tries 2 = .ok (.aload_n 0, 1) := by decide +kernel
theorem dX11_tries_3 : decode cX11_tries 3 = .ok (.getfield 19, 3) := by decide +kernel
theorem dX11_tries_6 : decode cX11_tries 6 = .ok (.getfield 149, 3) := by decide +kernel
theorem dX11_tries_9 : decode cX11_tries 9 = .ok (.iconst 1, 1) := by decide +kernel
theorem dX11_tries_10 : decode cX11_tries 10 = .ok (.isub, 1) := by decide +kernel
theorem dX11_tries_11 : decode cX11_tries 11 = .ok (.invokestatic 120, 3) := by decide +kernel
theorem dX11_tries_14 : decode cX11_tries 14 = .ok (.ifCond .eq 17, 3) := by decide +kernel
theorem dX11_tries_17 : decode cX11_tries 17 = .ok (.iload_n 2, 1) := by decide +kernel
theorem dX11_tries_18 : decode cX11_tries 18 = .ok (.invokestatic 138, 3) := by decide +kernel
theorem dX11_tries_21 : decode cX11_tries 21 = .ok (.ifCond .eq 10, 3) := by decide +kernel
theorem dX11_tries_24 : decode cX11_tries 24 = .ok (.iload_n 3, 1) := by decide +kernel
theorem dX11_tries_25 : decode cX11_tries 25 = .ok (.invokestatic 138, 3) := by decide +kernel
theorem dX11_tries_28 : decode cX11_tries 28 = .ok (.ifCond .ne 7, 3) := by decide +kernel
theorem dX11_tries_31 : decode cX11_tries 31 = .ok (.ldc2_w 152, 3) := by decide +kernel
theorem dX11_tries_34 : decode cX11_tries 34 = .ok (.lreturn, 1) := by decide +kernel
theorem dX11_tries_35 : decode cX11_tries 35 = .ok (.aload_n 0, 1) := by decide +kernel
theorem dX11_tries_36 : decode cX11_tries 36 = .ok (.getfield 19, 3) := by decide +kernel
theorem dX11_tries_39 : decode cX11_tries 39 = .ok (.iload_n 1, 1) := by decide +kernel
theorem dX11_tries_40 : decode cX11_tries 40 = .ok (.aload_n 0, 1) := by decide +kernel
theorem dX11_tries_41 : decode cX11_tries 41 = .ok (.getfield 29, 3) := by decide +kernel
theorem dX11_tries_44 : decode cX11_tries 44 = .ok (.iload_n 2, 1) := by decide +kernel
theorem dX11_tries_45 : decode cX11_tries 45 = .ok (.iload_n 3, 1) := by decide +kernel
theorem dX11_tries_46 : decode cX11_tries 46 = .ok (.invokevirtual 154, 3) := by decide +kernel
theorem dX11_tries_49 : decode cX11_tries 49 = .ok (.lreturn, 1) := by decide +kernel
theorem dX11_level_0 : decode cX11_level 0 = .ok (.iload_n 1, 1) := by decide +kernel
theorem dX11_level_1 : decode cX11_level 1 = .ok (.invokestatic 138, 3) := by decide +kernel
theorem dX11_level_4 : decode cX11_level 4 = .ok (.ifCond .ne 5, 3) := by decide +kernel
theorem dX11_level_7 : decode cX11_level 7 = .ok (.iconst (-1), 1) := by decide +kernel
theorem dX11_level_8 : decode cX11_level 8 = .ok (.ireturn, 1) := by decide +kernel
theorem dX11_level_9 : decode cX11_level 9 = .ok (.iconst 0, 1) := by decide +kernel
theorem dX11_level_10 : decode cX11_level 10 = .ok (.istore_n 2, 1) := by decide +kernel
theorem dX11_level_11 : decode cX11_level 11 = .ok (.iconst 0, 1) := by decide +kernel
theorem dX11_level_12 : decode cX11_level 12 = .ok (.iload_n 1, 1) := by decide +kernel
theorem dX11_level_13 : decode cX11_level 13 = .ok (.aload_n 0, 1) := by decide +kernel
theorem dX11_level_14 : decode cX11_level 14 = .ok (.getfield 19, 3) := by decide +kernel
theorem dX11_level_17 : decode cX11_level 17 = .ok (.getfield 158, 3) := by decide +kernel
theorem dX11_level_20 : decode cX11_level 20 = .ok (.isub, 1) := by decide +kernel
theorem dX11_level_21 : decode cX11_level 21 = .ok (.invokestatic 161, 3) := by decide +kernel
theorem dX11_level_24 : decode cX11_level 24 = .ok (.istore_n 3, 1) := by decide +kernel
theorem dX11_level_25 : decode cX11_level 25 = .ok (.iload_n 3, 1) := by decide +kernel
theorem dX11_level_26 : decode cX11_level 26 = .ok (.iload_n 1, 1) := by decide +kernel
theorem dX11_level_27 : decode cX11_level 27 = .ok (.if_icmp .gt 19, 3) := by decide +kernel
theorem dX11_level_30 : decode cX11_level 30 = .ok (.iload_n 2, 1) := by decide +kernel
theorem dX11_level_31 : decode cX11_level 31 = .ok (.aload_n 0, 1) := by decide +kernel
theorem dX11_level_32 : decode cX11_level 32 = .ok (.iload_n 3, 1) := by decide +kernel
theorem dX11_level_33 : decode cX11_level 33 = .ok (.invokevirtual 167, 3) := by decide +kernel
theorem dX11_level_36 : decode cX11_level 36 = .ok (.invokestatic 161, 3) := by decide +kernel
theorem dX11_level_39 : decode cX11_level 39 = .ok (.istore_n 2, 1) := by decide +kernel
theorem dX11_level_40 : decode cX11_level 40 = .ok (.iinc 3 1, 3) := by decide +kernel
theorem dX11_level_43 : decode cX11_level 43 = .ok (.goto (-18), 3) := by decide +kernel
theorem dX11_level_46 : decode cX11_level 46 = .ok (.iload_n 2, 1) := by decide +kernel
theorem dX11_level_47 : decode cX11_level 47 = .ok (.ireturn, 1) := by decide +kernel
theorem dX11_land_0 : decode cX11_land 0 = .ok (.aload_n 0, 1) := by decide +kernel
theorem dX11_land_1 : decode cX11_land 1 = .ok (.getfield 40, 3) := by decide +kernel
theorem dX11_land_4 : decode cX11_land 4 = .ok (.iload_n 1, 1) := by decide +kernel
theorem dX11_land_5 : decode cX11_land 5 = .ok (.iload_n 2, 1) := by decide +kernel
theorem dX11_land_6 : decode cX11_land 6 = .ok (.invokevirtual 170, 3) := by decide +kernel
theorem dX11_land_9 : decode cX11_land 9 = .ok (.ifCond .ne 5, 3) := by decide +kernel
theorem dX11_land_12 : decode cX11_land 12 = .ok (.iconst 0, 1) := by decide +kernel
theorem dX11_land_13 : decode cX11_land 13 = .ok (.ireturn, 1) := by decide +kernel
theorem dX11_land_14 : decode cX11_land 14 = .ok (.aload_n 0, 1) := by decide +kernel
theorem dX11_land_15 : decode cX11_land 15 = .ok (.iconst 0, 1) := by decide +kernel
theorem dX11_land_16 : decode cX11_land 16 = .ok (.putfield 174, 3) := by decide +kernel
theorem dX11_land_19 : decode cX11_land 19 = .ok (.aload_n 0, 1) := by decide +kernel
theorem dX11_land_20 : decode cX11_land 20 = .ok (.getfield 64, 3) := by decide +kernel
theorem dX11_land_23 : decode cX11_land 23 = .ok (.invokevirtual 177, 3) := by decide +kernel
theorem dX11_land_26 : decode cX11_land 26 = .ok (.aload_n 0, 1) := by decide +kernel
theorem dX11_land_27 : decode cX11_land 27 = .ok (.invokevirtual 180, 3) := by decide +kernel
theorem dX11_land_30 : decode cX11_land 30 = .ok (.iconst 1, 1) := by decide +kernel
theorem dX11_land_31 : decode cX11_land 31 = .ok (.ireturn, 1) := by decide +kernel
theorem dX11_ground_0 : decode cX11_ground 0 = .ok (.aload_n 0, 1) := by decide +kernel
theorem dX11_ground_1 : decode cX11_ground 1 = .ok (.getfield 40, 3) := by decide +kernel
theorem dX11_ground_4 : decode cX11_ground 4 = .ok (.iload_n 1, 1) := by decide +kernel
theorem dX11_ground_5 : decode cX11_ground 5 = .ok (.iload_n 2, 1) := by decide +kernel
theorem dX11_ground_6 : decode cX11_ground 6 = .ok (.iload_n 3, 1) := by decide +kernel
theorem dX11_ground_7 : decode cX11_ground 7 = .ok (.invokevirtual 183, 3) := by decide +kernel
theorem dX11_ground_10 : decode cX11_ground 10 = .ok (.istore 4, 2) := by decide +kernel
theorem dX11_ground_12 : decode cX11_ground 12 = .ok (.iload 4, 2) := by decide +kernel
theorem dX11_ground_14 : decode cX11_ground 14 = .ok (.ifCond .eq 7, 3) := by decide +kernel
theorem dX11_ground_17 : decode cX11_ground 17 = .ok (.aload_n 0, 1) := by decide +kernel
theorem dX11_ground_18 : decode cX11_ground 18 = .ok (.invokevirtual 180, 3) := by decide +kernel
theorem dX11_ground_21 : decode cX11_ground 21 = .ok (.iload 4, 2) := by decide +kernel
theorem dX11_ground_23 : decode cX11_ground 23 = .ok (.ireturn, 1) := by decide +kernel
theorem dX11_work_0 : decode cX11_work 0 = .ok (.iload_n 3, 1) := by decide +kernel
theorem dX11_work_1 : decode cX11_work 1 = .ok (.ifCond .eq 15, 3) := by decide +kernel
theorem dX11_work_4 : decode cX11_work 4 = .ok (.aload_n 0, 1) := by decide +kernel
theorem dX11_work_5 : decode cX11_work 5 = .ok (.getfield 40, 3) := by decide +kernel
theorem dX11_work_8 : decode cX11_work 8 = .ok (.iload_n 1, 1) := by decide +kernel
theorem dX11_work_9 : decode cX11_work 9 = .ok (.iload_n 2, 1) := by decide +kernel
theorem dX11_work_10 : decode cX11_work 10 = .ok (.invokevirtual 186, 3) := by decide +kernel
theorem dX11_work_13 : decode cX11_work 13 = .ok (.goto 12, 3) := by decide +kernel
theorem dX11_work_16 : decode cX11_work 16 = .ok (.aload_n 0, 1) := by decide +kernel
theorem dX11_work_17 : decode cX11_work 17 = .ok (.getfield 40, 3) := by decide +kernel
theorem dX11_work_20 : decode cX11_work 20 = .ok (.iload_n 1, 1) := by decide +kernel
theorem dX11_work_21 : decode cX11_work 21 = .ok (.iload_n 2, 1) := by decide +kernel
theorem dX11_work_22 : decode cX11_work 22 = .ok (.invokevirtual 190, 3) := by decide +kernel
theorem dX11_work_25 : decode cX11_work 25 = .ok (.istore 4, 2) := by decide +kernel
theorem dX11_work_27 : decode cX11_work 27 = .ok (.iload 4, 2) := by decide +kernel
theorem dX11_work_29 : decode cX11_work 29 = .ok (.ifCond .eq 17, 3) := by decide +kernel
theorem dX11_work_32 : decode cX11_work 32 = .ok (.aload_n 0, 1) := by decide +kernel
theorem dX11_work_33 : decode cX11_work 33 = .ok (.getfield 40, 3) := by decide +kernel
theorem dX11_work_36 : decode cX11_work 36 = .ok (.iload_n 1, 1) := by decide +kernel
theorem dX11_work_37 : decode cX11_work 37 = .ok (.iload_n 2, 1) := by decide +kernel
theorem dX11_work_38 : decode cX11_work 38 = .ok (.iload_n 3, 1) := by decide +kernel
theorem dX11_work_39 : decode cX11_work 39 = .ok (.invokevirtual 193, 3) := by decide +kernel
theorem dX11_work_42 : decode cX11_work 42 = .ok (.aload_n 0, 1) := by decide +kernel
theorem dX11_work_43 : decode cX11_work 43 = .ok (.invokevirtual 180, 3) := by decide +kernel
theorem dX11_work_46 : decode cX11_work 46 = .ok (.iload 4, 2) := by decide +kernel
theorem dX11_work_48 : decode cX11_work 48 = .ok (.ireturn, 1) := by decide +kernel
theorem dX11_world_0 : decode cX11_world 0 = .ok (.aload_n 0, 1) := by decide +kernel
theorem dX11_world_1 : decode cX11_world 1 = .ok (.getfield 174, 3) := by decide +kernel
theorem dX11_world_4 : decode cX11_world 4 = .ok (.iconst 3, 1) := by decide +kernel
theorem dX11_world_5 : decode cX11_world 5 = .ok (.if_icmp .ge 21, 3) := by decide +kernel
theorem dX11_world_8 : decode cX11_world 8 = .ok (.iload_n 1, 1) := by decide +kernel
theorem dX11_world_9 : decode cX11_world 9 = .ok (.invokestatic 138, 3) := by decide +kernel
theorem dX11_world_12 : decode cX11_world 12 = .ok (.ifCond .eq 14, 3) := by decide +kernel
theorem dX11_world_15 : decode cX11_world 15 = .ok (.aload_n 0, 1) := by decide +kernel
theorem dX11_world_16 : decode cX11_world 16 = .ok (.getfield 40, 3) := by decide +kernel
theorem dX11_world_19 : decode cX11_world 19 = .ok (.iload_n 2, 1) := by decide +kernel
theorem dX11_world_20 : decode cX11_world 20 = .ok (.invokevirtual 197, 3) := by decide +kernel
theorem dX11_world_23 : decode cX11_world 23 = .ok (.ifCond .ne 5, 3) := by decide +kernel
theorem dX11_world_26 : decode cX11_world 26 = .ok (.iconst (-1), 1) := by decide +kernel
theorem dX11_world_27 : decode cX11_world 27 = .ok (.ireturn, 1) := by decide +kernel
theorem dX11_world_28 : decode cX11_world 28 = .ok (.iload_n 3, 1) := by decide +kernel
theorem dX11_world_29 : decode cX11_world 29 = .ok (.iconst 1, 1) := by decide +kernel
theorem dX11_world_30 : decode cX11_world 30 = .ok (.bipush 99, 2) := by decide +kernel
theorem dX11_world_32 : decode cX11_world 32 = .ok (.invokestatic 120, 3) := by decide +kernel
theorem dX11_world_35 : decode cX11_world 35 = .ok (.ifCond .eq 25, 3) := by decide +kernel
theorem dX11_world_38 : decode cX11_world 38 = .ok (.iload 4, 2) := by decide +kernel
theorem dX11_world_40 : decode cX11_world 40 = .ok (.iconst 1, 1) := by decide +kernel
theorem dX11_world_41 : decode cX11_world 41 = .ok (.bipush 12, 2) := by decide +kernel
theorem dX11_world_43 : decode cX11_world 43 = .ok (.invokestatic 120, 3) := by decide +kernel
theorem dX11_world_46 : decode cX11_world 46 = .ok (.ifCond .eq 14, 3) := by decide +kernel
theorem dX11_world_49 : decode cX11_world 49 = .ok (.iload 5, 2) := by decide +kernel
theorem dX11_world_51 : decode cX11_world 51 = .ok (.iconst 1, 1) := by decide +kernel
theorem dX11_world_52 : decode cX11_world 52 = .ok (.bipush 99, 2) := by decide +kernel
theorem dX11_world_54 : decode cX11_world 54 = .ok (.invokestatic 120, 3) := by decide +kernel
theorem dX11_world_57 : decode cX11_world 57 = .ok (.ifCond .ne 5, 3) := by decide +kernel
theorem dX11_world_60 : decode cX11_world 60 = .ok (.iconst (-1), 1) := by decide +kernel
theorem dX11_world_61 : decode cX11_world 61 = .ok (.ireturn, 1) := by decide +kernel
theorem dX11_world_62 : decode cX11_world 62 = .ok (.aload_n 0, 1) := by decide +kernel
theorem dX11_world_63 : decode cX11_world 63 = .ok (.getfield 46, 3) := by decide +kernel
theorem dX11_world_66 : decode cX11_world 66 = .ok (.aload_n 0, 1) := by decide +kernel
theorem dX11_world_67 : decode cX11_world 67 = .ok (.getfield 174, 3) := by decide +kernel
theorem dX11_world_70 : decode cX11_world 70 = .ok (.aaload, 1) := by decide +kernel
theorem dX11_world_71 : decode cX11_world 71 = .ok (.astore 6, 2) := by decide +kernel
theorem dX11_world_73 : decode cX11_world 73 = .ok (.aload 6, 2) := by decide +kernel
theorem dX11_world_75 : decode cX11_world 75 = .ok (.iload_n 1, 1) := by decide +kernel
theorem dX11_world_76 : decode cX11_world 76 = .ok (.putfield 200, 3) := by decide +kernel
theorem dX11_world_79 : decode cX11_world 79 = .ok (.aload 6, 2) := by decide +kernel
theorem dX11_world_81 : decode cX11_world 81 = .ok (.iload_n 2, 1) := by decide +kernel
theorem dX11_world_82 : decode cX11_world 82 = .ok (.putfield 203, 3) := by decide +kernel
theorem dX11_world_85 : decode cX11_world 85 = .ok (.aload 6, 2) := by decide +kernel
theorem dX11_world_87 : decode cX11_world 87 = .ok (.iload_n 3, 1) := by decide +kernel
theorem dX11_world_88 : decode cX11_world 88 = .ok (.putfield 206, 3) := by decide +kernel
theorem dX11_world_91 : decode cX11_world 91 = .ok (.aload 6, 2) := by decide +kernel
theorem dX11_world_93 : decode cX11_world 93 = .ok (.iload 4, 2) := by decide +kernel
theorem dX11_world_95 : decode cX11_world 95 = .ok (.putfield 209, 3) := by decide +kernel
theorem dX11_world_98 : decode cX11_world 98 = .ok (.aload 6, 2) := by decide +kernel
theorem dX11_world_100 : decode cX11_world 100 = .ok (.iload 5, 2) := by decide +kernel
theorem dX11_world_102 : decode cX11_world 102 = .ok (.putfield 212, 3) := by decide +kernel
theorem dX11_world_105 : decode cX11_world 105 = .ok (.aload_n 0, 1) := by decide +kernel
theorem dX11_world_106 : decode cX11_world 106 = .ok (.dup, 1) := by decide +kernel
theorem dX11_world_107 : decode cX11_world 107 = .ok (.getfield 174, 3) := by decide +kernel
theorem dX11_world_110 : decode cX11_world 110 = .ok (.iconst 1, 1) := by decide +kernel
theorem dX11_world_111 : decode cX11_world 111 = .ok (.iadd, 1) := by decide +kernel
theorem dX11_world_112 : decode cX11_world 112 = .ok (.putfield 174, 3) := by decide +kernel
theorem dX11_world_115 : decode cX11_world 115 = .ok (.aload_n 0, 1) := by decide +kernel
theorem dX11_world_116 : decode cX11_world 116 = .ok (.invokevirtual 180, 3) := by decide +kernel
theorem dX11_world_119 : decode cX11_world 119 = .ok (.aload_n 0, 1) := by decide +kernel
theorem dX11_world_120 : decode cX11_world 120 = .ok (.getfield 174, 3) := by decide +kernel
theorem dX11_world_123 : decode cX11_world 123 = .ok (.iconst 1, 1) := by decide +kernel
theorem dX11_world_124 : decode cX11_world 124 = .ok (.isub, 1) := by decide +kernel
theorem dX11_world_125 : decode cX11_world 125 = .ok (.ireturn, 1) := by decide +kernel
theorem dX11_lava_0 : decode cX11_lava 0 = .ok (.aload_n 0, 1) := by decide +kernel
theorem dX11_lava_1 : decode cX11_lava 1 = .ok (.iload_n 1, 1) := by decide +kernel
theorem dX11_lava_2 : decode cX11_lava 2 = .ok (.invokevirtual 215, 3) := by decide +kernel
theorem dX11_lava_5 : decode cX11_lava 5 = .ok (.ifCond .eq 34, 3) := by decide +kernel
theorem dX11_lava_8 : decode cX11_lava 8 = .ok (.iload_n 2, 1) := by decide +kernel
theorem dX11_lava_9 : decode cX11_lava 9 = .ok (.iconst 0, 1) := by decide +kernel
theorem dX11_lava_10 : decode cX11_lava 10 = .ok (.bipush 12, 2) := by decide +kernel
theorem dX11_lava_12 : decode cX11_lava 12 = .ok (.invokestatic 120, 3) := by decide +kernel
theorem dX11_lava_15 : decode cX11_lava 15 = .ok (.ifCond .eq 24, 3) := by decide +kernel
theorem dX11_lava_18 : decode cX11_lava 18 = .ok (.aload_n 0, 1) := by decide +kernel
theorem dX11_lava_19 : decode cX11_lava 19 = .ok (.getfield 40, 3) := by decide +kernel
theorem dX11_lava_22 : decode cX11_lava 22 = .ok (.iload_n 3, 1) := by decide +kernel
theorem dX11_lava_23 : decode cX11_lava 23 = .ok (.invokevirtual 197, 3) := by decide +kernel
theorem dX11_lava_26 : decode cX11_lava 26 = .ok (.ifCond .eq 13, 3) := by decide +kernel
theorem dX11_lava_29 : decode cX11_lava 29 = .ok (.iload 4, 2) := by decide +kernel
theorem dX11_lava_31 : decode cX11_lava 31 = .ok (.iconst 0, 1) := by decide +kernel
theorem dX11_lava_32 : decode cX11_lava 32 = .ok (.iconst 1, 1) := by decide +kernel
theorem dX11_lava_33 : decode cX11_lava 33 = .ok (.invokestatic 120, 3) := by decide +kernel
theorem dX11_lava_36 : decode cX11_lava 36 = .ok (.ifCond .ne 7, 3) := by decide +kernel
theorem dX11_lava_39 : decode cX11_lava 39 = .ok (.sipush (-1000), 3) := by decide +kernel
theorem dX11_lava_42 : decode cX11_lava 42 = .ok (.ireturn, 1) := by decide +kernel
theorem dX11_lava_43 : decode cX11_lava 43 = .ok (.aload_n 0, 1) := by decide +kernel
theorem dX11_lava_44 : decode cX11_lava 44 = .ok (.iload_n 1, 1) := by decide +kernel
theorem dX11_lava_45 : decode cX11_lava 45 = .ok (.invokevirtual 218, 3) := by decide +kernel
theorem dX11_lava_48 : decode cX11_lava 48 = .ok (.astore 5, 2) := by decide +kernel
theorem dX11_lava_50 : decode cX11_lava 50 = .ok (.iload 4, 2) := by decide +kernel
theorem dX11_lava_52 : decode cX11_lava 52 = .ok (.ifCond .ne 13, 3) := by decide +kernel
theorem dX11_lava_55 : decode cX11_lava 55 = .ok (.aload 5, 2) := by decide +kernel
theorem dX11_lava_57 : decode cX11_lava 57 = .ok (.iload_n 2, 1) := by decide +kernel
theorem dX11_lava_58 : decode cX11_lava 58 = .ok (.iload_n 3, 1) := by decide +kernel
theorem dX11_lava_59 : decode cX11_lava 59 = .ok (.invokevirtual 222, 3) := by decide +kernel
theorem dX11_lava_62 : decode cX11_lava 62 = .ok (.goto 10, 3) := by decide +kernel
theorem dX11_lava_65 : decode cX11_lava 65 = .ok (.aload 5, 2) := by decide +kernel
theorem dX11_lava_67 : decode cX11_lava 67 = .ok (.iload_n 2, 1) := by decide +kernel
theorem dX11_lava_68 : decode cX11_lava 68 = .ok (.iload_n 3, 1) := by decide +kernel
theorem dX11_lava_69 : decode cX11_lava 69 = .ok (.invokevirtual 225, 3) := by decide +kernel
theorem dX11_lava_72 : decode cX11_lava 72 = .ok (.ireturn, 1) := by decide +kernel
theorem dX11_reached_0 : decode cX11_reached 0 = .ok (.aload_n 0, 1) := by decide +kernel
theorem dX11_reached_1 : decode cX11_reached 1 = .ok (.iload_n 1, 1) := by decide +kernel
theorem dX11_reached_2 : decode cX11_reached 2 = .ok (.invokevirtual 215, 3) := by decide +kernel
theorem dX11_reached_5 : decode cX11_reached 5 = .ok (.ifCond .eq 14, 3) := by decide +kernel
theorem dX11_reached_8 : decode cX11_reached 8 = .ok (.aload_n 0, 1) := by decide +kernel
theorem dX11_reached_9 : decode cX11_reached 9 = .ok (.getfield 40, 3) := by decide +kernel
theorem dX11_reached_12 : decode cX11_reached 12 = .ok (.iload_n 2, 1) := by decide +kernel
theorem dX11_reached_13 : decode cX11_reached 13 = .ok (.invokevirtual 197, 3) := by decide +kernel
theorem dX11_reached_16 : decode cX11_reached 16 = .ok (.ifCond .ne 5, 3) := by decide +kernel
theorem dX11_reached_19 : decode cX11_reached 19 = .ok (.iconst (-1), 1) := by decide +kernel
theorem dX11_reached_20 : decode cX11_reached 20 = .ok (.ireturn, 1) := by decide +kernel
theorem dX11_reached_21 : decode cX11_reached 21 = .ok (.aload_n 0, 1) := by decide +kernel
theorem dX11_reached_22 : decode cX11_reached 22 = .ok (.iload_n 1, 1) := by decide +kernel
theorem dX11_reached_23 : decode cX11_reached 23 = .ok (.invokevirtual 218, 3) := by decide +kernel
theorem dX11_reached_26 : decode cX11_reached 26 = .ok (.getfield 228, 3) := by decide +kernel
theorem dX11_reached_29 : decode cX11_reached 29 = .ok (.iload_n 2, 1) := by decide +kernel
theorem dX11_reached_30 : decode cX11_reached 30 = .ok (.iaload, 1) := by decide +kernel
theorem dX11_reached_31 : decode cX11_reached 31 = .ok (.ireturn, 1) := by decide +kernel
theorem dX11_town_0 : decode cX11_town 0 = .ok (.aload_n 0, 1) := by decide +kernel
theorem dX11_town_1 : decode cX11_town 1 = .ok (.getfield 40, 3) := by decide +kernel
theorem dX11_town_4 : decode cX11_town 4 = .ok (.iload_n 1, 1) := by decide +kernel
theorem dX11_town_5 : decode cX11_town 5 = .ok (.invokevirtual 197, 3) := by decide +kernel
theorem dX11_town_8 : decode cX11_town 8 = .ok (.ifCond .eq 33, 3) := by decide +kernel
theorem dX11_town_11 : decode cX11_town 11 = .ok (.iload_n 2, 1) := by decide +kernel
theorem dX11_town_12 : decode cX11_town 12 = .ok (.iconst 1, 1) := by decide +kernel
theorem dX11_town_13 : decode cX11_town 13 = .ok (.sipush 999, 3) := by decide +kernel
theorem dX11_town_16 : decode cX11_town 16 = .ok (.invokestatic 120, 3) := by decide +kernel
theorem dX11_town_19 : decode cX11_town 19 = .ok (.ifCond .eq 22, 3) := by decide +kernel
theorem dX11_town_22 : decode cX11_town 22 = .ok (.iload_n 3, 1) := by decide +kernel
theorem dX11_town_23 : decode cX11_town 23 = .ok (.iconst 1, 1) := by decide +kernel
theorem dX11_town_24 : decode cX11_town 24 = .ok (.iconst 4, 1) := by decide +kernel
theorem dX11_town_25 : decode cX11_town 25 = .ok (.invokestatic 120, 3) := by decide +kernel
theorem dX11_town_28 : decode cX11_town 28 = .ok (.ifCond .eq 13, 3) := by decide +kernel
theorem dX11_town_31 : decode cX11_town 31 = .ok (.iload 4, 2) := by decide +kernel
theorem dX11_town_33 : decode cX11_town 33 = .ok (.iconst 0, 1) := by decide +kernel
theorem dX11_town_34 : decode cX11_town 34 = .ok (.iconst 5, 1) := by decide +kernel
theorem dX11_town_35 : decode cX11_town 35 = .ok (.invokestatic 120, 3) := by decide +kernel
theorem dX11_town_38 : decode cX11_town 38 = .ok (.ifCond .ne 5, 3) := by decide +kernel
theorem dX11_town_41 : decode cX11_town 41 = .ok (.iconst (-1), 1) := by decide +kernel
theorem dX11_town_42 : decode cX11_town 42 = .ok (.ireturn, 1) := by decide +kernel
theorem dX11_town_43 : decode cX11_town 43 = .ok (.aload_n 0, 1) := by decide +kernel
theorem dX11_town_44 : decode cX11_town 44 = .ok (.invokevirtual 231, 3) := by decide +kernel
theorem dX11_town_47 : decode cX11_town 47 = .ok (.aload_n 0, 1) := by decide +kernel
theorem dX11_town_48 : decode cX11_town 48 = .ok (.getfield 64, 3) := by decide +kernel
theorem dX11_town_51 : decode cX11_town 51 = .ok (.iload_n 1, 1) := by decide +kernel
theorem dX11_town_52 : decode cX11_town 52 = .ok (.iload_n 2, 1) := by decide +kernel
theorem dX11_town_53 : decode cX11_town 53 = .ok (.iload_n 3, 1) := by decide +kernel
theorem dX11_town_54 : decode cX11_town 54 = .ok (.iload 4, 2) := by decide +kernel
theorem dX11_town_56 : decode cX11_town 56 = .ok (.invokevirtual 234, 3) := by decide +kernel
theorem dX11_town_59 : decode cX11_town 59 = .ok (.ireturn, 1) := by decide +kernel
theorem dX11_shelter_0 : decode cX11_shelter 0 = .ok (.iload_n 1, 1) := by decide +kernel
theorem dX11_shelter_1 : decode cX11_shelter 1 = .ok (.iconst 0, 1) := by decide +kernel
theorem dX11_shelter_2 : decode cX11_shelter 2 = .ok (.sipush 9999, 3) := by decide +kernel
theorem dX11_shelter_5 : decode cX11_shelter 5 = .ok (.invokestatic 120, 3) := by decide +kernel
theorem dX11_shelter_8 : decode cX11_shelter 8 = .ok (.ifCond .ne 5, 3) := by decide +kernel
theorem dX11_shelter_11 : decode cX11_shelter 11 = .ok (.iconst (-1), 1) := by decide +kernel
theorem dX11_shelter_12 : decode cX11_shelter 12 = .ok (.ireturn, 1) := by decide +kernel
theorem dX11_shelter_13 : decode cX11_shelter 13 = .ok (.aload_n 0, 1) := by decide +kernel
theorem dX11_shelter_14 : decode cX11_shelter 14 = .ok (.invokevirtual 231, 3) := by decide +kernel
theorem dX11_shelter_17 : decode cX11_shelter 17 = .ok (.aload_n 0, 1) := by decide +kernel
theorem dX11_shelter_18 : decode cX11_shelter 18 = .ok (.getfield 64, 3) := by decide +kernel
theorem dX11_shelter_21 : decode cX11_shelter 21 = .ok (.iload_n 1, 1) := by decide +kernel
theorem dX11_shelter_22 : decode cX11_shelter 22 = .ok (.invokevirtual 238, 3) := by decide +kernel
theorem dX11_shelter_25 : decode cX11_shelter 25 = .ok (.ireturn, 1) := by decide +kernel
theorem dX11_road_0 : decode cX11_road 0 = .ok (.aload_n 0, 1) := by decide +kernel
theorem dX11_road_1 : decode cX11_road 1 = .ok (.getfield 64, 3) := by decide +kernel
theorem dX11_road_4 : decode cX11_road 4 = .ok (.iload_n 1, 1) := by decide +kernel
theorem dX11_road_5 : decode cX11_road 5 = .ok (.invokevirtual 241, 3) := by decide +kernel
theorem dX11_road_8 : decode cX11_road 8 = .ok (.ifCond .eq 37, 3) := by decide +kernel
theorem dX11_road_11 : decode cX11_road 11 = .ok (.aload_n 0, 1) := by decide +kernel
theorem dX11_road_12 : decode cX11_road 12 = .ok (.getfield 64, 3) := by decide +kernel
theorem dX11_road_15 : decode cX11_road 15 = .ok (.iload_n 2, 1) := by decide +kernel
theorem dX11_road_16 : decode cX11_road 16 = .ok (.invokevirtual 241, 3) := by decide +kernel
theorem dX11_road_19 : decode cX11_road 19 = .ok (.ifCond .eq 26, 3) := by decide +kernel
theorem dX11_road_22 : decode cX11_road 22 = .ok (.iload_n 1, 1) := by decide +kernel
theorem dX11_road_23 : decode cX11_road 23 = .ok (.iload_n 2, 1) := by decide +kernel
theorem dX11_road_24 : decode cX11_road 24 = .ok (.if_icmp .eq 21, 3) := by decide +kernel
theorem dX11_road_27 : decode cX11_road 27 = .ok (.iload 6, 2) := by decide +kernel
theorem dX11_road_29 : decode cX11_road 29 = .ok (.iconst (-1), 1) := by decide +kernel
theorem dX11_road_30 : decode cX11_road 30 = .ok (.if_icmp .eq 17, 3) := by decide +kernel
theorem dX11_road_33 : decode cX11_road 33 = .ok (.aload_n 0, 1) := by decide +kernel
theorem dX11_road_34 : decode cX11_road 34 = .ok (.getfield 40, 3) := by decide +kernel
theorem dX11_road_37 : decode cX11_road 37 = .ok (.iload 6, 2) := by decide +kernel
theorem dX11_road_39 : decode cX11_road 39 = .ok (.invokevirtual 197, 3) := by decide +kernel
theorem dX11_road_42 : decode cX11_road 42 = .ok (.ifCond .ne 5, 3) := by decide +kernel
theorem dX11_road_45 : decode cX11_road 45 = .ok (.iconst (-1), 1) := by decide +kernel
theorem dX11_road_46 : decode cX11_road 46 = .ok (.ireturn, 1) := by decide +kernel
theorem dX11_road_47 : decode cX11_road 47 = .ok (.iload_n 3, 1) := by decide +kernel
theorem dX11_road_48 : decode cX11_road 48 = .ok (.iconst 1, 1) := by decide +kernel
theorem dX11_road_49 : decode cX11_road 49 = .ok (.iconst 5, 1) := by decide +kernel
theorem dX11_road_50 : decode cX11_road 50 = .ok (.invokestatic 120, 3) := by decide +kernel
theorem dX11_road_53 : decode cX11_road 53 = .ok (.ifCond .eq 26, 3) := by decide +kernel
theorem dX11_road_56 : decode cX11_road 56 = .ok (.iload 4, 2) := by decide +kernel
theorem dX11_road_58 : decode cX11_road 58 = .ok (.iconst 1, 1) := by decide +kernel
theorem dX11_road_59 : decode cX11_road 59 = .ok (.sipush 999, 3) := by decide +kernel
theorem dX11_road_62 : decode cX11_road 62 = .ok (.invokestatic 120, 3) := by decide +kernel
theorem dX11_road_65 : decode cX11_road 65 = .ok (.ifCond .eq 14, 3) := by decide +kernel
theorem dX11_road_68 : decode cX11_road 68 = .ok (.iload 5, 2) := by decide +kernel
theorem dX11_road_70 : decode cX11_road 70 = .ok (.iconst 1, 1) := by decide +kernel
theorem dX11_road_71 : decode cX11_road 71 = .ok (.bipush 6, 2) := by decide +kernel
theorem dX11_road_73 : decode cX11_road 73 = .ok (.invokestatic 120, 3) := by decide +kernel
theorem dX11_road_76 : decode cX11_road 76 = .ok (.ifCond .ne 5, 3) := by decide +kernel
theorem dX11_road_79 : decode cX11_road 79 = .ok (.iconst (-1), 1) := by decide +kernel
theorem dX11_road_80 : decode cX11_road 80 = .ok (.ireturn, 1) := by decide +kernel
theorem dX11_road_81 : decode cX11_road 81 = .ok (.aload_n 0, 1) := by decide +kernel
theorem dX11_road_82 : decode cX11_road 82 = .ok (.invokevirtual 231, 3) := by decide +kernel
theorem dX11_road_85 : decode cX11_road 85 = .ok (.aload_n 0, 1) := by decide +kernel
theorem dX11_road_86 : decode cX11_road 86 = .ok (.getfield 64, 3) := by decide +kernel
theorem dX11_road_89 : decode cX11_road 89 = .ok (.iload_n 1, 1) := by decide +kernel
theorem dX11_road_90 : decode cX11_road 90 = .ok (.iload_n 2, 1) := by decide +kernel
theorem dX11_road_91 : decode cX11_road 91 = .ok (.iload_n 3, 1) := by decide +kernel
theorem dX11_road_92 : decode cX11_road 92 = .ok (.iload 4, 2) := by decide +kernel
theorem dX11_road_94 : decode cX11_road 94 = .ok (.iload 5, 2) := by decide +kernel
theorem dX11_road_96 : decode cX11_road 96 = .ok (.iload 6, 2) := by decide +kernel
theorem dX11_road_98 : decode cX11_road 98 = .ok (.invokevirtual 242, 3) := by decide +kernel
theorem dX11_road_101 : decode cX11_road 101 = .ok (.ireturn, 1) := by decide +kernel
theorem dX11_warned_0 : decode cX11_warned 0 = .ok (.aload_n 0, 1) := by decide +kernel
theorem dX11_warned_1 : decode cX11_warned 1 = .ok (.getfield 64, 3) := by decide +kernel
theorem dX11_warned_4 : decode cX11_warned 4 = .ok (.iload_n 1, 1) := by decide +kernel
theorem dX11_warned_5 : decode cX11_warned 5 = .ok (.invokevirtual 246, 3) := by decide +kernel
theorem dX11_warned_8 : decode cX11_warned 8 = .ok (.ifCond .ne 5, 3) := by decide +kernel
theorem dX11_warned_11 : decode cX11_warned 11 = .ok (.iconst (-1), 1) := by decide +kernel
theorem dX11_warned_12 : decode cX11_warned 12 = .ok (.ireturn, 1) := by decide +kernel
theorem dX11_warned_13 : decode cX11_warned 13 = .ok (.aload_n 0, 1) := by decide +kernel
theorem dX11_warned_14 : decode cX11_warned 14 = .ok (.invokevirtual 249, 3) := by decide +kernel
theorem dX11_warned_17 : decode cX11_warned 17 = .ok (.aload_n 0, 1) := by decide +kernel
theorem dX11_warned_18 : decode cX11_warned 18 = .ok (.getfield 64, 3) := by decide +kernel
theorem dX11_warned_21 : decode cX11_warned 21 = .ok (.getfield 252, 3) := by decide +kernel
theorem dX11_warned_24 : decode cX11_warned 24 = .ok (.iload_n 1, 1) := by decide +kernel
theorem dX11_warned_25 : decode cX11_warned 25 = .ok (.iaload, 1) := by decide +kernel
theorem dX11_warned_26 : decode cX11_warned 26 = .ok (.ireturn, 1) := by decide +kernel
theorem dX11_ledOut_0 : decode cX11_ledOut 0 = .ok (.aload_n 0, 1) := by decide +kernel
theorem dX11_ledOut_1 : decode cX11_ledOut 1 = .ok (.iload_n 1, 1) := by decide +kernel
theorem dX11_ledOut_2 : decode cX11_ledOut 2 = .ok (.invokevirtual 215, 3) := by decide +kernel
theorem dX11_ledOut_5 : decode cX11_ledOut 5 = .ok (.ifCond .eq 12, 3) := by decide +kernel
theorem dX11_ledOut_8 : decode cX11_ledOut 8 = .ok (.iload_n 2, 1) := by decide +kernel
theorem dX11_ledOut_9 : decode cX11_ledOut 9 = .ok (.iconst 0, 1) := by decide +kernel
theorem dX11_ledOut_10 : decode cX11_ledOut 10 = .ok (.iconst 2, 1) := by decide +kernel
theorem dX11_ledOut_11 : decode cX11_ledOut 11 = .ok (.invokestatic 120, 3) := by decide +kernel
theorem dX11_ledOut_14 : decode cX11_ledOut 14 = .ok (.ifCond .ne 5, 3) := by decide +kernel
theorem dX11_ledOut_17 : decode cX11_ledOut 17 = .ok (.iconst (-1), 1) := by decide +kernel
theorem dX11_ledOut_18 : decode cX11_ledOut 18 = .ok (.ireturn, 1) := by decide +kernel
theorem dX11_ledOut_19 : decode cX11_ledOut 19 = .ok (.iload_n 2, 1) := by decide +kernel
theorem dX11_ledOut_20 : decode cX11_ledOut 20 = .ok (.iconst 2, 1) := by decide +kernel
theorem dX11_ledOut_21 : decode cX11_ledOut 21 = .ok (.if_icmp .ne 12, 3) := by decide +kernel
theorem dX11_ledOut_24 : decode cX11_ledOut 24 = .ok (.aload_n 0, 1) := by decide +kernel
theorem dX11_ledOut_25 : decode cX11_ledOut 25 = .ok (.iload_n 1, 1) := by decide +kernel
theorem dX11_ledOut_26 : decode cX11_ledOut 26 = .ok (.invokevirtual 218, 3) := by decide +kernel
theorem dX11_ledOut_29 : decode cX11_ledOut 29 = .ok (.getfield 255, 3) := by decide +kernel
theorem dX11_ledOut_32 : decode cX11_ledOut 32 = .ok (.ireturn, 1) := by decide +kernel
theorem dX11_ledOut_33 : decode cX11_ledOut 33 = .ok (.aload_n 0, 1) := by decide +kernel
theorem dX11_ledOut_34 : decode cX11_ledOut 34 = .ok (.invokevirtual 249, 3) := by decide +kernel
theorem dX11_ledOut_37 : decode cX11_ledOut 37 = .ok (.aload_n 0, 1) := by decide +kernel
theorem dX11_ledOut_38 : decode cX11_ledOut 38 = .ok (.iload_n 1, 1) := by decide +kernel
theorem dX11_ledOut_39 : decode cX11_ledOut 39 = .ok (.invokevirtual 258, 3) := by decide +kernel
theorem dX11_ledOut_42 : decode cX11_ledOut 42 = .ok (.getfield 261, 3) := by decide +kernel
theorem dX11_ledOut_45 : decode cX11_ledOut 45 = .ok (.istore_n 3, 1) := by decide +kernel
theorem dX11_ledOut_46 : decode cX11_ledOut 46 = .ok (.iload_n 2, 1) := by decide +kernel
theorem dX11_ledOut_47 : decode cX11_ledOut 47 = .ok (.ifCond .ne 7, 3) := by decide +kernel
theorem dX11_ledOut_50 : decode cX11_ledOut 50 = .ok (.iload_n 3, 1) := by decide +kernel
theorem dX11_ledOut_51 : decode cX11_ledOut 51 = .ok (.goto 12, 3) := by decide +kernel
theorem dX11_ledOut_54 : decode cX11_ledOut 54 = .ok (.aload_n 0, 1) := by decide +kernel
theorem dX11_ledOut_55 : decode cX11_ledOut 55 = .ok (.getfield 64, 3) := by decide +kernel
theorem dX11_ledOut_58 : decode cX11_ledOut 58 = .ok (.invokevirtual 264, 3) := by decide +kernel
theorem dX11_ledOut_61 : decode cX11_ledOut 61 = .ok (.iload_n 3, 1) := by decide +kernel
theorem dX11_ledOut_62 : decode cX11_ledOut 62 = .ok (.isub, 1) := by decide +kernel
theorem dX11_ledOut_63 : decode cX11_ledOut 63 = .ok (.ireturn, 1) := by decide +kernel
theorem dX11_cut_0 : decode cX11_cut 0 = .ok (.aload_n 0, 1) := by decide +kernel
theorem dX11_cut_1 : decode cX11_cut 1 = .ok (.iload_n 1, 1) := by decide +kernel
theorem dX11_cut_2 : decode cX11_cut 2 = .ok (.invokevirtual 215, 3) := by decide +kernel
theorem dX11_cut_5 : decode cX11_cut 5 = .ok (.ifCond .eq 14, 3) := by decide +kernel
theorem dX11_cut_8 : decode cX11_cut 8 = .ok (.aload_n 0, 1) := by decide +kernel
theorem dX11_cut_9 : decode cX11_cut 9 = .ok (.getfield 64, 3) := by decide +kernel
theorem dX11_cut_12 : decode cX11_cut 12 = .ok (.iload_n 2, 1) := by decide +kernel
theorem dX11_cut_13 : decode cX11_cut 13 = .ok (.invokevirtual 241, 3) := by decide +kernel
theorem dX11_cut_16 : decode cX11_cut 16 = .ok (.ifCond .ne 5, 3) := by decide +kernel
theorem dX11_cut_19 : decode cX11_cut 19 = .ok (.iconst (-1), 1) := by decide +kernel
theorem dX11_cut_20 : decode cX11_cut 20 = .ok (.ireturn, 1) := by decide +kernel
theorem dX11_cut_21 : decode cX11_cut 21 = .ok (.aload_n 0, 1) := by decide +kernel
theorem dX11_cut_22 : decode cX11_cut 22 = .ok (.getfield 46, 3) := by decide +kernel
theorem dX11_cut_25 : decode cX11_cut 25 = .ok (.iload_n 1, 1) := by decide +kernel
theorem dX11_cut_26 : decode cX11_cut 26 = .ok (.aaload, 1) := by decide +kernel
theorem dX11_cut_27 : decode cX11_cut 27 = .ok (.astore 4, 2) := by decide +kernel
theorem dX11_cut_29 : decode cX11_cut 29 = .ok (.iload_n 3, 1) := by decide +kernel
theorem dX11_cut_30 : decode cX11_cut 30 = .ok (.aload 4, 2) := by decide +kernel
theorem dX11_cut_32 : decode cX11_cut 32 = .ok (.invokevirtual 268, 3) := by decide +kernel
theorem dX11_cut_35 : decode cX11_cut 35 = .ok (.aload 4, 2) := by decide +kernel
theorem dX11_cut_37 : decode cX11_cut 37 = .ok (.invokevirtual 271, 3) := by decide +kernel
theorem dX11_cut_40 : decode cX11_cut 40 = .ok (.invokestatic 120, 3) := by decide +kernel
theorem dX11_cut_43 : decode cX11_cut 43 = .ok (.ifCond .ne 5, 3) := by decide +kernel
theorem dX11_cut_46 : decode cX11_cut 46 = .ok (.iconst (-1), 1) := by decide +kernel
theorem dX11_cut_47 : decode cX11_cut 47 = .ok (.ireturn, 1) := by decide +kernel
theorem dX11_cut_48 : decode cX11_cut 48 = .ok (.aload_n 0, 1) := by decide +kernel
theorem dX11_cut_49 : decode cX11_cut 49 = .ok (.invokevirtual 249, 3) := by decide +kernel
theorem dX11_cut_52 : decode cX11_cut 52 = .ok (.aload_n 0, 1) := by decide +kernel
theorem dX11_cut_53 : decode cX11_cut 53 = .ok (.iload_n 1, 1) := by decide +kernel
theorem dX11_cut_54 : decode cX11_cut 54 = .ok (.invokevirtual 258, 3) := by decide +kernel
theorem dX11_cut_57 : decode cX11_cut 57 = .ok (.getfield 274, 3) := by decide +kernel
theorem dX11_cut_60 : decode cX11_cut 60 = .ok (.iload_n 2, 1) := by decide +kernel
theorem dX11_cut_61 : decode cX11_cut 61 = .ok (.iload_n 3, 1) := by decide +kernel
theorem dX11_cut_62 : decode cX11_cut 62 = .ok (.aload 4, 2) := by decide +kernel
theorem dX11_cut_64 : decode cX11_cut 64 = .ok (.invokevirtual 268, 3) := by decide +kernel
theorem dX11_cut_67 : decode cX11_cut 67 = .ok (.isub, 1) := by decide +kernel
theorem dX11_cut_68 : decode cX11_cut 68 = .ok (.invokestatic 277, 3) := by decide +kernel
theorem dX11_cut_71 : decode cX11_cut 71 = .ok (.iaload, 1) := by decide +kernel
theorem dX11_cut_72 : decode cX11_cut 72 = .ok (.ireturn, 1) := by decide +kernel
theorem dX11_cost_0 : decode cX11_cost 0 = .ok (.iload_n 1, 1) := by decide +kernel
theorem dX11_cost_1 : decode cX11_cost 1 = .ok (.iconst 0, 1) := by decide +kernel
theorem dX11_cost_2 : decode cX11_cost 2 = .ok (.iconst 1, 1) := by decide +kernel
theorem dX11_cost_3 : decode cX11_cost 3 = .ok (.invokestatic 120, 3) := by decide +kernel
theorem dX11_cost_6 : decode cX11_cost 6 = .ok (.ifCond .ne 5, 3) := by decide +kernel
theorem dX11_cost_9 : decode cX11_cost 9 = .ok (.iconst (-1), 1) := by decide +kernel
theorem dX11_cost_10 : decode cX11_cost 10 = .ok (.ireturn, 1) := by decide +kernel
theorem dX11_cost_11 : decode cX11_cost 11 = .ok (.aload_n 0, 1) := by decide +kernel
theorem dX11_cost_12 : decode cX11_cost 12 = .ok (.invokevirtual 249, 3) := by decide +kernel
theorem dX11_cost_15 : decode cX11_cost 15 = .ok (.iload_n 1, 1) := by decide +kernel
theorem dX11_cost_16 : decode cX11_cost 16 = .ok (.ifCond .ne 10, 3) := by decide +kernel
theorem dX11_cost_19 : decode cX11_cost 19 = .ok (.aload_n 0, 1) := by decide +kernel
theorem dX11_cost_20 : decode cX11_cost 20 = .ok (.invokevirtual 280, 3) := by decide +kernel
theorem dX11_cost_23 : decode cX11_cost 23 = .ok (.goto 7, 3) := by decide +kernel
theorem dX11_cost_26 : decode cX11_cost 26 = .ok (.aload_n 0, 1) := by decide +kernel
theorem dX11_cost_27 : decode cX11_cost 27 = .ok (.invokevirtual 283, 3) := by decide +kernel
theorem dX11_cost_30 : decode cX11_cost 30 = .ok (.ireturn, 1) := by decide +kernel
theorem dX11_candidate_0 : decode cX11_candidate 0 = .ok (.aload_n 0, 1) := by decide +kernel
theorem dX11_candidate_1 : decode cX11_candidate 1 = .ok (.getfield 40, 3) := by decide +kernel
theorem dX11_candidate_4 : decode cX11_candidate 4 = .ok (.iload_n 1, 1) := by decide +kernel
theorem dX11_candidate_5 : decode cX11_candidate 5 = .ok (.invokevirtual 286, 3) := by decide +kernel
theorem dX11_candidate_8 : decode cX11_candidate 8 = .ok (.istore_n 2, 1) := by decide +kernel
theorem dX11_candidate_9 : decode cX11_candidate 9 = .ok (.iload_n 2, 1) := by decide +kernel
theorem dX11_candidate_10 : decode cX11_candidate 10 = .ok (.iconst (-1), 1) := by decide +kernel
theorem dX11_candidate_11 : decode cX11_candidate 11 = .ok (.if_icmp .eq 7, 3) := by decide +kernel
theorem dX11_candidate_14 : decode cX11_candidate 14 = .ok (.aload_n 0, 1) := by decide +kernel
theorem dX11_candidate_15 : decode cX11_candidate 15 = .ok (.invokevirtual 289, 3) := by decide +kernel
theorem dX11_candidate_18 : decode cX11_candidate 18 = .ok (.iload_n 2, 1) := by decide +kernel
theorem dX11_candidate_19 : decode cX11_candidate 19 = .ok (.ireturn, 1) := by decide +kernel
theorem dX11_best_0 : decode cX11_best 0 = .ok (.iload_n 1, 1) := by decide +kernel
theorem dX11_best_1 : decode cX11_best 1 = .ok (.iconst 0, 1) := by decide +kernel
theorem dX11_best_2 : decode cX11_best 2 = .ok (.iconst 2, 1) := by decide +kernel
theorem dX11_best_3 : decode cX11_best 3 = .ok (.invokestatic 120, 3) := by decide +kernel
theorem dX11_best_6 : decode cX11_best 6 = .ok (.ifCond .eq 12, 3) := by decide +kernel
theorem dX11_best_9 : decode cX11_best 9 = .ok (.iload_n 2, 1) := by decide +kernel
theorem dX11_best_10 : decode cX11_best 10 = .ok (.iconst 0, 1) := by decide +kernel
theorem dX11_best_11 : decode cX11_best 11 = .ok (.iconst 4, 1) := by decide +kernel
theorem dX11_best_12 : decode cX11_best 12 = .ok (.invokestatic 120, 3) := by decide +kernel
theorem dX11_best_15 : decode cX11_best 15 = .ok (.ifCond .ne 5, 3) := by decide +kernel
theorem dX11_best_18 : decode cX11_best 18 = .ok (.iconst (-1), 1) := by decide +kernel
theorem dX11_best_19 : decode cX11_best 19 = .ok (.ireturn, 1) := by decide +kernel
theorem dX11_best_20 : decode cX11_best 20 = .ok (.aload_n 0, 1) := by decide +kernel
theorem dX11_best_21 : decode cX11_best 21 = .ok (.getfield 77, 3) := by decide +kernel
theorem dX11_best_24 : decode cX11_best 24 = .ok (.iload_n 1, 1) := by decide +kernel
theorem dX11_best_25 : decode cX11_best 25 = .ok (.aaload, 1) := by decide +kernel
theorem dX11_best_26 : decode cX11_best 26 = .ok (.astore_n 3, 1) := by decide +kernel
theorem dX11_best_27 : decode cX11_best 27 = .ok (.aload_n 3, 1) := by decide +kernel
theorem dX11_best_28 : decode cX11_best 28 = .ok (.getfield 292, 3) := by decide +kernel
theorem dX11_best_31 : decode cX11_best 31 = .ok (.ifCond .ne 25, 3) := by decide +kernel
theorem dX11_best_34 : decode cX11_best 34 = .ok (.aload_n 0, 1) := by decide +kernel
theorem dX11_best_35 : decode cX11_best 35 = .ok (.invokevirtual 249, 3) := by decide +kernel
theorem dX11_best_38 : decode cX11_best 38 = .ok (.aload_n 3, 1) := by decide +kernel
theorem dX11_best_39 : decode cX11_best 39 = .ok (.aload_n 0, 1) := by decide +kernel
theorem dX11_best_40 : decode cX11_best 40 = .ok (.invokevirtual 280, 3) := by decide +kernel
theorem dX11_best_43 : decode cX11_best 43 = .ok (.aload_n 0, 1) := by decide +kernel
theorem dX11_best_44 : decode cX11_best 44 = .ok (.invokevirtual 283, 3) := by decide +kernel
theorem dX11_best_47 : decode cX11_best 47 = .ok (.invokevirtual 295, 3) := by decide +kernel
theorem dX11_best_50 : decode cX11_best 50 = .ok (.aload_n 0, 1) := by decide +kernel
theorem dX11_best_51 : decode cX11_best 51 = .ok (.aload_n 3, 1) := by decide +kernel
theorem dX11_best_52 : decode cX11_best 52 = .ok (.iload_n 1, 1) := by decide +kernel
theorem dX11_best_53 : decode cX11_best 53 = .ok (.invokevirtual 298, 3) := by decide +kernel
theorem dX11_best_56 : decode cX11_best 56 = .ok (.aload_n 3, 1) := by decide +kernel
theorem dX11_best_57 : decode cX11_best 57 = .ok (.iload_n 2, 1) := by decide +kernel
theorem dX11_best_58 : decode cX11_best 58 = .ok (.invokevirtual 302, 3) := by decide +kernel
theorem dX11_best_61 : decode cX11_best 61 = .ok (.ireturn, 1) := by decide +kernel
theorem dX11_wind_0 : decode cX11_wind 0 = .ok (.iload_n 1, 1) := by decide +kernel
theorem dX11_wind_1 : decode cX11_wind 1 = .ok (.iconst 0, 1) := by decide +kernel
theorem dX11_wind_2 : decode cX11_wind 2 = .ok (.bipush 123, 2) := by decide +kernel
theorem dX11_wind_4 : decode cX11_wind 4 = .ok (.invokestatic 120, 3) := by decide +kernel
theorem dX11_wind_7 : decode cX11_wind 7 = .ok (.ifCond .eq 23, 3) := by decide +kernel
theorem dX11_wind_10 : decode cX11_wind 10 = .ok (.iload_n 2, 1) := by decide +kernel
theorem dX11_wind_11 : decode cX11_wind 11 = .ok (.iconst 0, 1) := by decide +kernel
theorem dX11_wind_12 : decode cX11_wind 12 = .ok (.bipush 7, 2) := by decide +kernel
theorem dX11_wind_14 : decode cX11_wind 14 = .ok (.invokestatic 120, 3) := by decide +kernel
theorem dX11_wind_17 : decode cX11_wind 17 = .ok (.ifCond .eq 13, 3) := by decide +kernel
theorem dX11_wind_20 : decode cX11_wind 20 = .ok (.iload_n 3, 1) := by decide +kernel
theorem dX11_wind_21 : decode cX11_wind 21 = .ok (.iconst 0, 1) := by decide +kernel
theorem dX11_wind_22 : decode cX11_wind 22 = .ok (.bipush 7, 2) := by decide +kernel
theorem dX11_wind_24 : decode cX11_wind 24 = .ok (.invokestatic 120, 3) := by decide +kernel
theorem dX11_wind_27 : decode cX11_wind 27 = .ok (.ifCond .ne 5, 3) := by decide +kernel
theorem dX11_wind_30 : decode cX11_wind 30 = .ok (.iconst 0, 1) := by decide +kernel
theorem dX11_wind_31 : decode cX11_wind 31 = .ok (.ireturn, 1) := by decide +kernel
theorem dX11_wind_32 : decode cX11_wind 32 = .ok (.aload_n 0, 1) := by decide +kernel
theorem dX11_wind_33 : decode cX11_wind 33 = .ok (.getfield 81, 3) := by decide +kernel
theorem dX11_wind_36 : decode cX11_wind 36 = .ok (.iload_n 1, 1) := by decide +kernel
theorem dX11_wind_37 : decode cX11_wind 37 = .ok (.iload_n 2, 1) := by decide +kernel
theorem dX11_wind_38 : decode cX11_wind 38 = .ok (.iastore, 1) := by decide +kernel
theorem dX11_wind_39 : decode cX11_wind 39 = .ok (.aload_n 0, 1) := by decide +kernel
theorem dX11_wind_40 : decode cX11_wind 40 = .ok (.getfield 84, 3) := by decide +kernel
theorem dX11_wind_43 : decode cX11_wind 43 = .ok (.iload_n 1, 1) := by decide +kernel
theorem dX11_wind_44 : decode cX11_wind 44 = .ok (.iload_n 3, 1) := by decide +kernel
theorem dX11_wind_45 : decode cX11_wind 45 = .ok (.iastore, 1) := by decide +kernel
theorem dX11_wind_46 : decode cX11_wind 46 = .ok (.iconst 1, 1) := by decide +kernel
theorem dX11_wind_47 : decode cX11_wind 47 = .ok (.ireturn, 1) := by decide +kernel
theorem dX11_ash_0 : decode cX11_ash 0 = .ok (.aload_n 0, 1) := by decide +kernel
theorem dX11_ash_1 : decode cX11_ash 1 = .ok (.iload_n 1, 1) := by decide +kernel
theorem dX11_ash_2 : decode cX11_ash 2 = .ok (.invokevirtual 215, 3) := by decide +kernel
theorem dX11_ash_5 : decode cX11_ash 5 = .ok (.ifCond .eq 14, 3) := by decide +kernel
theorem dX11_ash_8 : decode cX11_ash 8 = .ok (.aload_n 0, 1) := by decide +kernel
theorem dX11_ash_9 : decode cX11_ash 9 = .ok (.getfield 40, 3) := by decide +kernel
theorem dX11_ash_12 : decode cX11_ash 12 = .ok (.iload_n 2, 1) := by decide +kernel
theorem dX11_ash_13 : decode cX11_ash 13 = .ok (.invokevirtual 197, 3) := by decide +kernel
theorem dX11_ash_16 : decode cX11_ash 16 = .ok (.ifCond .ne 5, 3) := by decide +kernel
theorem dX11_ash_19 : decode cX11_ash 19 = .ok (.iconst (-1), 1) := by decide +kernel
theorem dX11_ash_20 : decode cX11_ash 20 = .ok (.ireturn, 1) := by decide +kernel
theorem dX11_ash_21 : decode cX11_ash 21 = .ok (.aload_n 0, 1) := by decide +kernel
theorem dX11_ash_22 : decode cX11_ash 22 = .ok (.getfield 46, 3) := by decide +kernel
theorem dX11_ash_25 : decode cX11_ash 25 = .ok (.iload_n 1, 1) := by decide +kernel
theorem dX11_ash_26 : decode cX11_ash 26 = .ok (.aaload, 1) := by decide +kernel
theorem dX11_ash_27 : decode cX11_ash 27 = .ok (.astore_n 3, 1) := by decide +kernel
theorem dX11_ash_28 : decode cX11_ash 28 = .ok (.aload_n 0, 1) := by decide +kernel
theorem dX11_ash_29 : decode cX11_ash 29 = .ok (.getfield 40, 3) := by decide +kernel
theorem dX11_ash_32 : decode cX11_ash 32 = .ok (.iload_n 2, 1) := by decide +kernel
theorem dX11_ash_33 : decode cX11_ash 33 = .ok (.invokevirtual 305, 3) := by decide +kernel
theorem dX11_ash_36 : decode cX11_ash 36 = .ok (.aload_n 0, 1) := by decide +kernel
theorem dX11_ash_37 : decode cX11_ash 37 = .ok (.getfield 40, 3) := by decide +kernel
theorem dX11_ash_40 : decode cX11_ash 40 = .ok (.aload_n 3, 1) := by decide +kernel
theorem dX11_ash_41 : decode cX11_ash 41 = .ok (.getfield 203, 3) := by decide +kernel
theorem dX11_ash_44 : decode cX11_ash 44 = .ok (.invokevirtual 305, 3) := by decide +kernel
theorem dX11_ash_47 : decode cX11_ash 47 = .ok (.isub, 1) := by decide +kernel
theorem dX11_ash_48 : decode cX11_ash 48 = .ok (.istore 4, 2) := by decide +kernel
theorem dX11_ash_50 : decode cX11_ash 50 = .ok (.aload_n 0, 1) := by decide +kernel
theorem dX11_ash_51 : decode cX11_ash 51 = .ok (.getfield 40, 3) := by decide +kernel
theorem dX11_ash_54 : decode cX11_ash 54 = .ok (.iload_n 2, 1) := by decide +kernel
theorem dX11_ash_55 : decode cX11_ash 55 = .ok (.invokevirtual 308, 3) := by decide +kernel
theorem dX11_ash_58 : decode cX11_ash 58 = .ok (.aload_n 0, 1) := by decide +kernel
theorem dX11_ash_59 : decode cX11_ash 59 = .ok (.getfield 40, 3) := by decide +kernel
theorem dX11_ash_62 : decode cX11_ash 62 = .ok (.aload_n 3, 1) := by decide +kernel
theorem dX11_ash_63 : decode cX11_ash 63 = .ok (.getfield 203, 3) := by decide +kernel
theorem dX11_ash_66 : decode cX11_ash 66 = .ok (.invokevirtual 308, 3) := by decide +kernel
theorem dX11_ash_69 : decode cX11_ash 69 = .ok (.isub, 1) := by decide +kernel
theorem dX11_ash_70 : decode cX11_ash 70 = .ok (.istore 5, 2) := by decide +kernel
theorem dX11_ash_72 : decode cX11_ash 72 = .ok (.aload_n 3, 1) := by decide +kernel
theorem dX11_ash_73 : decode cX11_ash 73 = .ok (.getfield 200, 3) := by decide +kernel
theorem dX11_ash_76 : decode cX11_ash 76 = .ok (.aload_n 3, 1) := by decide +kernel
theorem dX11_ash_77 : decode cX11_ash 77 = .ok (.getfield 209, 3) := by decide +kernel
theorem dX11_ash_80 : decode cX11_ash 80 = .ok (.iadd, 1) := by decide +kernel
theorem dX11_ash_81 : decode cX11_ash 81 = .ok (.bipush 124, 2) := by decide +kernel
theorem dX11_ash_83 : decode cX11_ash 83 = .ok (.invokestatic 311, 3) := by decide +kernel
theorem dX11_ash_86 : decode cX11_ash 86 = .ok (.istore 6, 2) := by decide +kernel
theorem dX11_ash_88 : decode cX11_ash 88 = .ok (.iconst 0, 1) := by decide +kernel
theorem dX11_ash_89 : decode cX11_ash 89 = .ok (.istore 7, 2) := by decide +kernel
theorem dX11_ash_91 : decode cX11_ash 91 = .ok (.aload_n 3, 1) := by decide +kernel
theorem dX11_ash_92 : decode cX11_ash 92 = .ok (.getfield 200, 3) := by decide +kernel
theorem dX11_ash_95 : decode cX11_ash 95 = .ok (.istore 8, 2) := by decide +kernel
theorem dX11_ash_97 : decode cX11_ash 97 = .ok (.iload 8, 2) := by decide +kernel
theorem dX11_ash_99 : decode cX11_ash 99 = .ok (.iload 6, 2) := by decide +kernel
theorem dX11_ash_101 : decode cX11_ash 101 = .ok (.if_icmp .ge 55, 3) := by decide +kernel
theorem dX11_ash_104 : decode cX11_ash 104 = .ok (.iload 4, 2) := by decide +kernel
theorem dX11_ash_106 : decode cX11_ash 106 = .ok (.iload 5, 2) := by decide +kernel
theorem dX11_ash_108 : decode cX11_ash 108 = .ok (.aload_n 0, 1) := by decide +kernel
theorem dX11_ash_109 : decode cX11_ash 109 = .ok (.getfield 81, 3) := by decide +kernel
theorem dX11_ash_112 : decode cX11_ash 112 = .ok (.iload 8, 2) := by decide +kernel
theorem dX11_ash_114 : decode cX11_ash 114 = .ok (.iaload, 1) := by decide +kernel
theorem dX11_ash_115 : decode cX11_ash 115 = .ok (.invokestatic 314, 3) := by decide +kernel
theorem dX11_ash_118 : decode cX11_ash 118 = .ok (.istore 9, 2) := by decide +kernel
theorem dX11_ash_120 : decode cX11_ash 120 = .ok (.iload 9, 2) := by decide +kernel
theorem dX11_ash_122 : decode cX11_ash 122 = .ok (.iconst (-1), 1) := by decide +kernel
theorem dX11_ash_123 : decode cX11_ash 123 = .ok (.if_icmp .eq 27, 3) := by decide +kernel
theorem dX11_ash_126 : decode cX11_ash 126 = .ok (.iload 9, 2) := by decide +kernel
theorem dX11_ash_128 : decode cX11_ash 128 = .ok (.aload_n 0, 1) := by decide +kernel
theorem dX11_ash_129 : decode cX11_ash 129 = .ok (.getfield 84, 3) := by decide +kernel
theorem dX11_ash_132 : decode cX11_ash 132 = .ok (.iload 8, 2) := by decide +kernel
theorem dX11_ash_134 : decode cX11_ash 134 = .ok (.iaload, 1) := by decide +kernel
theorem dX11_ash_135 : decode cX11_ash 135 = .ok (.if_icmp .gt 15, 3) := by decide +kernel
theorem dX11_ash_138 : decode cX11_ash 138 = .ok (.iload 7, 2) := by decide +kernel
theorem dX11_ash_140 : decode cX11_ash 140 = .ok (.aload_n 3, 1) := by decide +kernel
theorem dX11_ash_141 : decode cX11_ash 141 = .ok (.getfield 206, 3) := by decide +kernel
theorem dX11_ash_144 : decode cX11_ash 144 = .ok (.iload 9, 2) := by decide +kernel
theorem dX11_ash_146 : decode cX11_ash 146 = .ok (.ishr, 1) := by decide +kernel
theorem dX11_ash_147 : decode cX11_ash 147 = .ok (.iadd, 1) := by decide +kernel
theorem dX11_ash_148 : decode cX11_ash 148 = .ok (.istore 7, 2) := by decide +kernel
theorem dX11_ash_150 : decode cX11_ash 150 = .ok (.iinc 8 1, 3) := by decide +kernel
theorem dX11_ash_153 : decode cX11_ash 153 = .ok (.goto (-56), 3) := by decide +kernel
theorem dX11_ash_156 : decode cX11_ash 156 = .ok (.iload 7, 2) := by decide +kernel
theorem dX11_ash_158 : decode cX11_ash 158 = .ok (.ireturn, 1) := by decide +kernel
theorem dX11_look_0 : decode cX11_look 0 = .ok (.aload_n 0, 1) := by decide +kernel
theorem dX11_look_1 : decode cX11_look 1 = .ok (.getfield 40, 3) := by decide +kernel
theorem dX11_look_4 : decode cX11_look 4 = .ok (.iload_n 1, 1) := by decide +kernel
theorem dX11_look_5 : decode cX11_look 5 = .ok (.invokevirtual 197, 3) := by decide +kernel
theorem dX11_look_8 : decode cX11_look 8 = .ok (.ifCond .ne 14, 3) := by decide +kernel
theorem dX11_look_11 : decode cX11_look 11 = .ok (.new 317, 3) := by decide +kernel
theorem dX11_look_14 : decode cX11_look 14 = .ok (.dup, 1) := by decide +kernel
theorem dX11_look_15 : decode cX11_look 15 = .ok (.ldc_w 319, 3) := by decide +kernel
theorem dX11_look_18 : decode cX11_look 18 = .ok (.invokespecial 321, 3) := by decide +kernel
theorem dX11_look_21 : decode cX11_look 21 = .ok (.athrow, 1) := by decide +kernel
theorem dX11_look_22 : decode cX11_look 22 = .ok (.iload_n 2, 1) := by decide +kernel
theorem dX11_look_23 : decode cX11_look 23 = .ok (.tableswitch 55 0 2 #[25, 35, 45], 25) := by decide +kernel
theorem dX11_look_48 : decode cX11_look 48 = .ok (.aload_n 0, 1) := by decide +kernel
theorem dX11_look_49 : decode cX11_look 49 = .ok (.getfield 40, 3) := by decide +kernel
theorem dX11_look_52 : decode cX11_look 52 = .ok (.getfield 324, 3) := by decide +kernel
theorem dX11_look_55 : decode cX11_look 55 = .ok (.iload_n 1, 1) := by decide +kernel
theorem dX11_look_56 : decode cX11_look 56 = .ok (.iaload, 1) := by decide +kernel
theorem dX11_look_57 : decode cX11_look 57 = .ok (.ireturn, 1) := by decide +kernel
theorem dX11_look_58 : decode cX11_look 58 = .ok (.aload_n 0, 1) := by decide +kernel
theorem dX11_look_59 : decode cX11_look 59 = .ok (.getfield 40, 3) := by decide +kernel
theorem dX11_look_62 : decode cX11_look 62 = .ok (.getfield 327, 3) := by decide +kernel
theorem dX11_look_65 : decode cX11_look 65 = .ok (.iload_n 1, 1) := by decide +kernel
theorem dX11_look_66 : decode cX11_look 66 = .ok (.iaload, 1) := by decide +kernel
theorem dX11_look_67 : decode cX11_look 67 = .ok (.ireturn, 1) := by decide +kernel
theorem dX11_look_68 : decode cX11_look 68 = .ok (.aload_n 0, 1) := by decide +kernel
theorem dX11_look_69 : decode cX11_look 69 = .ok (.getfield 40, 3) := by decide +kernel
theorem dX11_look_72 : decode cX11_look 72 = .ok (.getfield 330, 3) := by decide +kernel
theorem dX11_look_75 : decode cX11_look 75 = .ok (.iload_n 1, 1) := by decide +kernel
theorem dX11_look_76 : decode cX11_look 76 = .ok (.iaload, 1) := by decide +kernel
theorem dX11_look_77 : decode cX11_look 77 = .ok (.ireturn, 1) := by decide +kernel
theorem dX11_look_78 : decode cX11_look 78 = .ok (.new 333, 3) := by decide +kernel
theorem dX11_look_81 : decode cX11_look 81 = .ok (.dup, 1) := by decide +kernel
theorem dX11_look_82 : decode cX11_look 82 = .ok (.ldc_w 335, 3) := by decide +kernel
theorem dX11_look_85 : decode cX11_look 85 = .ok (.invokespecial 337, 3) := by decide +kernel
theorem dX11_look_88 : decode cX11_look 88 = .ok (.athrow, 1) := by decide +kernel
theorem dX11_count_0 : decode cX11_count 0 = .ok (.iload_n 1, 1) := by decide +kernel
theorem dX11_count_1 : decode cX11_count 1 = .ok (.tableswitch 141 0 10 #[59, 64, 72, 80, 88, 96, 104, 109, 117, 125, 133], 59) := by decide +kernel
theorem dX11_count_60 : decode cX11_count 60 = .ok (.aload_n 0, 1) := by decide +kernel
theorem dX11_count_61 : decode cX11_count 61 = .ok (.getfield 124, 3) := by decide +kernel
theorem dX11_count_64 : decode cX11_count 64 = .ok (.ireturn, 1) := by decide +kernel
theorem dX11_count_65 : decode cX11_count 65 = .ok (.aload_n 0, 1) := by decide +kernel
theorem dX11_count_66 : decode cX11_count 66 = .ok (.getfield 29, 3) := by decide +kernel
theorem dX11_count_69 : decode cX11_count 69 = .ok (.getfield 338, 3) := by decide +kernel
theorem dX11_count_72 : decode cX11_count 72 = .ok (.ireturn, 1) := by decide +kernel
theorem dX11_count_73 : decode cX11_count 73 = .ok (.aload_n 0, 1) := by decide +kernel
theorem dX11_count_74 : decode cX11_count 74 = .ok (.getfield 29, 3) := by decide +kernel
theorem dX11_count_77 : decode cX11_count 77 = .ok (.getfield 341, 3) := by decide +kernel
theorem dX11_count_80 : decode cX11_count 80 = .ok (.ireturn, 1) := by decide +kernel
theorem dX11_count_81 : decode cX11_count 81 = .ok (.aload_n 0, 1) := by decide +kernel
theorem dX11_count_82 : decode cX11_count 82 = .ok (.getfield 19, 3) := by decide +kernel
theorem dX11_count_85 : decode cX11_count 85 = .ok (.getfield 149, 3) := by decide +kernel
theorem dX11_count_88 : decode cX11_count 88 = .ok (.ireturn, 1) := by decide +kernel
theorem dX11_count_89 : decode cX11_count 89 = .ok (.aload_n 0, 1) := by decide +kernel
theorem dX11_count_90 : decode cX11_count 90 = .ok (.getfield 19, 3) := by decide +kernel
theorem dX11_count_93 : decode cX11_count 93 = .ok (.getfield 158, 3) := by decide +kernel
theorem dX11_count_96 : decode cX11_count 96 = .ok (.ireturn, 1) := by decide +kernel
theorem dX11_count_97 : decode cX11_count 97 = .ok (.aload_n 0, 1) := by decide +kernel
theorem dX11_count_98 : decode cX11_count 98 = .ok (.getfield 19, 3) := by decide +kernel
theorem dX11_count_101 : decode cX11_count 101 = .ok (.getfield 344, 3) := by decide +kernel
theorem dX11_count_104 : decode cX11_count 104 = .ok (.ireturn, 1) := by decide +kernel
theorem dX11_count_105 : decode cX11_count 105 = .ok (.aload_n 0, 1) := by decide +kernel
theorem dX11_count_106 : decode cX11_count 106 = .ok (.getfield 174, 3) := by decide +kernel
theorem dX11_count_109 : decode cX11_count 109 = .ok (.ireturn, 1) := by decide +kernel
theorem dX11_count_110 : decode cX11_count 110 = .ok (.aload_n 0, 1) := by decide +kernel
theorem dX11_count_111 : decode cX11_count 111 = .ok (.getfield 64, 3) := by decide +kernel
theorem dX11_count_114 : decode cX11_count 114 = .ok (.getfield 347, 3) := by decide +kernel
theorem dX11_count_117 : decode cX11_count 117 = .ok (.ireturn, 1) := by decide +kernel
theorem dX11_count_118 : decode cX11_count 118 = .ok (.aload_n 0, 1) := by decide +kernel
theorem dX11_count_119 : decode cX11_count 119 = .ok (.getfield 64, 3) := by decide +kernel
theorem dX11_count_122 : decode cX11_count 122 = .ok (.getfield 350, 3) := by decide +kernel
theorem dX11_count_125 : decode cX11_count 125 = .ok (.ireturn, 1) := by decide +kernel
theorem dX11_count_126 : decode cX11_count 126 = .ok (.aload_n 0, 1) := by decide +kernel
theorem dX11_count_127 : decode cX11_count 127 = .ok (.getfield 40, 3) := by decide +kernel
theorem dX11_count_130 : decode cX11_count 130 = .ok (.getfield 353, 3) := by decide +kernel
theorem dX11_count_133 : decode cX11_count 133 = .ok (.ireturn, 1) := by decide +kernel
theorem dX11_count_134 : decode cX11_count 134 = .ok (.aload_n 0, 1) := by decide +kernel
theorem dX11_count_135 : decode cX11_count 135 = .ok (.getfield 40, 3) := by decide +kernel
theorem dX11_count_138 : decode cX11_count 138 = .ok (.getfield 356, 3) := by decide +kernel
theorem dX11_count_141 : decode cX11_count 141 = .ok (.ireturn, 1) := by decide +kernel
theorem dX11_count_142 : decode cX11_count 142 = .ok (.iconst (-1), 1) := by decide +kernel
theorem dX11_count_143 : decode cX11_count 143 = .ok (.ireturn, 1) := by decide +kernel
theorem dX11_within_0 : decode cX11_within 0 = .ok (.iload_n 0, 1) := by decide +kernel
theorem dX11_within_1 : decode cX11_within 1 = .ok (.iload_n 1, 1) := by decide +kernel
theorem dX11_within_2 : decode cX11_within 2 = .ok (.if_icmp .lt 12, 3) := by decide +kernel
theorem dX11_within_5 : decode cX11_within 5 = .ok (.iload_n 0, 1) := by decide +kernel
theorem dX11_within_6 : decode cX11_within 6 = .ok (.iload_n 2, 1) := by decide +kernel
theorem dX11_within_7 : decode cX11_within 7 = .ok (.if_icmp .gt 7, 3) := by decide +kernel
theorem dX11_within_10 : decode cX11_within 10 = .ok (.iconst 1, 1) := by decide +kernel
theorem dX11_within_11 : decode cX11_within 11 = .ok (.goto 4, 3) := by decide +kernel
theorem dX11_within_14 : decode cX11_within 14 = .ok (.iconst 0, 1) := by decide +kernel
theorem dX11_within_15 : decode cX11_within 15 = .ok (.ireturn, 1) := by decide +kernel
theorem dX11_isHour_0 : decode cX11_isHour 0 = .ok (.iload_n 0, 1) := by decide +kernel
theorem dX11_isHour_1 : decode cX11_isHour 1 = .ok (.iconst 0, 1) := by decide +kernel
theorem dX11_isHour_2 : decode cX11_isHour 2 = .ok (.bipush 99, 2) := by decide +kernel
theorem dX11_isHour_4 : decode cX11_isHour 4 = .ok (.invokestatic 120, 3) := by decide +kernel
theorem dX11_isHour_7 : decode cX11_isHour 7 = .ok (.ireturn, 1) := by decide +kernel
theorem dX11_isWorld_0 : decode cX11_isWorld 0 = .ok (.iload_n 1, 1) := by decide +kernel
theorem dX11_isWorld_1 : decode cX11_isWorld 1 = .ok (.iconst 0, 1) := by decide +kernel
theorem dX11_isWorld_2 : decode cX11_isWorld 2 = .ok (.aload_n 0, 1) := by decide +kernel
theorem dX11_isWorld_3 : decode cX11_isWorld 3 = .ok (.getfield 174, 3) := by decide +kernel
theorem dX11_isWorld_6 : decode cX11_isWorld 6 = .ok (.iconst 1, 1) := by decide +kernel
theorem dX11_isWorld_7 : decode cX11_isWorld 7 = .ok (.isub, 1) := by decide +kernel
theorem dX11_isWorld_8 : decode cX11_isWorld 8 = .ok (.invokestatic 120, 3) := by decide +kernel
theorem dX11_isWorld_11 : decode cX11_isWorld 11 = .ok (.ireturn, 1) := by decide +kernel
theorem dX11_stepsDownwind_0 : decode cX11_stepsDownwind 0 = .ok (.iload_n 0, 1) := by decide +kernel
theorem dX11_stepsDownwind_1 : decode cX11_stepsDownwind 1 = .ok (.invokestatic 359, 3) := by decide +kernel
theorem dX11_stepsDownwind_4 : decode cX11_stepsDownwind 4 = .ok (.iload_n 1, 1) := by decide +kernel
theorem dX11_stepsDownwind_5 : decode cX11_stepsDownwind 5 = .ok (.invokestatic 359, 3) := by decide +kernel
theorem dX11_stepsDownwind_8 : decode cX11_stepsDownwind 8 = .ok (.invokestatic 161, 3) := by decide +kernel
theorem dX11_stepsDownwind_11 : decode cX11_stepsDownwind 11 = .ok (.istore_n 3, 1) := by decide +kernel
theorem dX11_stepsDownwind_12 : decode cX11_stepsDownwind 12 = .ok (.iload_n 2, 1) := by decide +kernel
theorem dX11_stepsDownwind_13 : decode cX11_stepsDownwind 13 = .ok (.iconst 0, 1) := by decide +kernel
theorem dX11_stepsDownwind_14 : decode cX11_stepsDownwind 14 = .ok (.bipush 7, 2) := by decide +kernel
theorem dX11_stepsDownwind_16 : decode cX11_stepsDownwind 16 = .ok (.invokestatic 120, 3) := by decide +kernel
theorem dX11_stepsDownwind_19 : decode cX11_stepsDownwind 19 = .ok (.ifCond .eq 25, 3) := by decide +kernel
theorem dX11_stepsDownwind_22 : decode cX11_stepsDownwind 22 = .ok (.getstatic 362, 3) := by decide +kernel
theorem dX11_stepsDownwind_25 : decode cX11_stepsDownwind 25 = .ok (.iload_n 2, 1) := by decide +kernel
theorem dX11_stepsDownwind_26 : decode cX11_stepsDownwind 26 = .ok (.iaload, 1) := by decide +kernel
theorem dX11_stepsDownwind_27 : decode cX11_stepsDownwind 27 = .ok (.iload_n 3, 1) := by decide +kernel
theorem dX11_stepsDownwind_28 : decode cX11_stepsDownwind 28 = .ok (.imul, 1) := by decide +kernel
theorem dX11_stepsDownwind_29 : decode cX11_stepsDownwind 29 = .ok (.iload_n 0, 1) := by decide +kernel
theorem dX11_stepsDownwind_30 : decode cX11_stepsDownwind 30 = .ok (.if_icmp .ne 14, 3) := by decide +kernel
theorem dX11_stepsDownwind_33 : decode cX11_stepsDownwind 33 = .ok (.getstatic 365, 3) := by decide +kernel
theorem dX11_stepsDownwind_36 : decode cX11_stepsDownwind 36 = .ok (.iload_n 2, 1) := by decide +kernel
theorem dX11_stepsDownwind_37 : decode cX11_stepsDownwind 37 = .ok (.iaload, 1) := by decide +kernel
theorem dX11_stepsDownwind_38 : decode cX11_stepsDownwind 38 = .ok (.iload_n 3, 1) := by decide +kernel
theorem dX11_stepsDownwind_39 : decode cX11_stepsDownwind 39 = .ok (.imul, 1) := by decide +kernel
theorem dX11_stepsDownwind_40 : decode cX11_stepsDownwind 40 = .ok (.iload_n 1, 1) := by decide +kernel
theorem dX11_stepsDownwind_41 : decode cX11_stepsDownwind 41 = .ok (.if_icmp .eq 5, 3) := by decide +kernel
theorem dX11_stepsDownwind_44 : decode cX11_stepsDownwind 44 = .ok (.iconst (-1), 1) := by decide +kernel
theorem dX11_stepsDownwind_45 : decode cX11_stepsDownwind 45 = .ok (.ireturn, 1) := by decide +kernel
theorem dX11_stepsDownwind_46 : decode cX11_stepsDownwind 46 = .ok (.iload_n 3, 1) := by decide +kernel
theorem dX11_stepsDownwind_47 : decode cX11_stepsDownwind 47 = .ok (.ireturn, 1) := by decide +kernel
theorem dX11_rawInOwnHour_0 : decode cX11_rawInOwnHour 0 = .ok (.aload_n 0, 1) := by decide +kernel
theorem dX11_rawInOwnHour_1 : decode cX11_rawInOwnHour 1 = .ok (.getfield 368, 3) := by decide +kernel
theorem dX11_rawInOwnHour_4 : decode cX11_rawInOwnHour 4 = .ok (.istore_n 2, 1) := by decide +kernel
theorem dX11_rawInOwnHour_5 : decode cX11_rawInOwnHour 5 = .ok (.iload_n 2, 1) := by decide +kernel
theorem dX11_rawInOwnHour_6 : decode cX11_rawInOwnHour 6 = .ok (.iload_n 1, 1) := by decide +kernel
theorem dX11_rawInOwnHour_7 : decode cX11_rawInOwnHour 7 = .ok (.if_icmp .gt 35, 3) := by decide +kernel
theorem dX11_rawInOwnHour_10 : decode cX11_rawInOwnHour 10 = .ok (.aload_n 0, 1) := by decide +kernel
theorem dX11_rawInOwnHour_11 : decode cX11_rawInOwnHour 11 = .ok (.getfield 33, 3) := by decide +kernel
theorem dX11_rawInOwnHour_14 : decode cX11_rawInOwnHour 14 = .ok (.iload_n 2, 1) := by decide +kernel
theorem dX11_rawInOwnHour_15 : decode cX11_rawInOwnHour 15 = .ok (.aload_n 0, 1) := by decide +kernel
theorem dX11_rawInOwnHour_16 : decode cX11_rawInOwnHour 16 = .ok (.getfield 19, 3) := by decide +kernel
theorem dX11_rawInOwnHour_19 : decode cX11_rawInOwnHour 19 = .ok (.aload_n 0, 1) := by decide +kernel
theorem dX11_rawInOwnHour_20 : decode cX11_rawInOwnHour 20 = .ok (.getfield 29, 3) := by decide +kernel
theorem dX11_rawInOwnHour_23 : decode cX11_rawInOwnHour 23 = .ok (.iload_n 2, 1) := by decide +kernel
theorem dX11_rawInOwnHour_24 : decode cX11_rawInOwnHour 24 = .ok (.iload_n 2, 1) := by decide +kernel
theorem dX11_rawInOwnHour_25 : decode cX11_rawInOwnHour 25 = .ok (.invokevirtual 145, 3) := by decide +kernel
theorem dX11_rawInOwnHour_28 : decode cX11_rawInOwnHour 28 = .ok (.iastore, 1) := by decide +kernel
theorem dX11_rawInOwnHour_29 : decode cX11_rawInOwnHour 29 = .ok (.aload_n 0, 1) := by decide +kernel
theorem dX11_rawInOwnHour_30 : decode cX11_rawInOwnHour 30 = .ok (.iload_n 2, 1) := by decide +kernel
theorem dX11_rawInOwnHour_31 : decode cX11_rawInOwnHour 31 = .ok (.iconst 1, 1) := by decide +kernel
theorem dX11_rawInOwnHour_32 : decode cX11_rawInOwnHour 32 = .ok (.iadd, 1) := by decide +kernel
theorem dX11_rawInOwnHour_33 : decode cX11_rawInOwnHour 33 = .ok (.putfield 368, 3) := by decide +kernel
theorem dX11_rawInOwnHour_36 : decode cX11_rawInOwnHour 36 = .ok (.iinc 2 1, 3) := by decide +kernel
theorem dX11_rawInOwnHour_39 : decode cX11_rawInOwnHour 39 = .ok (.goto (-34), 3) := by decide +kernel
theorem dX11_rawInOwnHour_42 : decode cX11_rawInOwnHour 42 = .ok (.aload_n 0, 1) := by decide +kernel
theorem dX11_rawInOwnHour_43 : decode cX11_rawInOwnHour 43 = .ok (.getfield 33, 3) := by decide +kernel
theorem dX11_rawInOwnHour_46 : decode cX11_rawInOwnHour 46 = .ok (.iload_n 1, 1) := by decide +kernel
theorem dX11_rawInOwnHour_47 : decode cX11_rawInOwnHour 47 = .ok (.iaload, 1) := by decide +kernel
theorem dX11_rawInOwnHour_48 : decode cX11_rawInOwnHour 48 = .ok (.ireturn, 1) := by decide +kernel
theorem dX11_noteWarnings_0 : decode cX11_noteWarnings 0 = .ok (.aload_n 0, 1) := by decide +kernel
theorem dX11_noteWarnings_1 : decode cX11_noteWarnings 1 = .ok (.getfield 371, 3) := by decide +kernel
theorem dX11_noteWarnings_4 : decode cX11_noteWarnings 4 = .ok (.ifCond .eq 4, 3) := by decide +kernel
theorem dX11_noteWarnings_7 : decode cX11_noteWarnings 7 = .ok (.return_, 1) := by decide +kernel
theorem dX11_noteWarnings_8 : decode cX11_noteWarnings 8 = .ok (.aload_n 0, 1) := by decide +kernel
theorem dX11_noteWarnings_9 : decode cX11_noteWarnings 9 = .ok (.getfield 64, 3) := by decide +kernel
theorem dX11_noteWarnings_12 : decode cX11_noteWarnings 12 = .ok (.invokevirtual 374, 3) := by decide +kernel
theorem dX11_noteWarnings_15 : decode cX11_noteWarnings 15 = .ok (.iconst 0, 1) := by decide +kernel
theorem dX11_noteWarnings_16 : decode cX11_noteWarnings 16 = .ok (.istore_n 1, 1) := by decide +kernel
theorem dX11_noteWarnings_17 : decode cX11_noteWarnings 17 = .ok (.iload_n 1, 1) := by decide +kernel
theorem dX11_noteWarnings_18 : decode cX11_noteWarnings 18 = .ok (.bipush 100, 2) := by decide +kernel
theorem dX11_noteWarnings_20 : decode cX11_noteWarnings 20 = .ok (.if_icmp .ge 32, 3) := by decide +kernel
theorem dX11_noteWarnings_23 : decode cX11_noteWarnings 23 = .ok (.aload_n 0, 1) := by decide +kernel
theorem dX11_noteWarnings_24 : decode cX11_noteWarnings 24 = .ok (.getfield 64, 3) := by decide +kernel
theorem dX11_noteWarnings_27 : decode cX11_noteWarnings 27 = .ok (.invokevirtual 377, 3) := by decide +kernel
theorem dX11_noteWarnings_30 : decode cX11_noteWarnings 30 = .ok (.ifCond .eq 22, 3) := by decide +kernel
theorem dX11_noteWarnings_33 : decode cX11_noteWarnings 33 = .ok (.aload_n 0, 1) := by decide +kernel
theorem dX11_noteWarnings_34 : decode cX11_noteWarnings 34 = .ok (.getfield 64, 3) := by decide +kernel
theorem dX11_noteWarnings_37 : decode cX11_noteWarnings 37 = .ok (.iload_n 1, 1) := by decide +kernel
theorem dX11_noteWarnings_38 : decode cX11_noteWarnings 38 = .ok (.aload_n 0, 1) := by decide +kernel
theorem dX11_noteWarnings_39 : decode cX11_noteWarnings 39 = .ok (.iload_n 1, 1) := by decide +kernel
theorem dX11_noteWarnings_40 : decode cX11_noteWarnings 40 = .ok (.invokevirtual 167, 3) := by decide +kernel
theorem dX11_noteWarnings_43 : decode cX11_noteWarnings 43 = .ok (.invokevirtual 381, 3) := by decide +kernel
theorem dX11_noteWarnings_46 : decode cX11_noteWarnings 46 = .ok (.iinc 1 1, 3) := by decide +kernel
theorem dX11_noteWarnings_49 : decode cX11_noteWarnings 49 = .ok (.goto (-32), 3) := by decide +kernel
theorem dX11_noteWarnings_52 : decode cX11_noteWarnings 52 = .ok (.aload_n 0, 1) := by decide +kernel
theorem dX11_noteWarnings_53 : decode cX11_noteWarnings 53 = .ok (.iconst 1, 1) := by decide +kernel
theorem dX11_noteWarnings_54 : decode cX11_noteWarnings 54 = .ok (.putfield 371, 3) := by decide +kernel
theorem dX11_noteWarnings_57 : decode cX11_noteWarnings 57 = .ok (.return_, 1) := by decide +kernel
theorem dX11_alertsChanged_0 : decode cX11_alertsChanged 0 = .ok (.aload_n 0, 1) := by decide +kernel
theorem dX11_alertsChanged_1 : decode cX11_alertsChanged 1 = .ok (.aload_n 0, 1) := by decide +kernel
theorem dX11_alertsChanged_2 : decode cX11_alertsChanged 2 = .ok (.getfield 368, 3) := by decide +kernel
theorem dX11_alertsChanged_5 : decode cX11_alertsChanged 5 = .ok (.iload_n 1, 1) := by decide +kernel
theorem dX11_alertsChanged_6 : decode cX11_alertsChanged 6 = .ok (.invokestatic 311, 3) := by decide +kernel
theorem dX11_alertsChanged_9 : decode cX11_alertsChanged 9 = .ok (.putfield 368, 3) := by decide +kernel
theorem dX11_alertsChanged_12 : decode cX11_alertsChanged 12 = .ok (.aload_n 0, 1) := by decide +kernel
theorem dX11_alertsChanged_13 : decode cX11_alertsChanged 13 = .ok (.invokevirtual 231, 3) := by decide +kernel
theorem dX11_alertsChanged_16 : decode cX11_alertsChanged 16 = .ok (.return_, 1) := by decide +kernel
theorem dX11_lavaChanged_0 : decode cX11_lavaChanged 0 = .ok (.iconst 0, 1) := by decide +kernel
theorem dX11_lavaChanged_1 : decode cX11_lavaChanged 1 = .ok (.istore_n 1, 1) := by decide +kernel
theorem dX11_lavaChanged_2 : decode cX11_lavaChanged 2 = .ok (.iload_n 1, 1) := by decide +kernel
theorem dX11_lavaChanged_3 : decode cX11_lavaChanged 3 = .ok (.iconst 3, 1) := by decide +kernel
theorem dX11_lavaChanged_4 : decode cX11_lavaChanged 4 = .ok (.if_icmp .ge 19, 3) := by decide +kernel
theorem dX11_lavaChanged_7 : decode cX11_lavaChanged 7 = .ok (.aload_n 0, 1) := by decide +kernel
theorem dX11_lavaChanged_8 : decode cX11_lavaChanged 8 = .ok (.getfield 52, 3) := by decide +kernel
theorem dX11_lavaChanged_11 : decode cX11_lavaChanged 11 = .ok (.iload_n 1, 1) := by decide +kernel
theorem dX11_lavaChanged_12 : decode cX11_lavaChanged 12 = .ok (.aaload, 1) := by decide +kernel
theorem dX11_lavaChanged_13 : decode cX11_lavaChanged 13 = .ok (.iconst 0, 1) := by decide +kernel
theorem dX11_lavaChanged_14 : decode cX11_lavaChanged 14 = .ok (.putfield 384, 3) := by decide +kernel
theorem dX11_lavaChanged_17 : decode cX11_lavaChanged 17 = .ok (.iinc 1 1, 3) := by decide +kernel
theorem dX11_lavaChanged_20 : decode cX11_lavaChanged 20 = .ok (.goto (-18), 3) := by decide +kernel
theorem dX11_lavaChanged_23 : decode cX11_lavaChanged 23 = .ok (.aload_n 0, 1) := by decide +kernel
theorem dX11_lavaChanged_24 : decode cX11_lavaChanged 24 = .ok (.invokevirtual 231, 3) := by decide +kernel
theorem dX11_lavaChanged_27 : decode cX11_lavaChanged 27 = .ok (.return_, 1) := by decide +kernel
theorem dX11_escapeChanged_0 : decode cX11_escapeChanged 0 = .ok (.aload_n 0, 1) := by decide +kernel
theorem dX11_escapeChanged_1 : decode cX11_escapeChanged 1 = .ok (.iconst 0, 1) := by decide +kernel
theorem dX11_escapeChanged_2 : decode cX11_escapeChanged 2 = .ok (.putfield 371, 3) := by decide +kernel
theorem dX11_escapeChanged_5 : decode cX11_escapeChanged 5 = .ok (.iconst 0, 1) := by decide +kernel
theorem dX11_escapeChanged_6 : decode cX11_escapeChanged 6 = .ok (.istore_n 1, 1) := by decide +kernel
theorem dX11_escapeChanged_7 : decode cX11_escapeChanged 7 = .ok (.iload_n 1, 1) := by decide +kernel
theorem dX11_escapeChanged_8 : decode cX11_escapeChanged 8 = .ok (.iconst 3, 1) := by decide +kernel
theorem dX11_escapeChanged_9 : decode cX11_escapeChanged 9 = .ok (.if_icmp .ge 19, 3) := by decide +kernel
theorem dX11_escapeChanged_12 : decode cX11_escapeChanged 12 = .ok (.aload_n 0, 1) := by decide +kernel
theorem dX11_escapeChanged_13 : decode cX11_escapeChanged 13 = .ok (.getfield 52, 3) := by decide +kernel
theorem dX11_escapeChanged_16 : decode cX11_escapeChanged 16 = .ok (.iload_n 1, 1) := by decide +kernel
theorem dX11_escapeChanged_17 : decode cX11_escapeChanged 17 = .ok (.aaload, 1) := by decide +kernel
theorem dX11_escapeChanged_18 : decode cX11_escapeChanged 18 = .ok (.iconst 0, 1) := by decide +kernel
theorem dX11_escapeChanged_19 : decode cX11_escapeChanged 19 = .ok (.putfield 387, 3) := by decide +kernel
theorem dX11_escapeChanged_22 : decode cX11_escapeChanged 22 = .ok (.iinc 1 1, 3) := by decide +kernel
theorem dX11_escapeChanged_25 : decode cX11_escapeChanged 25 = .ok (.goto (-18), 3) := by decide +kernel
theorem dX11_escapeChanged_28 : decode cX11_escapeChanged 28 = .ok (.aload_n 0, 1) := by decide +kernel
theorem dX11_escapeChanged_29 : decode cX11_escapeChanged 29 = .ok (.invokevirtual 289, 3) := by decide +kernel
theorem dX11_escapeChanged_32 : decode cX11_escapeChanged 32 = .ok (.return_, 1) := by decide +kernel
theorem dX11_forgetPlans_0 : decode cX11_forgetPlans 0 = .ok (.iconst 0, 1) := by decide +kernel
theorem dX11_forgetPlans_1 : decode cX11_forgetPlans 1 = .ok (.istore_n 1, 1) := by decide +kernel
theorem dX11_forgetPlans_2 : decode cX11_forgetPlans 2 = .ok (.iload_n 1, 1) := by decide +kernel
theorem dX11_forgetPlans_3 : decode cX11_forgetPlans 3 = .ok (.iconst 2, 1) := by decide +kernel
theorem dX11_forgetPlans_4 : decode cX11_forgetPlans 4 = .ok (.if_icmp .gt 19, 3) := by decide +kernel
theorem dX11_forgetPlans_7 : decode cX11_forgetPlans 7 = .ok (.aload_n 0, 1) := by decide +kernel
theorem dX11_forgetPlans_8 : decode cX11_forgetPlans 8 = .ok (.getfield 77, 3) := by decide +kernel
theorem dX11_forgetPlans_11 : decode cX11_forgetPlans 11 = .ok (.iload_n 1, 1) := by decide +kernel
theorem dX11_forgetPlans_12 : decode cX11_forgetPlans 12 = .ok (.aaload, 1) := by decide +kernel
theorem dX11_forgetPlans_13 : decode cX11_forgetPlans 13 = .ok (.iconst 0, 1) := by decide +kernel
theorem dX11_forgetPlans_14 : decode cX11_forgetPlans 14 = .ok (.putfield 292, 3) := by decide +kernel
theorem dX11_forgetPlans_17 : decode cX11_forgetPlans 17 = .ok (.iinc 1 1, 3) := by decide +kernel
theorem dX11_forgetPlans_20 : decode cX11_forgetPlans 20 = .ok (.goto (-18), 3) := by decide +kernel
theorem dX11_forgetPlans_23 : decode cX11_forgetPlans 23 = .ok (.return_, 1) := by decide +kernel
theorem dX11_steppedForecast_0 : decode cX11_steppedForecast 0 = .ok (.aload_n 0, 1) := by decide +kernel
theorem dX11_steppedForecast_1 : decode cX11_steppedForecast 1 = .ok (.getfield 52, 3) := by decide +kernel
theorem dX11_steppedForecast_4 : decode cX11_steppedForecast 4 = .ok (.iload_n 1, 1) := by decide +kernel
theorem dX11_steppedForecast_5 : decode cX11_steppedForecast 5 = .ok (.aaload, 1) := by decide +kernel
theorem dX11_steppedForecast_6 : decode cX11_steppedForecast 6 = .ok (.astore_n 2, 1) := by decide +kernel
theorem dX11_steppedForecast_7 : decode cX11_steppedForecast 7 = .ok (.aload_n 2, 1) := by decide +kernel
theorem dX11_steppedForecast_8 : decode cX11_steppedForecast 8 = .ok (.getfield 384, 3) := by decide +kernel
theorem dX11_steppedForecast_11 : decode cX11_steppedForecast 11 = .ok (.ifCond .ne 17, 3) := by decide +kernel
theorem dX11_steppedForecast_14 : decode cX11_steppedForecast 14 = .ok (.aload_n 2, 1) := by decide +kernel
theorem dX11_steppedForecast_15 : decode cX11_steppedForecast 15 = .ok (.aload_n 0, 1) := by decide +kernel
theorem dX11_steppedForecast_16 : decode cX11_steppedForecast 16 = .ok (.getfield 40, 3) := by decide +kernel
theorem dX11_steppedForecast_19 : decode cX11_steppedForecast 19 = .ok (.aload_n 0, 1) := by decide +kernel
theorem dX11_steppedForecast_20 : decode cX11_steppedForecast 20 = .ok (.getfield 46, 3) := by decide +kernel
theorem dX11_steppedForecast_23 : decode cX11_steppedForecast 23 = .ok (.iload_n 1, 1) := by decide +kernel
theorem dX11_steppedForecast_24 : decode cX11_steppedForecast 24 = .ok (.aaload, 1) := by decide +kernel
theorem dX11_steppedForecast_25 : decode cX11_steppedForecast 25 = .ok (.invokevirtual 390, 3) := by decide +kernel
theorem dX11_steppedForecast_28 : decode cX11_steppedForecast 28 = .ok (.aload_n 2, 1) := by decide +kernel
theorem dX11_steppedForecast_29 : decode cX11_steppedForecast 29 = .ok (.areturn, 1) := by decide +kernel
theorem dX11_ledForecast_0 : decode cX11_ledForecast 0 = .ok (.aload_n 0, 1) := by decide +kernel
theorem dX11_ledForecast_1 : decode cX11_ledForecast 1 = .ok (.iload_n 1, 1) := by decide +kernel
theorem dX11_ledForecast_2 : decode cX11_ledForecast 2 = .ok (.invokevirtual 218, 3) := by decide +kernel
theorem dX11_ledForecast_5 : decode cX11_ledForecast 5 = .ok (.astore_n 2, 1) := by decide +kernel
theorem dX11_ledForecast_6 : decode cX11_ledForecast 6 = .ok (.aload_n 2, 1) := by decide +kernel
theorem dX11_ledForecast_7 : decode cX11_ledForecast 7 = .ok (.getfield 387, 3) := by decide +kernel
theorem dX11_ledForecast_10 : decode cX11_ledForecast 10 = .ok (.ifCond .ne 21, 3) := by decide +kernel
theorem dX11_ledForecast_13 : decode cX11_ledForecast 13 = .ok (.aload_n 2, 1) := by decide +kernel
theorem dX11_ledForecast_14 : decode cX11_ledForecast 14 = .ok (.aload_n 0, 1) := by decide +kernel
theorem dX11_ledForecast_15 : decode cX11_ledForecast 15 = .ok (.getfield 46, 3) := by decide +kernel
theorem dX11_ledForecast_18 : decode cX11_ledForecast 18 = .ok (.iload_n 1, 1) := by decide +kernel
theorem dX11_ledForecast_19 : decode cX11_ledForecast 19 = .ok (.aaload, 1) := by decide +kernel
theorem dX11_ledForecast_20 : decode cX11_ledForecast 20 = .ok (.aload_n 0, 1) := by decide +kernel
theorem dX11_ledForecast_21 : decode cX11_ledForecast 21 = .ok (.getfield 64, 3) := by decide +kernel
theorem dX11_ledForecast_24 : decode cX11_ledForecast 24 = .ok (.aload_n 0, 1) := by decide +kernel
theorem dX11_ledForecast_25 : decode cX11_ledForecast 25 = .ok (.getfield 71, 3) := by decide +kernel
theorem dX11_ledForecast_28 : decode cX11_ledForecast 28 = .ok (.invokevirtual 394, 3) := by decide +kernel
theorem dX11_ledForecast_31 : decode cX11_ledForecast 31 = .ok (.aload_n 2, 1) := by decide +kernel
theorem dX11_ledForecast_32 : decode cX11_ledForecast 32 = .ok (.areturn, 1) := by decide +kernel
theorem dX11_lostCost_0 : decode cX11_lostCost 0 = .ok (.aload_n 0, 1) := by decide +kernel
theorem dX11_lostCost_1 : decode cX11_lostCost 1 = .ok (.getfield 64, 3) := by decide +kernel
theorem dX11_lostCost_4 : decode cX11_lostCost 4 = .ok (.invokevirtual 264, 3) := by decide +kernel
theorem dX11_lostCost_7 : decode cX11_lostCost 7 = .ok (.istore_n 1, 1) := by decide +kernel
theorem dX11_lostCost_8 : decode cX11_lostCost 8 = .ok (.iconst 0, 1) := by decide +kernel
theorem dX11_lostCost_9 : decode cX11_lostCost 9 = .ok (.istore_n 2, 1) := by decide +kernel
theorem dX11_lostCost_10 : decode cX11_lostCost 10 = .ok (.iconst 0, 1) := by decide +kernel
theorem dX11_lostCost_11 : decode cX11_lostCost 11 = .ok (.istore_n 3, 1) := by decide +kernel
theorem dX11_lostCost_12 : decode cX11_lostCost 12 = .ok (.iload_n 3, 1) := by decide +kernel
theorem dX11_lostCost_13 : decode cX11_lostCost 13 = .ok (.aload_n 0, 1) := by decide +kernel
theorem dX11_lostCost_14 : decode cX11_lostCost 14 = .ok (.getfield 174, 3) := by decide +kernel
theorem dX11_lostCost_17 : decode cX11_lostCost 17 = .ok (.if_icmp .ge 32, 3) := by decide +kernel
theorem dX11_lostCost_20 : decode cX11_lostCost 20 = .ok (.iload_n 2, 1) := by decide +kernel
theorem dX11_lostCost_21 : decode cX11_lostCost 21 = .ok (.aload_n 0, 1) := by decide +kernel
theorem dX11_lostCost_22 : decode cX11_lostCost 22 = .ok (.getfield 46, 3) := by decide +kernel
theorem dX11_lostCost_25 : decode cX11_lostCost 25 = .ok (.iload_n 3, 1) := by decide +kernel
theorem dX11_lostCost_26 : decode cX11_lostCost 26 = .ok (.aaload, 1) := by decide +kernel
theorem dX11_lostCost_27 : decode cX11_lostCost 27 = .ok (.getfield 212, 3) := by decide +kernel
theorem dX11_lostCost_30 : decode cX11_lostCost 30 = .ok (.iload_n 1, 1) := by decide +kernel
theorem dX11_lostCost_31 : decode cX11_lostCost 31 = .ok (.aload_n 0, 1) := by decide +kernel
theorem dX11_lostCost_32 : decode cX11_lostCost 32 = .ok (.iload_n 3, 1) := by decide +kernel
theorem dX11_lostCost_33 : decode cX11_lostCost 33 = .ok (.invokevirtual 258, 3) := by decide +kernel
theorem dX11_lostCost_36 : decode cX11_lostCost 36 = .ok (.getfield 261, 3) := by decide +kernel
theorem dX11_lostCost_39 : decode cX11_lostCost 39 = .ok (.isub, 1) := by decide +kernel
theorem dX11_lostCost_40 : decode cX11_lostCost 40 = .ok (.imul, 1) := by decide +kernel
theorem dX11_lostCost_41 : decode cX11_lostCost 41 = .ok (.iadd, 1) := by decide +kernel
theorem dX11_lostCost_42 : decode cX11_lostCost 42 = .ok (.istore_n 2, 1) := by decide +kernel
theorem dX11_lostCost_43 : decode cX11_lostCost 43 = .ok (.iinc 3 1, 3) := by decide +kernel
theorem dX11_lostCost_46 : decode cX11_lostCost 46 = .ok (.goto (-34), 3) := by decide +kernel
theorem dX11_lostCost_49 : decode cX11_lostCost 49 = .ok (.iload_n 2, 1) := by decide +kernel
theorem dX11_lostCost_50 : decode cX11_lostCost 50 = .ok (.ireturn, 1) := by decide +kernel
theorem dX11_buriedCost_0 : decode cX11_buriedCost 0 = .ok (.iconst 0, 1) := by decide +kernel
theorem dX11_buriedCost_1 : decode cX11_buriedCost 1 = .ok (.istore_n 1, 1) := by decide +kernel
theorem dX11_buriedCost_2 : decode cX11_buriedCost 2 = .ok (.iconst 0, 1) := by decide +kernel
theorem dX11_buriedCost_3 : decode cX11_buriedCost 3 = .ok (.istore_n 2, 1) := by decide +kernel
theorem dX11_buriedCost_4 : decode cX11_buriedCost 4 = .ok (.iload_n 2, 1) := by decide +kernel
theorem dX11_buriedCost_5 : decode cX11_buriedCost 5 = .ok (.aload_n 0, 1) := by decide +kernel
theorem dX11_buriedCost_6 : decode cX11_buriedCost 6 = .ok (.getfield 174, 3) := by decide +kernel
theorem dX11_buriedCost_9 : decode cX11_buriedCost 9 = .ok (.if_icmp .ge 30, 3) := by decide +kernel
theorem dX11_buriedCost_12 : decode cX11_buriedCost 12 = .ok (.iload_n 1, 1) := by decide +kernel
theorem dX11_buriedCost_13 : decode cX11_buriedCost 13 = .ok (.aload_n 0, 1) := by decide +kernel
theorem dX11_buriedCost_14 : decode cX11_buriedCost 14 = .ok (.getfield 46, 3) := by decide +kernel
theorem dX11_buriedCost_17 : decode cX11_buriedCost 17 = .ok (.iload_n 2, 1) := by decide +kernel
theorem dX11_buriedCost_18 : decode cX11_buriedCost 18 = .ok (.aaload, 1) := by decide +kernel
theorem dX11_buriedCost_19 : decode cX11_buriedCost 19 = .ok (.getfield 212, 3) := by decide +kernel
theorem dX11_buriedCost_22 : decode cX11_buriedCost 22 = .ok (.aload_n 0, 1) := by decide +kernel
theorem dX11_buriedCost_23 : decode cX11_buriedCost 23 = .ok (.iload_n 2, 1) := by decide +kernel
theorem dX11_buriedCost_24 : decode cX11_buriedCost 24 = .ok (.invokevirtual 218, 3) := by decide +kernel
theorem dX11_buriedCost_27 : decode cX11_buriedCost 27 = .ok (.getfield 255, 3) := by decide +kernel
theorem dX11_buriedCost_30 : decode cX11_buriedCost 30 = .ok (.imul, 1) := by decide +kernel
theorem dX11_buriedCost_31 : decode cX11_buriedCost 31 = .ok (.iadd, 1) := by decide +kernel
theorem dX11_buriedCost_32 : decode cX11_buriedCost 32 = .ok (.istore_n 1, 1) := by decide +kernel
theorem dX11_buriedCost_33 : decode cX11_buriedCost 33 = .ok (.iinc 2 1, 3) := by decide +kernel
theorem dX11_buriedCost_36 : decode cX11_buriedCost 36 = .ok (.goto (-32), 3) := by decide +kernel
theorem dX11_buriedCost_39 : decode cX11_buriedCost 39 = .ok (.iload_n 1, 1) := by decide +kernel
theorem dX11_buriedCost_40 : decode cX11_buriedCost 40 = .ok (.ireturn, 1) := by decide +kernel
theorem dX11_tryMoreWorks_0 : decode cX11_tryMoreWorks 0 = .ok (.iconst 2, 1) := by decide +kernel
theorem dX11_tryMoreWorks_1 : decode cX11_tryMoreWorks 1 = .ok (.aload_n 0, 1) := by decide +kernel
theorem dX11_tryMoreWorks_2 : decode cX11_tryMoreWorks 2 = .ok (.getfield 40, 3) := by decide +kernel
theorem dX11_tryMoreWorks_5 : decode cX11_tryMoreWorks 5 = .ok (.getfield 353, 3) := by decide +kernel
theorem dX11_tryMoreWorks_8 : decode cX11_tryMoreWorks 8 = .ok (.imul, 1) := by decide +kernel
theorem dX11_tryMoreWorks_9 : decode cX11_tryMoreWorks 9 = .ok (.istore_n 3, 1) := by decide +kernel
theorem dX11_tryMoreWorks_10 : decode cX11_tryMoreWorks 10 = .ok (.iconst 0, 1) := by decide +kernel
theorem dX11_tryMoreWorks_11 : decode cX11_tryMoreWorks 11 = .ok (.istore 4, 2) := by decide +kernel
theorem dX11_tryMoreWorks_13 : decode cX11_tryMoreWorks 13 = .ok (.iload 4, 2) := by decide +kernel
theorem dX11_tryMoreWorks_15 : decode cX11_tryMoreWorks 15 = .ok (.iload_n 3, 1) := by decide +kernel
theorem dX11_tryMoreWorks_16 : decode cX11_tryMoreWorks 16 = .ok (.if_icmp .ge 43, 3) := by decide +kernel
theorem dX11_tryMoreWorks_19 : decode cX11_tryMoreWorks 19 = .ok (.iload_n 2, 1) := by decide +kernel
theorem dX11_tryMoreWorks_20 : decode cX11_tryMoreWorks 20 = .ok (.iconst 1, 1) := by decide +kernel
theorem dX11_tryMoreWorks_21 : decode cX11_tryMoreWorks 21 = .ok (.if_icmp .lt 38, 3) := by decide +kernel
theorem dX11_tryMoreWorks_24 : decode cX11_tryMoreWorks 24 = .ok (.aload_n 0, 1) := by decide +kernel
theorem dX11_tryMoreWorks_25 : decode cX11_tryMoreWorks 25 = .ok (.getfield 40, 3) := by decide +kernel
theorem dX11_tryMoreWorks_28 : decode cX11_tryMoreWorks 28 = .ok (.iload 4, 2) := by decide +kernel
theorem dX11_tryMoreWorks_30 : decode cX11_tryMoreWorks 30 = .ok (.invokevirtual 398, 3) := by decide +kernel
theorem dX11_tryMoreWorks_33 : decode cX11_tryMoreWorks 33 = .ok (.ifCond .eq 20, 3) := by decide +kernel
theorem dX11_tryMoreWorks_36 : decode cX11_tryMoreWorks 36 = .ok (.aload_n 0, 1) := by decide +kernel
theorem dX11_tryMoreWorks_37 : decode cX11_tryMoreWorks 37 = .ok (.aload_n 1, 1) := by decide +kernel
theorem dX11_tryMoreWorks_38 : decode cX11_tryMoreWorks 38 = .ok (.iload 4, 2) := by decide +kernel
theorem dX11_tryMoreWorks_40 : decode cX11_tryMoreWorks 40 = .ok (.iconst (-1), 1) := by decide +kernel
theorem dX11_tryMoreWorks_41 : decode cX11_tryMoreWorks 41 = .ok (.invokevirtual 401, 3) := by decide +kernel
theorem dX11_tryMoreWorks_44 : decode cX11_tryMoreWorks 44 = .ok (.aload_n 0, 1) := by decide +kernel
theorem dX11_tryMoreWorks_45 : decode cX11_tryMoreWorks 45 = .ok (.getfield 40, 3) := by decide +kernel
theorem dX11_tryMoreWorks_48 : decode cX11_tryMoreWorks 48 = .ok (.iload 4, 2) := by decide +kernel
theorem dX11_tryMoreWorks_50 : decode cX11_tryMoreWorks 50 = .ok (.invokevirtual 405, 3) := by decide +kernel
theorem dX11_tryMoreWorks_53 : decode cX11_tryMoreWorks 53 = .ok (.iinc 4 1, 3) := by decide +kernel
theorem dX11_tryMoreWorks_56 : decode cX11_tryMoreWorks 56 = .ok (.goto (-43), 3) := by decide +kernel
theorem dX11_tryMoreWorks_59 : decode cX11_tryMoreWorks 59 = .ok (.iconst 0, 1) := by decide +kernel
theorem dX11_tryMoreWorks_60 : decode cX11_tryMoreWorks 60 = .ok (.istore 4, 2) := by decide +kernel
theorem dX11_tryMoreWorks_62 : decode cX11_tryMoreWorks 62 = .ok (.iload 4, 2) := by decide +kernel
theorem dX11_tryMoreWorks_64 : decode cX11_tryMoreWorks 64 = .ok (.iload_n 3, 1) := by decide +kernel
theorem dX11_tryMoreWorks_65 : decode cX11_tryMoreWorks 65 = .ok (.if_icmp .ge 92, 3) := by decide +kernel
theorem dX11_tryMoreWorks_68 : decode cX11_tryMoreWorks 68 = .ok (.iload_n 2, 1) := by decide +kernel
theorem dX11_tryMoreWorks_69 : decode cX11_tryMoreWorks 69 = .ok (.iconst 2, 1) := by decide +kernel
theorem dX11_tryMoreWorks_70 : decode cX11_tryMoreWorks 70 = .ok (.if_icmp .lt 87, 3) := by decide +kernel
theorem dX11_tryMoreWorks_73 : decode cX11_tryMoreWorks 73 = .ok (.aload_n 0, 1) := by decide +kernel
theorem dX11_tryMoreWorks_74 : decode cX11_tryMoreWorks 74 = .ok (.getfield 40, 3) := by decide +kernel
theorem dX11_tryMoreWorks_77 : decode cX11_tryMoreWorks 77 = .ok (.iload 4, 2) := by decide +kernel
theorem dX11_tryMoreWorks_79 : decode cX11_tryMoreWorks 79 = .ok (.invokevirtual 398, 3) := by decide +kernel
theorem dX11_tryMoreWorks_82 : decode cX11_tryMoreWorks 82 = .ok (.ifCond .eq 69, 3) := by decide +kernel
theorem dX11_tryMoreWorks_85 : decode cX11_tryMoreWorks 85 = .ok (.iload 4, 2) := by decide +kernel
theorem dX11_tryMoreWorks_87 : decode cX11_tryMoreWorks 87 = .ok (.iload 4, 2) := by decide +kernel
theorem dX11_tryMoreWorks_89 : decode cX11_tryMoreWorks 89 = .ok (.iconst 2, 1) := by decide +kernel
theorem dX11_tryMoreWorks_90 : decode cX11_tryMoreWorks 90 = .ok (.irem, 1) := by decide +kernel
theorem dX11_tryMoreWorks_91 : decode cX11_tryMoreWorks 91 = .ok (.isub, 1) := by decide +kernel
theorem dX11_tryMoreWorks_92 : decode cX11_tryMoreWorks 92 = .ok (.iconst 2, 1) := by decide +kernel
theorem dX11_tryMoreWorks_93 : decode cX11_tryMoreWorks 93 = .ok (.iadd, 1) := by decide +kernel
theorem dX11_tryMoreWorks_94 : decode cX11_tryMoreWorks 94 = .ok (.istore 5, 2) := by decide +kernel
theorem dX11_tryMoreWorks_96 : decode cX11_tryMoreWorks 96 = .ok (.iload 5, 2) := by decide +kernel
theorem dX11_tryMoreWorks_98 : decode cX11_tryMoreWorks 98 = .ok (.istore 6, 2) := by decide +kernel
theorem dX11_tryMoreWorks_100 : decode cX11_tryMoreWorks 100 = .ok (.iload 6, 2) := by decide +kernel
theorem dX11_tryMoreWorks_102 : decode cX11_tryMoreWorks 102 = .ok (.iload_n 3, 1) := by decide +kernel
theorem dX11_tryMoreWorks_103 : decode cX11_tryMoreWorks 103 = .ok (.if_icmp .ge 39, 3) := by decide +kernel
theorem dX11_tryMoreWorks_106 : decode cX11_tryMoreWorks 106 = .ok (.aload_n 0, 1) := by decide +kernel
theorem dX11_tryMoreWorks_107 : decode cX11_tryMoreWorks 107 = .ok (.getfield 40, 3) := by decide +kernel
theorem dX11_tryMoreWorks_110 : decode cX11_tryMoreWorks 110 = .ok (.iload 6, 2) := by decide +kernel
theorem dX11_tryMoreWorks_112 : decode cX11_tryMoreWorks 112 = .ok (.invokevirtual 398, 3) := by decide +kernel
theorem dX11_tryMoreWorks_115 : decode cX11_tryMoreWorks 115 = .ok (.ifCond .eq 21, 3) := by decide +kernel
theorem dX11_tryMoreWorks_118 : decode cX11_tryMoreWorks 118 = .ok (.aload_n 0, 1) := by decide +kernel
theorem dX11_tryMoreWorks_119 : decode cX11_tryMoreWorks 119 = .ok (.aload_n 1, 1) := by decide +kernel
theorem dX11_tryMoreWorks_120 : decode cX11_tryMoreWorks 120 = .ok (.iload 4, 2) := by decide +kernel
theorem dX11_tryMoreWorks_122 : decode cX11_tryMoreWorks 122 = .ok (.iload 6, 2) := by decide +kernel
theorem dX11_tryMoreWorks_124 : decode cX11_tryMoreWorks 124 = .ok (.invokevirtual 401, 3) := by decide +kernel
theorem dX11_tryMoreWorks_127 : decode cX11_tryMoreWorks 127 = .ok (.aload_n 0, 1) := by decide +kernel
theorem dX11_tryMoreWorks_128 : decode cX11_tryMoreWorks 128 = .ok (.getfield 40, 3) := by decide +kernel
theorem dX11_tryMoreWorks_131 : decode cX11_tryMoreWorks 131 = .ok (.iload 6, 2) := by decide +kernel
theorem dX11_tryMoreWorks_133 : decode cX11_tryMoreWorks 133 = .ok (.invokevirtual 405, 3) := by decide +kernel
theorem dX11_tryMoreWorks_136 : decode cX11_tryMoreWorks 136 = .ok (.iinc 6 1, 3) := by decide +kernel
theorem dX11_tryMoreWorks_139 : decode cX11_tryMoreWorks 139 = .ok (.goto (-39), 3) := by decide +kernel
theorem dX11_tryMoreWorks_142 : decode cX11_tryMoreWorks 142 = .ok (.aload_n 0, 1) := by decide +kernel
theorem dX11_tryMoreWorks_143 : decode cX11_tryMoreWorks 143 = .ok (.getfield 40, 3) := by decide +kernel
theorem dX11_tryMoreWorks_146 : decode cX11_tryMoreWorks 146 = .ok (.iload 4, 2) := by decide +kernel
theorem dX11_tryMoreWorks_148 : decode cX11_tryMoreWorks 148 = .ok (.invokevirtual 405, 3) := by decide +kernel
theorem dX11_tryMoreWorks_151 : decode cX11_tryMoreWorks 151 = .ok (.iinc 4 1, 3) := by decide +kernel
theorem dX11_tryMoreWorks_154 : decode cX11_tryMoreWorks 154 = .ok (.goto (-92), 3) := by decide +kernel
theorem dX11_tryMoreWorks_157 : decode cX11_tryMoreWorks 157 = .ok (.aload_n 1, 1) := by decide +kernel
theorem dX11_tryMoreWorks_158 : decode cX11_tryMoreWorks 158 = .ok (.iconst 1, 1) := by decide +kernel
theorem dX11_tryMoreWorks_159 : decode cX11_tryMoreWorks 159 = .ok (.putfield 292, 3) := by decide +kernel
theorem dX11_tryMoreWorks_162 : decode cX11_tryMoreWorks 162 = .ok (.return_, 1) := by decide +kernel
theorem dX11_weigh_0 : decode cX11_weigh 0 = .ok (.aload_n 0, 1) := by decide +kernel
theorem dX11_weigh_1 : decode cX11_weigh 1 = .ok (.getfield 64, 3) := by decide +kernel
theorem dX11_weigh_4 : decode cX11_weigh 4 = .ok (.invokevirtual 264, 3) := by decide +kernel
theorem dX11_weigh_7 : decode cX11_weigh 7 = .ok (.istore 4, 2) := by decide +kernel
theorem dX11_weigh_9 : decode cX11_weigh 9 = .ok (.iconst 0, 1) := by decide +kernel
theorem dX11_weigh_10 : decode cX11_weigh 10 = .ok (.istore 5, 2) := by decide +kernel
theorem dX11_weigh_12 : decode cX11_weigh 12 = .ok (.iconst 0, 1) := by decide +kernel
theorem dX11_weigh_13 : decode cX11_weigh 13 = .ok (.istore 6, 2) := by decide +kernel
theorem dX11_weigh_15 : decode cX11_weigh 15 = .ok (.iconst 0, 1) := by decide +kernel
theorem dX11_weigh_16 : decode cX11_weigh 16 = .ok (.istore 7, 2) := by decide +kernel
theorem dX11_weigh_18 : decode cX11_weigh 18 = .ok (.iload 7, 2) := by decide +kernel
theorem dX11_weigh_20 : decode cX11_weigh 20 = .ok (.aload_n 0, 1) := by decide +kernel
theorem dX11_weigh_21 : decode cX11_weigh 21 = .ok (.getfield 174, 3) := by decide +kernel
theorem dX11_weigh_24 : decode cX11_weigh 24 = .ok (.if_icmp .ge 148, 3) := by decide +kernel
theorem dX11_weigh_27 : decode cX11_weigh 27 = .ok (.iload 5, 2) := by decide +kernel
theorem dX11_weigh_29 : decode cX11_weigh 29 = .ok (.aload_n 1, 1) := by decide +kernel
theorem dX11_weigh_30 : decode cX11_weigh 30 = .ok (.getfield 408, 3) := by decide +kernel
theorem dX11_weigh_33 : decode cX11_weigh 33 = .ok (.if_icmp .gt 139, 3) := by decide +kernel
theorem dX11_weigh_36 : decode cX11_weigh 36 = .ok (.aload_n 0, 1) := by decide +kernel
theorem dX11_weigh_37 : decode cX11_weigh 37 = .ok (.getfield 57, 3) := by decide +kernel
theorem dX11_weigh_40 : decode cX11_weigh 40 = .ok (.aload_n 0, 1) := by decide +kernel
theorem dX11_weigh_41 : decode cX11_weigh 41 = .ok (.getfield 40, 3) := by decide +kernel
theorem dX11_weigh_44 : decode cX11_weigh 44 = .ok (.aload_n 0, 1) := by decide +kernel
theorem dX11_weigh_45 : decode cX11_weigh 45 = .ok (.getfield 46, 3) := by decide +kernel
theorem dX11_weigh_48 : decode cX11_weigh 48 = .ok (.iload 7, 2) := by decide +kernel
theorem dX11_weigh_50 : decode cX11_weigh 50 = .ok (.aaload, 1) := by decide +kernel
theorem dX11_weigh_51 : decode cX11_weigh 51 = .ok (.invokevirtual 390, 3) := by decide +kernel
theorem dX11_weigh_54 : decode cX11_weigh 54 = .ok (.aload_n 0, 1) := by decide +kernel
theorem dX11_weigh_55 : decode cX11_weigh 55 = .ok (.getfield 57, 3) := by decide +kernel
theorem dX11_weigh_58 : decode cX11_weigh 58 = .ok (.aload_n 0, 1) := by decide +kernel
theorem dX11_weigh_59 : decode cX11_weigh 59 = .ok (.getfield 52, 3) := by decide +kernel
theorem dX11_weigh_62 : decode cX11_weigh 62 = .ok (.iload 7, 2) := by decide +kernel
theorem dX11_weigh_64 : decode cX11_weigh 64 = .ok (.aaload, 1) := by decide +kernel
theorem dX11_weigh_65 : decode cX11_weigh 65 = .ok (.aload_n 0, 1) := by decide +kernel
theorem dX11_weigh_66 : decode cX11_weigh 66 = .ok (.getfield 64, 3) := by decide +kernel
theorem dX11_weigh_69 : decode cX11_weigh 69 = .ok (.invokevirtual 411, 3) := by decide +kernel
theorem dX11_weigh_72 : decode cX11_weigh 72 = .ok (.ifCond .eq 23, 3) := by decide +kernel
theorem dX11_weigh_75 : decode cX11_weigh 75 = .ok (.aload_n 0, 1) := by decide +kernel
theorem dX11_weigh_76 : decode cX11_weigh 76 = .ok (.getfield 57, 3) := by decide +kernel
theorem dX11_weigh_79 : decode cX11_weigh 79 = .ok (.aload_n 0, 1) := by decide +kernel
theorem dX11_weigh_80 : decode cX11_weigh 80 = .ok (.getfield 52, 3) := by decide +kernel
theorem dX11_weigh_83 : decode cX11_weigh 83 = .ok (.iload 7, 2) := by decide +kernel
theorem dX11_weigh_85 : decode cX11_weigh 85 = .ok (.aaload, 1) := by decide +kernel
theorem dX11_weigh_86 : decode cX11_weigh 86 = .ok (.getfield 261, 3) := by decide +kernel
theorem dX11_weigh_89 : decode cX11_weigh 89 = .ok (.putfield 261, 3) := by decide +kernel
theorem dX11_weigh_92 : decode cX11_weigh 92 = .ok (.goto 25, 3) := by decide +kernel
theorem dX11_weigh_95 : decode cX11_weigh 95 = .ok (.aload_n 0, 1) := by decide +kernel
theorem dX11_weigh_96 : decode cX11_weigh 96 = .ok (.getfield 57, 3) := by decide +kernel
theorem dX11_weigh_99 : decode cX11_weigh 99 = .ok (.aload_n 0, 1) := by decide +kernel
theorem dX11_weigh_100 : decode cX11_weigh 100 = .ok (.getfield 46, 3) := by decide +kernel
theorem dX11_weigh_103 : decode cX11_weigh 103 = .ok (.iload 7, 2) := by decide +kernel
theorem dX11_weigh_105 : decode cX11_weigh 105 = .ok (.aaload, 1) := by decide +kernel
theorem dX11_weigh_106 : decode cX11_weigh 106 = .ok (.aload_n 0, 1) := by decide +kernel
theorem dX11_weigh_107 : decode cX11_weigh 107 = .ok (.getfield 64, 3) := by decide +kernel
theorem dX11_weigh_110 : decode cX11_weigh 110 = .ok (.aload_n 0, 1) := by decide +kernel
theorem dX11_weigh_111 : decode cX11_weigh 111 = .ok (.getfield 71, 3) := by decide +kernel
theorem dX11_weigh_114 : decode cX11_weigh 114 = .ok (.invokevirtual 394, 3) := by decide +kernel
theorem dX11_weigh_117 : decode cX11_weigh 117 = .ok (.iload 5, 2) := by decide +kernel
theorem dX11_weigh_119 : decode cX11_weigh 119 = .ok (.aload_n 0, 1) := by decide +kernel
theorem dX11_weigh_120 : decode cX11_weigh 120 = .ok (.getfield 46, 3) := by decide +kernel
theorem dX11_weigh_123 : decode cX11_weigh 123 = .ok (.iload 7, 2) := by decide +kernel
theorem dX11_weigh_125 : decode cX11_weigh 125 = .ok (.aaload, 1) := by decide +kernel
theorem dX11_weigh_126 : decode cX11_weigh 126 = .ok (.getfield 212, 3) := by decide +kernel
theorem dX11_weigh_129 : decode cX11_weigh 129 = .ok (.iload 4, 2) := by decide +kernel
theorem dX11_weigh_131 : decode cX11_weigh 131 = .ok (.aload_n 0, 1) := by decide +kernel
theorem dX11_weigh_132 : decode cX11_weigh 132 = .ok (.getfield 57, 3) := by decide +kernel
theorem dX11_weigh_135 : decode cX11_weigh 135 = .ok (.getfield 261, 3) := by decide +kernel
theorem dX11_weigh_138 : decode cX11_weigh 138 = .ok (.isub, 1) := by decide +kernel
theorem dX11_weigh_139 : decode cX11_weigh 139 = .ok (.imul, 1) := by decide +kernel
theorem dX11_weigh_140 : decode cX11_weigh 140 = .ok (.iadd, 1) := by decide +kernel
theorem dX11_weigh_141 : decode cX11_weigh 141 = .ok (.istore 5, 2) := by decide +kernel
theorem dX11_weigh_143 : decode cX11_weigh 143 = .ok (.iload 6, 2) := by decide +kernel
theorem dX11_weigh_145 : decode cX11_weigh 145 = .ok (.aload_n 0, 1) := by decide +kernel
theorem dX11_weigh_146 : decode cX11_weigh 146 = .ok (.getfield 46, 3) := by decide +kernel
theorem dX11_weigh_149 : decode cX11_weigh 149 = .ok (.iload 7, 2) := by decide +kernel
theorem dX11_weigh_151 : decode cX11_weigh 151 = .ok (.aaload, 1) := by decide +kernel
theorem dX11_weigh_152 : decode cX11_weigh 152 = .ok (.getfield 212, 3) := by decide +kernel
theorem dX11_weigh_155 : decode cX11_weigh 155 = .ok (.aload_n 0, 1) := by decide +kernel
theorem dX11_weigh_156 : decode cX11_weigh 156 = .ok (.getfield 57, 3) := by decide +kernel
theorem dX11_weigh_159 : decode cX11_weigh 159 = .ok (.getfield 255, 3) := by decide +kernel
theorem dX11_weigh_162 : decode cX11_weigh 162 = .ok (.imul, 1) := by decide +kernel
theorem dX11_weigh_163 : decode cX11_weigh 163 = .ok (.iadd, 1) := by decide +kernel
theorem dX11_weigh_164 : decode cX11_weigh 164 = .ok (.istore 6, 2) := by decide +kernel
theorem dX11_weigh_166 : decode cX11_weigh 166 = .ok (.iinc 7 1, 3) := by decide +kernel
theorem dX11_weigh_169 : decode cX11_weigh 169 = .ok (.goto (-151), 3) := by decide +kernel
theorem dX11_weigh_172 : decode cX11_weigh 172 = .ok (.aload_n 1, 1) := by decide +kernel
theorem dX11_weigh_173 : decode cX11_weigh 173 = .ok (.iload_n 2, 1) := by decide +kernel
theorem dX11_weigh_174 : decode cX11_weigh 174 = .ok (.iload_n 3, 1) := by decide +kernel
theorem dX11_weigh_175 : decode cX11_weigh 175 = .ok (.iload 5, 2) := by decide +kernel
theorem dX11_weigh_177 : decode cX11_weigh 177 = .ok (.iload 6, 2) := by decide +kernel
theorem dX11_weigh_179 : decode cX11_weigh 179 = .ok (.invokevirtual 415, 3) := by decide +kernel
theorem dX11_weigh_182 : decode cX11_weigh 182 = .ok (.return_, 1) := by decide +kernel
