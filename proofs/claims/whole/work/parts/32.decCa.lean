theorem dX0_lavaBehind_0 : decode cX0_lavaBehind 0 = .ok (.aload_n 0, 1) := by decide +kernel
theorem dX0_lavaBehind_1 : decode cX0_lavaBehind 1 = .ok (.getfield 13, 3) := by decide +kernel
theorem dX0_lavaBehind_4 : decode cX0_lavaBehind 4 = .ok (.iload_n 1, 1) := by decide +kernel
theorem dX0_lavaBehind_5 : decode cX0_lavaBehind 5 = .ok (.bipush 64, 2) := by decide +kernel
theorem dX0_lavaBehind_7 : decode cX0_lavaBehind 7 = .ok (.imul, 1) := by decide +kernel
theorem dX0_lavaBehind_8 : decode cX0_lavaBehind 8 = .ok (.iload_n 2, 1) := by decide +kernel
theorem dX0_lavaBehind_9 : decode cX0_lavaBehind 9 = .ok (.iadd, 1) := by decide +kernel
theorem dX0_lavaBehind_10 : decode cX0_lavaBehind 10 = .ok (.iaload, 1) := by decide +kernel
theorem dX0_lavaBehind_11 : decode cX0_lavaBehind 11 = .ok (.ireturn, 1) := by decide +kernel
theorem dX0_groundBehind_0 : decode cX0_groundBehind 0 = .ok (.aload_n 0, 1) := by decide +kernel
theorem dX0_groundBehind_1 : decode cX0_groundBehind 1 = .ok (.getfield 17, 3) := by decide +kernel
theorem dX0_groundBehind_4 : decode cX0_groundBehind 4 = .ok (.iload_n 1, 1) := by decide +kernel
theorem dX0_groundBehind_5 : decode cX0_groundBehind 5 = .ok (.bipush 64, 2) := by decide +kernel
theorem dX0_groundBehind_7 : decode cX0_groundBehind 7 = .ok (.imul, 1) := by decide +kernel
theorem dX0_groundBehind_8 : decode cX0_groundBehind 8 = .ok (.iload_n 2, 1) := by decide +kernel
theorem dX0_groundBehind_9 : decode cX0_groundBehind 9 = .ok (.iadd, 1) := by decide +kernel
theorem dX0_groundBehind_10 : decode cX0_groundBehind 10 = .ok (.iaload, 1) := by decide +kernel
theorem dX0_groundBehind_11 : decode cX0_groundBehind 11 = .ok (.ireturn, 1) := by decide +kernel
theorem dX0_stepLava_0 : decode cX0_stepLava 0 = .ok (.iconst 0, 1) := by decide +kernel
theorem dX0_stepLava_1 : decode cX0_stepLava 1 = .ok (.istore_n 3, 1) := by decide +kernel
theorem dX0_stepLava_2 : decode cX0_stepLava 2 = .ok (.iload_n 3, 1) := by decide +kernel
theorem dX0_stepLava_3 : decode cX0_stepLava 3 = .ok (.aload_n 1, 1) := by decide +kernel
theorem dX0_stepLava_4 : decode cX0_stepLava 4 = .ok (.getfield 42, 3) := by decide +kernel
theorem dX0_stepLava_7 : decode cX0_stepLava 7 = .ok (.if_icmp .ge 35, 3) := by decide +kernel
theorem dX0_stepLava_10 : decode cX0_stepLava 10 = .ok (.aload_n 0, 1) := by decide +kernel
theorem dX0_stepLava_11 : decode cX0_stepLava 11 = .ok (.getfield 13, 3) := by decide +kernel
theorem dX0_stepLava_14 : decode cX0_stepLava 14 = .ok (.iload_n 3, 1) := by decide +kernel
theorem dX0_stepLava_15 : decode cX0_stepLava 15 = .ok (.iconst 0, 1) := by decide +kernel
theorem dX0_stepLava_16 : decode cX0_stepLava 16 = .ok (.iastore, 1) := by decide +kernel
theorem dX0_stepLava_17 : decode cX0_stepLava 17 = .ok (.aload_n 0, 1) := by decide +kernel
theorem dX0_stepLava_18 : decode cX0_stepLava 18 = .ok (.getfield 17, 3) := by decide +kernel
theorem dX0_stepLava_21 : decode cX0_stepLava 21 = .ok (.iload_n 3, 1) := by decide +kernel
theorem dX0_stepLava_22 : decode cX0_stepLava 22 = .ok (.aload_n 1, 1) := by decide +kernel
theorem dX0_stepLava_23 : decode cX0_stepLava 23 = .ok (.iload_n 3, 1) := by decide +kernel
theorem dX0_stepLava_24 : decode cX0_stepLava 24 = .ok (.invokevirtual 46, 3) := by decide +kernel
theorem dX0_stepLava_27 : decode cX0_stepLava 27 = .ok (.iastore, 1) := by decide +kernel
theorem dX0_stepLava_28 : decode cX0_stepLava 28 = .ok (.aload_n 0, 1) := by decide +kernel
theorem dX0_stepLava_29 : decode cX0_stepLava 29 = .ok (.getfield 20, 3) := by decide +kernel
theorem dX0_stepLava_32 : decode cX0_stepLava 32 = .ok (.iload_n 3, 1) := by decide +kernel
theorem dX0_stepLava_33 : decode cX0_stepLava 33 = .ok (.bipush 13, 2) := by decide +kernel
theorem dX0_stepLava_35 : decode cX0_stepLava 35 = .ok (.iastore, 1) := by decide +kernel
theorem dX0_stepLava_36 : decode cX0_stepLava 36 = .ok (.iinc 3 1, 3) := by decide +kernel
theorem dX0_stepLava_39 : decode cX0_stepLava 39 = .ok (.goto (-37), 3) := by decide +kernel
theorem dX0_stepLava_42 : decode cX0_stepLava 42 = .ok (.iconst 1, 1) := by decide +kernel
theorem dX0_stepLava_43 : decode cX0_stepLava 43 = .ok (.istore_n 3, 1) := by decide +kernel
theorem dX0_stepLava_44 : decode cX0_stepLava 44 = .ok (.iload_n 3, 1) := by decide +kernel
theorem dX0_stepLava_45 : decode cX0_stepLava 45 = .ok (.bipush 12, 2) := by decide +kernel
theorem dX0_stepLava_47 : decode cX0_stepLava 47 = .ok (.if_icmp .gt 16, 3) := by decide +kernel
theorem dX0_stepLava_50 : decode cX0_stepLava 50 = .ok (.aload_n 0, 1) := by decide +kernel
theorem dX0_stepLava_51 : decode cX0_stepLava 51 = .ok (.aload_n 1, 1) := by decide +kernel
theorem dX0_stepLava_52 : decode cX0_stepLava 52 = .ok (.aload_n 2, 1) := by decide +kernel
theorem dX0_stepLava_53 : decode cX0_stepLava 53 = .ok (.iload_n 3, 1) := by decide +kernel
theorem dX0_stepLava_54 : decode cX0_stepLava 54 = .ok (.invokevirtual 50, 3) := by decide +kernel
theorem dX0_stepLava_57 : decode cX0_stepLava 57 = .ok (.iinc 3 1, 3) := by decide +kernel
theorem dX0_stepLava_60 : decode cX0_stepLava 60 = .ok (.goto (-16), 3) := by decide +kernel
theorem dX0_stepLava_63 : decode cX0_stepLava 63 = .ok (.aload_n 0, 1) := by decide +kernel
theorem dX0_stepLava_64 : decode cX0_stepLava 64 = .ok (.iconst 0, 1) := by decide +kernel
theorem dX0_stepLava_65 : decode cX0_stepLava 65 = .ok (.putfield 54, 3) := by decide +kernel
theorem dX0_stepLava_68 : decode cX0_stepLava 68 = .ok (.iconst 0, 1) := by decide +kernel
theorem dX0_stepLava_69 : decode cX0_stepLava 69 = .ok (.istore_n 3, 1) := by decide +kernel
theorem dX0_stepLava_70 : decode cX0_stepLava 70 = .ok (.iload_n 3, 1) := by decide +kernel
theorem dX0_stepLava_71 : decode cX0_stepLava 71 = .ok (.aload_n 1, 1) := by decide +kernel
theorem dX0_stepLava_72 : decode cX0_stepLava 72 = .ok (.getfield 42, 3) := by decide +kernel
theorem dX0_stepLava_75 : decode cX0_stepLava 75 = .ok (.if_icmp .ge 39, 3) := by decide +kernel
theorem dX0_stepLava_78 : decode cX0_stepLava 78 = .ok (.aload_n 0, 1) := by decide +kernel
theorem dX0_stepLava_79 : decode cX0_stepLava 79 = .ok (.dup, 1) := by decide +kernel
theorem dX0_stepLava_80 : decode cX0_stepLava 80 = .ok (.getfield 54, 3) := by decide +kernel
theorem dX0_stepLava_83 : decode cX0_stepLava 83 = .ok (.aload_n 0, 1) := by decide +kernel
theorem dX0_stepLava_84 : decode cX0_stepLava 84 = .ok (.getfield 20, 3) := by decide +kernel
theorem dX0_stepLava_87 : decode cX0_stepLava 87 = .ok (.iload_n 3, 1) := by decide +kernel
theorem dX0_stepLava_88 : decode cX0_stepLava 88 = .ok (.iaload, 1) := by decide +kernel
theorem dX0_stepLava_89 : decode cX0_stepLava 89 = .ok (.bipush 13, 2) := by decide +kernel
theorem dX0_stepLava_91 : decode cX0_stepLava 91 = .ok (.if_icmp .ge 12, 3) := by decide +kernel
theorem dX0_stepLava_94 : decode cX0_stepLava 94 = .ok (.aload_n 1, 1) := by decide +kernel
theorem dX0_stepLava_95 : decode cX0_stepLava 95 = .ok (.getfield 57, 3) := by decide +kernel
theorem dX0_stepLava_98 : decode cX0_stepLava 98 = .ok (.iload_n 3, 1) := by decide +kernel
theorem dX0_stepLava_99 : decode cX0_stepLava 99 = .ok (.iaload, 1) := by decide +kernel
theorem dX0_stepLava_100 : decode cX0_stepLava 100 = .ok (.goto 4, 3) := by decide +kernel
theorem dX0_stepLava_103 : decode cX0_stepLava 103 = .ok (.iconst 0, 1) := by decide +kernel
theorem dX0_stepLava_104 : decode cX0_stepLava 104 = .ok (.iadd, 1) := by decide +kernel
theorem dX0_stepLava_105 : decode cX0_stepLava 105 = .ok (.putfield 54, 3) := by decide +kernel
theorem dX0_stepLava_108 : decode cX0_stepLava 108 = .ok (.iinc 3 1, 3) := by decide +kernel
theorem dX0_stepLava_111 : decode cX0_stepLava 111 = .ok (.goto (-41), 3) := by decide +kernel
theorem dX0_stepLava_114 : decode cX0_stepLava 114 = .ok (.aload_n 0, 1) := by decide +kernel
theorem dX0_stepLava_115 : decode cX0_stepLava 115 = .ok (.iconst 1, 1) := by decide +kernel
theorem dX0_stepLava_116 : decode cX0_stepLava 116 = .ok (.putfield 60, 3) := by decide +kernel
theorem dX0_stepLava_119 : decode cX0_stepLava 119 = .ok (.return_, 1) := by decide +kernel
theorem dX0_stepOnce_0 : decode cX0_stepOnce 0 = .ok (.iload_n 3, 1) := by decide +kernel
theorem dX0_stepOnce_1 : decode cX0_stepOnce 1 = .ok (.bipush 64, 2) := by decide +kernel
theorem dX0_stepOnce_3 : decode cX0_stepOnce 3 = .ok (.imul, 1) := by decide +kernel
theorem dX0_stepOnce_4 : decode cX0_stepOnce 4 = .ok (.istore 4, 2) := by decide +kernel
theorem dX0_stepOnce_6 : decode cX0_stepOnce 6 = .ok (.aload_n 0, 1) := by decide +kernel
theorem dX0_stepOnce_7 : decode cX0_stepOnce 7 = .ok (.getfield 13, 3) := by decide +kernel
theorem dX0_stepOnce_10 : decode cX0_stepOnce 10 = .ok (.iload 4, 2) := by decide +kernel
theorem dX0_stepOnce_12 : decode cX0_stepOnce 12 = .ok (.bipush 64, 2) := by decide +kernel
theorem dX0_stepOnce_14 : decode cX0_stepOnce 14 = .ok (.isub, 1) := by decide +kernel
theorem dX0_stepOnce_15 : decode cX0_stepOnce 15 = .ok (.aload_n 0, 1) := by decide +kernel
theorem dX0_stepOnce_16 : decode cX0_stepOnce 16 = .ok (.getfield 13, 3) := by decide +kernel
theorem dX0_stepOnce_19 : decode cX0_stepOnce 19 = .ok (.iload 4, 2) := by decide +kernel
theorem dX0_stepOnce_21 : decode cX0_stepOnce 21 = .ok (.aload_n 1, 1) := by decide +kernel
theorem dX0_stepOnce_22 : decode cX0_stepOnce 22 = .ok (.getfield 42, 3) := by decide +kernel
theorem dX0_stepOnce_25 : decode cX0_stepOnce 25 = .ok (.invokestatic 64, 3) := by decide +kernel
theorem dX0_stepOnce_28 : decode cX0_stepOnce 28 = .ok (.aload_n 0, 1) := by decide +kernel
theorem dX0_stepOnce_29 : decode cX0_stepOnce 29 = .ok (.getfield 17, 3) := by decide +kernel
theorem dX0_stepOnce_32 : decode cX0_stepOnce 32 = .ok (.iload 4, 2) := by decide +kernel
theorem dX0_stepOnce_34 : decode cX0_stepOnce 34 = .ok (.bipush 64, 2) := by decide +kernel
theorem dX0_stepOnce_36 : decode cX0_stepOnce 36 = .ok (.isub, 1) := by decide +kernel
theorem dX0_stepOnce_37 : decode cX0_stepOnce 37 = .ok (.aload_n 0, 1) := by decide +kernel
theorem dX0_stepOnce_38 : decode cX0_stepOnce 38 = .ok (.getfield 17, 3) := by decide +kernel
theorem dX0_stepOnce_41 : decode cX0_stepOnce 41 = .ok (.iload 4, 2) := by decide +kernel
theorem dX0_stepOnce_43 : decode cX0_stepOnce 43 = .ok (.aload_n 1, 1) := by decide +kernel
theorem dX0_stepOnce_44 : decode cX0_stepOnce 44 = .ok (.getfield 42, 3) := by decide +kernel
theorem dX0_stepOnce_47 : decode cX0_stepOnce 47 = .ok (.invokestatic 64, 3) := by decide +kernel
theorem dX0_stepOnce_50 : decode cX0_stepOnce 50 = .ok (.aload_n 0, 1) := by decide +kernel
theorem dX0_stepOnce_51 : decode cX0_stepOnce 51 = .ok (.getfield 26, 3) := by decide +kernel
theorem dX0_stepOnce_54 : decode cX0_stepOnce 54 = .ok (.iconst 0, 1) := by decide +kernel
theorem dX0_stepOnce_55 : decode cX0_stepOnce 55 = .ok (.invokestatic 70, 3) := by decide +kernel
theorem dX0_stepOnce_58 : decode cX0_stepOnce 58 = .ok (.aload_n 0, 1) := by decide +kernel
theorem dX0_stepOnce_59 : decode cX0_stepOnce 59 = .ok (.getfield 29, 3) := by decide +kernel
theorem dX0_stepOnce_62 : decode cX0_stepOnce 62 = .ok (.iconst 0, 1) := by decide +kernel
theorem dX0_stepOnce_63 : decode cX0_stepOnce 63 = .ok (.invokestatic 70, 3) := by decide +kernel
theorem dX0_stepOnce_66 : decode cX0_stepOnce 66 = .ok (.iload_n 3, 1) := by decide +kernel
theorem dX0_stepOnce_67 : decode cX0_stepOnce 67 = .ok (.aload_n 2, 1) := by decide +kernel
theorem dX0_stepOnce_68 : decode cX0_stepOnce 68 = .ok (.getfield 76, 3) := by decide +kernel
theorem dX0_stepOnce_71 : decode cX0_stepOnce 71 = .ok (.if_icmp .gt 42, 3) := by decide +kernel
theorem dX0_stepOnce_74 : decode cX0_stepOnce 74 = .ok (.aload_n 0, 1) := by decide +kernel
theorem dX0_stepOnce_75 : decode cX0_stepOnce 75 = .ok (.getfield 13, 3) := by decide +kernel
theorem dX0_stepOnce_78 : decode cX0_stepOnce 78 = .ok (.iload 4, 2) := by decide +kernel
theorem dX0_stepOnce_80 : decode cX0_stepOnce 80 = .ok (.aload_n 2, 1) := by decide +kernel
theorem dX0_stepOnce_81 : decode cX0_stepOnce 81 = .ok (.getfield 81, 3) := by decide +kernel
theorem dX0_stepOnce_84 : decode cX0_stepOnce 84 = .ok (.iadd, 1) := by decide +kernel
theorem dX0_stepOnce_85 : decode cX0_stepOnce 85 = .ok (.dup2, 1) := by decide +kernel
theorem dX0_stepOnce_86 : decode cX0_stepOnce 86 = .ok (.iaload, 1) := by decide +kernel
theorem dX0_stepOnce_87 : decode cX0_stepOnce 87 = .ok (.aload_n 2, 1) := by decide +kernel
theorem dX0_stepOnce_88 : decode cX0_stepOnce 88 = .ok (.getfield 84, 3) := by decide +kernel
theorem dX0_stepOnce_91 : decode cX0_stepOnce 91 = .ok (.iadd, 1) := by decide +kernel
theorem dX0_stepOnce_92 : decode cX0_stepOnce 92 = .ok (.iastore, 1) := by decide +kernel
theorem dX0_stepOnce_93 : decode cX0_stepOnce 93 = .ok (.aload_n 0, 1) := by decide +kernel
theorem dX0_stepOnce_94 : decode cX0_stepOnce 94 = .ok (.getfield 29, 3) := by decide +kernel
theorem dX0_stepOnce_97 : decode cX0_stepOnce 97 = .ok (.aload_n 2, 1) := by decide +kernel
theorem dX0_stepOnce_98 : decode cX0_stepOnce 98 = .ok (.getfield 81, 3) := by decide +kernel
theorem dX0_stepOnce_101 : decode cX0_stepOnce 101 = .ok (.iconst 1, 1) := by decide +kernel
theorem dX0_stepOnce_102 : decode cX0_stepOnce 102 = .ok (.iastore, 1) := by decide +kernel
theorem dX0_stepOnce_103 : decode cX0_stepOnce 103 = .ok (.aload_n 0, 1) := by decide +kernel
theorem dX0_stepOnce_104 : decode cX0_stepOnce 104 = .ok (.getfield 20, 3) := by decide +kernel
theorem dX0_stepOnce_107 : decode cX0_stepOnce 107 = .ok (.aload_n 2, 1) := by decide +kernel
theorem dX0_stepOnce_108 : decode cX0_stepOnce 108 = .ok (.getfield 81, 3) := by decide +kernel
theorem dX0_stepOnce_111 : decode cX0_stepOnce 111 = .ok (.iconst 1, 1) := by decide +kernel
theorem dX0_stepOnce_112 : decode cX0_stepOnce 112 = .ok (.iastore, 1) := by decide +kernel
theorem dX0_stepOnce_113 : decode cX0_stepOnce 113 = .ok (.iconst 0, 1) := by decide +kernel
theorem dX0_stepOnce_114 : decode cX0_stepOnce 114 = .ok (.istore 5, 2) := by decide +kernel
theorem dX0_stepOnce_116 : decode cX0_stepOnce 116 = .ok (.iload 5, 2) := by decide +kernel
theorem dX0_stepOnce_118 : decode cX0_stepOnce 118 = .ok (.aload_n 1, 1) := by decide +kernel
theorem dX0_stepOnce_119 : decode cX0_stepOnce 119 = .ok (.getfield 42, 3) := by decide +kernel
theorem dX0_stepOnce_122 : decode cX0_stepOnce 122 = .ok (.if_icmp .ge 37, 3) := by decide +kernel
theorem dX0_stepOnce_125 : decode cX0_stepOnce 125 = .ok (.aload_n 0, 1) := by decide +kernel
theorem dX0_stepOnce_126 : decode cX0_stepOnce 126 = .ok (.getfield 23, 3) := by decide +kernel
theorem dX0_stepOnce_129 : decode cX0_stepOnce 129 = .ok (.iload 5, 2) := by decide +kernel
theorem dX0_stepOnce_131 : decode cX0_stepOnce 131 = .ok (.aload_n 0, 1) := by decide +kernel
theorem dX0_stepOnce_132 : decode cX0_stepOnce 132 = .ok (.getfield 17, 3) := by decide +kernel
theorem dX0_stepOnce_135 : decode cX0_stepOnce 135 = .ok (.iload 4, 2) := by decide +kernel
theorem dX0_stepOnce_137 : decode cX0_stepOnce 137 = .ok (.iload 5, 2) := by decide +kernel
theorem dX0_stepOnce_139 : decode cX0_stepOnce 139 = .ok (.iadd, 1) := by decide +kernel
theorem dX0_stepOnce_140 : decode cX0_stepOnce 140 = .ok (.iaload, 1) := by decide +kernel
theorem dX0_stepOnce_141 : decode cX0_stepOnce 141 = .ok (.aload_n 0, 1) := by decide +kernel
theorem dX0_stepOnce_142 : decode cX0_stepOnce 142 = .ok (.getfield 13, 3) := by decide +kernel
theorem dX0_stepOnce_145 : decode cX0_stepOnce 145 = .ok (.iload 4, 2) := by decide +kernel
theorem dX0_stepOnce_147 : decode cX0_stepOnce 147 = .ok (.iload 5, 2) := by decide +kernel
theorem dX0_stepOnce_149 : decode cX0_stepOnce 149 = .ok (.iadd, 1) := by decide +kernel
theorem dX0_stepOnce_150 : decode cX0_stepOnce 150 = .ok (.iaload, 1) := by decide +kernel
theorem dX0_stepOnce_151 : decode cX0_stepOnce 151 = .ok (.iadd, 1) := by decide +kernel
theorem dX0_stepOnce_152 : decode cX0_stepOnce 152 = .ok (.iastore, 1) := by decide +kernel
theorem dX0_stepOnce_153 : decode cX0_stepOnce 153 = .ok (.iinc 5 1, 3) := by decide +kernel
theorem dX0_stepOnce_156 : decode cX0_stepOnce 156 = .ok (.goto (-40), 3) := by decide +kernel
theorem dX0_stepOnce_159 : decode cX0_stepOnce 159 = .ok (.iconst 0, 1) := by decide +kernel
theorem dX0_stepOnce_160 : decode cX0_stepOnce 160 = .ok (.istore 5, 2) := by decide +kernel
theorem dX0_stepOnce_162 : decode cX0_stepOnce 162 = .ok (.iload 5, 2) := by decide +kernel
theorem dX0_stepOnce_164 : decode cX0_stepOnce 164 = .ok (.aload_n 1, 1) := by decide +kernel
theorem dX0_stepOnce_165 : decode cX0_stepOnce 165 = .ok (.getfield 42, 3) := by decide +kernel
theorem dX0_stepOnce_168 : decode cX0_stepOnce 168 = .ok (.if_icmp .ge 45, 3) := by decide +kernel
theorem dX0_stepOnce_171 : decode cX0_stepOnce 171 = .ok (.aload_n 0, 1) := by decide +kernel
theorem dX0_stepOnce_172 : decode cX0_stepOnce 172 = .ok (.getfield 13, 3) := by decide +kernel
theorem dX0_stepOnce_175 : decode cX0_stepOnce 175 = .ok (.iload 4, 2) := by decide +kernel
theorem dX0_stepOnce_177 : decode cX0_stepOnce 177 = .ok (.iload 5, 2) := by decide +kernel
theorem dX0_stepOnce_179 : decode cX0_stepOnce 179 = .ok (.iadd, 1) := by decide +kernel
theorem dX0_stepOnce_180 : decode cX0_stepOnce 180 = .ok (.iaload, 1) := by decide +kernel
theorem dX0_stepOnce_181 : decode cX0_stepOnce 181 = .ok (.ifCond .le 26, 3) := by decide +kernel
theorem dX0_stepOnce_184 : decode cX0_stepOnce 184 = .ok (.aload_n 0, 1) := by decide +kernel
theorem dX0_stepOnce_185 : decode cX0_stepOnce 185 = .ok (.iload 5, 2) := by decide +kernel
theorem dX0_stepOnce_187 : decode cX0_stepOnce 187 = .ok (.aload_n 0, 1) := by decide +kernel
theorem dX0_stepOnce_188 : decode cX0_stepOnce 188 = .ok (.aload_n 1, 1) := by decide +kernel
theorem dX0_stepOnce_189 : decode cX0_stepOnce 189 = .ok (.iload 5, 2) := by decide +kernel
theorem dX0_stepOnce_191 : decode cX0_stepOnce 191 = .ok (.invokevirtual 87, 3) := by decide +kernel
theorem dX0_stepOnce_194 : decode cX0_stepOnce 194 = .ok (.aload_n 0, 1) := by decide +kernel
theorem dX0_stepOnce_195 : decode cX0_stepOnce 195 = .ok (.getfield 13, 3) := by decide +kernel
theorem dX0_stepOnce_198 : decode cX0_stepOnce 198 = .ok (.iload 4, 2) := by decide +kernel
theorem dX0_stepOnce_200 : decode cX0_stepOnce 200 = .ok (.iload 5, 2) := by decide +kernel
theorem dX0_stepOnce_202 : decode cX0_stepOnce 202 = .ok (.iadd, 1) := by decide +kernel
theorem dX0_stepOnce_203 : decode cX0_stepOnce 203 = .ok (.iaload, 1) := by decide +kernel
theorem dX0_stepOnce_204 : decode cX0_stepOnce 204 = .ok (.invokevirtual 91, 3) := by decide +kernel
theorem dX0_stepOnce_207 : decode cX0_stepOnce 207 = .ok (.iinc 5 1, 3) := by decide +kernel
theorem dX0_stepOnce_210 : decode cX0_stepOnce 210 = .ok (.goto (-48), 3) := by decide +kernel
theorem dX0_stepOnce_213 : decode cX0_stepOnce 213 = .ok (.iconst 0, 1) := by decide +kernel
theorem dX0_stepOnce_214 : decode cX0_stepOnce 214 = .ok (.istore 5, 2) := by decide +kernel
theorem dX0_stepOnce_216 : decode cX0_stepOnce 216 = .ok (.iload 5, 2) := by decide +kernel
theorem dX0_stepOnce_218 : decode cX0_stepOnce 218 = .ok (.aload_n 1, 1) := by decide +kernel
theorem dX0_stepOnce_219 : decode cX0_stepOnce 219 = .ok (.getfield 42, 3) := by decide +kernel
theorem dX0_stepOnce_222 : decode cX0_stepOnce 222 = .ok (.if_icmp .ge 51, 3) := by decide +kernel
theorem dX0_stepOnce_225 : decode cX0_stepOnce 225 = .ok (.aload_n 0, 1) := by decide +kernel
theorem dX0_stepOnce_226 : decode cX0_stepOnce 226 = .ok (.getfield 13, 3) := by decide +kernel
theorem dX0_stepOnce_229 : decode cX0_stepOnce 229 = .ok (.iload 4, 2) := by decide +kernel
theorem dX0_stepOnce_231 : decode cX0_stepOnce 231 = .ok (.iload 5, 2) := by decide +kernel
theorem dX0_stepOnce_233 : decode cX0_stepOnce 233 = .ok (.iadd, 1) := by decide +kernel
theorem dX0_stepOnce_234 : decode cX0_stepOnce 234 = .ok (.dup2, 1) := by decide +kernel
theorem dX0_stepOnce_235 : decode cX0_stepOnce 235 = .ok (.iaload, 1) := by decide +kernel
theorem dX0_stepOnce_236 : decode cX0_stepOnce 236 = .ok (.aload_n 0, 1) := by decide +kernel
theorem dX0_stepOnce_237 : decode cX0_stepOnce 237 = .ok (.getfield 26, 3) := by decide +kernel
theorem dX0_stepOnce_240 : decode cX0_stepOnce 240 = .ok (.iload 5, 2) := by decide +kernel
theorem dX0_stepOnce_242 : decode cX0_stepOnce 242 = .ok (.iaload, 1) := by decide +kernel
theorem dX0_stepOnce_243 : decode cX0_stepOnce 243 = .ok (.iadd, 1) := by decide +kernel
theorem dX0_stepOnce_244 : decode cX0_stepOnce 244 = .ok (.iastore, 1) := by decide +kernel
theorem dX0_stepOnce_245 : decode cX0_stepOnce 245 = .ok (.aload_n 0, 1) := by decide +kernel
theorem dX0_stepOnce_246 : decode cX0_stepOnce 246 = .ok (.getfield 13, 3) := by decide +kernel
theorem dX0_stepOnce_249 : decode cX0_stepOnce 249 = .ok (.iload 4, 2) := by decide +kernel
theorem dX0_stepOnce_251 : decode cX0_stepOnce 251 = .ok (.iload 5, 2) := by decide +kernel
theorem dX0_stepOnce_253 : decode cX0_stepOnce 253 = .ok (.iadd, 1) := by decide +kernel
theorem dX0_stepOnce_254 : decode cX0_stepOnce 254 = .ok (.iaload, 1) := by decide +kernel
theorem dX0_stepOnce_255 : decode cX0_stepOnce 255 = .ok (.ifCond .le 12, 3) := by decide +kernel
theorem dX0_stepOnce_258 : decode cX0_stepOnce 258 = .ok (.aload_n 0, 1) := by decide +kernel
theorem dX0_stepOnce_259 : decode cX0_stepOnce 259 = .ok (.iload 4, 2) := by decide +kernel
theorem dX0_stepOnce_261 : decode cX0_stepOnce 261 = .ok (.iload 5, 2) := by decide +kernel
theorem dX0_stepOnce_263 : decode cX0_stepOnce 263 = .ok (.iload_n 3, 1) := by decide +kernel
theorem dX0_stepOnce_264 : decode cX0_stepOnce 264 = .ok (.invokevirtual 95, 3) := by decide +kernel
theorem dX0_stepOnce_267 : decode cX0_stepOnce 267 = .ok (.iinc 5 1, 3) := by decide +kernel
theorem dX0_stepOnce_270 : decode cX0_stepOnce 270 = .ok (.goto (-54), 3) := by decide +kernel
theorem dX0_stepOnce_273 : decode cX0_stepOnce 273 = .ok (.return_, 1) := by decide +kernel
theorem dX0_give_0 : decode cX0_give 0 = .ok (.aload_n 0, 1) := by decide +kernel
theorem dX0_give_1 : decode cX0_give 1 = .ok (.getfield 23, 3) := by decide +kernel
theorem dX0_give_4 : decode cX0_give 4 = .ok (.iload_n 1, 1) := by decide +kernel
theorem dX0_give_5 : decode cX0_give 5 = .ok (.iaload, 1) := by decide +kernel
theorem dX0_give_6 : decode cX0_give 6 = .ok (.aload_n 0, 1) := by decide +kernel
theorem dX0_give_7 : decode cX0_give 7 = .ok (.getfield 23, 3) := by decide +kernel
theorem dX0_give_10 : decode cX0_give 10 = .ok (.iload_n 2, 1) := by decide +kernel
theorem dX0_give_11 : decode cX0_give 11 = .ok (.iaload, 1) := by decide +kernel
theorem dX0_give_12 : decode cX0_give 12 = .ok (.isub, 1) := by decide +kernel
theorem dX0_give_13 : decode cX0_give 13 = .ok (.istore 4, 2) := by decide +kernel
theorem dX0_give_15 : decode cX0_give 15 = .ok (.iload 4, 2) := by decide +kernel
theorem dX0_give_17 : decode cX0_give 17 = .ok (.iconst 2, 1) := by decide +kernel
theorem dX0_give_18 : decode cX0_give 18 = .ok (.if_icmp .lt 49, 3) := by decide +kernel
theorem dX0_give_21 : decode cX0_give 21 = .ok (.iload 4, 2) := by decide +kernel
theorem dX0_give_23 : decode cX0_give 23 = .ok (.iconst 2, 1) := by decide +kernel
theorem dX0_give_24 : decode cX0_give 24 = .ok (.idiv, 1) := by decide +kernel
theorem dX0_give_25 : decode cX0_give 25 = .ok (.iload_n 3, 1) := by decide +kernel
theorem dX0_give_26 : decode cX0_give 26 = .ok (.invokestatic 98, 3) := by decide +kernel
theorem dX0_give_29 : decode cX0_give 29 = .ok (.istore 5, 2) := by decide +kernel
theorem dX0_give_31 : decode cX0_give 31 = .ok (.aload_n 0, 1) := by decide +kernel
theorem dX0_give_32 : decode cX0_give 32 = .ok (.getfield 26, 3) := by decide +kernel
theorem dX0_give_35 : decode cX0_give 35 = .ok (.iload_n 1, 1) := by decide +kernel
theorem dX0_give_36 : decode cX0_give 36 = .ok (.dup2, 1) := by decide +kernel
theorem dX0_give_37 : decode cX0_give 37 = .ok (.iaload, 1) := by decide +kernel
theorem dX0_give_38 : decode cX0_give 38 = .ok (.iload 5, 2) := by decide +kernel
theorem dX0_give_40 : decode cX0_give 40 = .ok (.isub, 1) := by decide +kernel
theorem dX0_give_41 : decode cX0_give 41 = .ok (.iastore, 1) := by decide +kernel
theorem dX0_give_42 : decode cX0_give 42 = .ok (.aload_n 0, 1) := by decide +kernel
theorem dX0_give_43 : decode cX0_give 43 = .ok (.getfield 26, 3) := by decide +kernel
theorem dX0_give_46 : decode cX0_give 46 = .ok (.iload_n 2, 1) := by decide +kernel
theorem dX0_give_47 : decode cX0_give 47 = .ok (.dup2, 1) := by decide +kernel
theorem dX0_give_48 : decode cX0_give 48 = .ok (.iaload, 1) := by decide +kernel
theorem dX0_give_49 : decode cX0_give 49 = .ok (.iload 5, 2) := by decide +kernel
theorem dX0_give_51 : decode cX0_give 51 = .ok (.iadd, 1) := by decide +kernel
theorem dX0_give_52 : decode cX0_give 52 = .ok (.iastore, 1) := by decide +kernel
theorem dX0_give_53 : decode cX0_give 53 = .ok (.aload_n 0, 1) := by decide +kernel
theorem dX0_give_54 : decode cX0_give 54 = .ok (.getfield 29, 3) := by decide +kernel
theorem dX0_give_57 : decode cX0_give 57 = .ok (.iload_n 1, 1) := by decide +kernel
theorem dX0_give_58 : decode cX0_give 58 = .ok (.iconst 1, 1) := by decide +kernel
theorem dX0_give_59 : decode cX0_give 59 = .ok (.iastore, 1) := by decide +kernel
theorem dX0_give_60 : decode cX0_give 60 = .ok (.aload_n 0, 1) := by decide +kernel
theorem dX0_give_61 : decode cX0_give 61 = .ok (.getfield 29, 3) := by decide +kernel
theorem dX0_give_64 : decode cX0_give 64 = .ok (.iload_n 2, 1) := by decide +kernel
theorem dX0_give_65 : decode cX0_give 65 = .ok (.iconst 1, 1) := by decide +kernel
theorem dX0_give_66 : decode cX0_give 66 = .ok (.iastore, 1) := by decide +kernel
theorem dX0_give_67 : decode cX0_give 67 = .ok (.return_, 1) := by decide +kernel
theorem dX0_lowestBeside_0 : decode cX0_lowestBeside 0 = .ok (.aload_n 1, 1) := by decide +kernel
theorem dX0_lowestBeside_1 : decode cX0_lowestBeside 1 = .ok (.iload_n 2, 1) := by decide +kernel
theorem dX0_lowestBeside_2 : decode cX0_lowestBeside 2 = .ok (.invokevirtual 104, 3) := by decide +kernel
theorem dX0_lowestBeside_5 : decode cX0_lowestBeside 5 = .ok (.istore_n 3, 1) := by decide +kernel
theorem dX0_lowestBeside_6 : decode cX0_lowestBeside 6 = .ok (.iconst (-1), 1) := by decide +kernel
theorem dX0_lowestBeside_7 : decode cX0_lowestBeside 7 = .ok (.istore 4, 2) := by decide +kernel
theorem dX0_lowestBeside_9 : decode cX0_lowestBeside 9 = .ok (.iload_n 2, 1) := by decide +kernel
theorem dX0_lowestBeside_10 : decode cX0_lowestBeside 10 = .ok (.aload_n 1, 1) := by decide +kernel
theorem dX0_lowestBeside_11 : decode cX0_lowestBeside 11 = .ok (.getfield 107, 3) := by decide +kernel
theorem dX0_lowestBeside_14 : decode cX0_lowestBeside 14 = .ok (.if_icmp .lt 11, 3) := by decide +kernel
theorem dX0_lowestBeside_17 : decode cX0_lowestBeside 17 = .ok (.iload_n 2, 1) := by decide +kernel
theorem dX0_lowestBeside_18 : decode cX0_lowestBeside 18 = .ok (.aload_n 1, 1) := by decide +kernel
theorem dX0_lowestBeside_19 : decode cX0_lowestBeside 19 = .ok (.getfield 107, 3) := by decide +kernel
theorem dX0_lowestBeside_22 : decode cX0_lowestBeside 22 = .ok (.isub, 1) := by decide +kernel
theorem dX0_lowestBeside_23 : decode cX0_lowestBeside 23 = .ok (.istore 4, 2) := by decide +kernel
theorem dX0_lowestBeside_25 : decode cX0_lowestBeside 25 = .ok (.iload_n 3, 1) := by decide +kernel
theorem dX0_lowestBeside_26 : decode cX0_lowestBeside 26 = .ok (.ifCond .le 14, 3) := by decide +kernel
theorem dX0_lowestBeside_29 : decode cX0_lowestBeside 29 = .ok (.aload_n 0, 1) := by decide +kernel
theorem dX0_lowestBeside_30 : decode cX0_lowestBeside 30 = .ok (.iload 4, 2) := by decide +kernel
theorem dX0_lowestBeside_32 : decode cX0_lowestBeside 32 = .ok (.iload_n 2, 1) := by decide +kernel
theorem dX0_lowestBeside_33 : decode cX0_lowestBeside 33 = .ok (.iconst 1, 1) := by decide +kernel
theorem dX0_lowestBeside_34 : decode cX0_lowestBeside 34 = .ok (.isub, 1) := by decide +kernel
theorem dX0_lowestBeside_35 : decode cX0_lowestBeside 35 = .ok (.invokevirtual 110, 3) := by decide +kernel
theorem dX0_lowestBeside_38 : decode cX0_lowestBeside 38 = .ok (.istore 4, 2) := by decide +kernel
theorem dX0_lowestBeside_40 : decode cX0_lowestBeside 40 = .ok (.iload_n 3, 1) := by decide +kernel
theorem dX0_lowestBeside_41 : decode cX0_lowestBeside 41 = .ok (.aload_n 1, 1) := by decide +kernel
theorem dX0_lowestBeside_42 : decode cX0_lowestBeside 42 = .ok (.getfield 107, 3) := by decide +kernel
theorem dX0_lowestBeside_45 : decode cX0_lowestBeside 45 = .ok (.iconst 1, 1) := by decide +kernel
theorem dX0_lowestBeside_46 : decode cX0_lowestBeside 46 = .ok (.isub, 1) := by decide +kernel
theorem dX0_lowestBeside_47 : decode cX0_lowestBeside 47 = .ok (.if_icmp .ge 14, 3) := by decide +kernel
theorem dX0_lowestBeside_50 : decode cX0_lowestBeside 50 = .ok (.aload_n 0, 1) := by decide +kernel
theorem dX0_lowestBeside_51 : decode cX0_lowestBeside 51 = .ok (.iload 4, 2) := by decide +kernel
theorem dX0_lowestBeside_53 : decode cX0_lowestBeside 53 = .ok (.iload_n 2, 1) := by decide +kernel
theorem dX0_lowestBeside_54 : decode cX0_lowestBeside 54 = .ok (.iconst 1, 1) := by decide +kernel
theorem dX0_lowestBeside_55 : decode cX0_lowestBeside 55 = .ok (.iadd, 1) := by decide +kernel
theorem dX0_lowestBeside_56 : decode cX0_lowestBeside 56 = .ok (.invokevirtual 110, 3) := by decide +kernel
theorem dX0_lowestBeside_59 : decode cX0_lowestBeside 59 = .ok (.istore 4, 2) := by decide +kernel
theorem dX0_lowestBeside_61 : decode cX0_lowestBeside 61 = .ok (.iload_n 2, 1) := by decide +kernel
theorem dX0_lowestBeside_62 : decode cX0_lowestBeside 62 = .ok (.aload_n 1, 1) := by decide +kernel
theorem dX0_lowestBeside_63 : decode cX0_lowestBeside 63 = .ok (.getfield 107, 3) := by decide +kernel
theorem dX0_lowestBeside_66 : decode cX0_lowestBeside 66 = .ok (.iadd, 1) := by decide +kernel
theorem dX0_lowestBeside_67 : decode cX0_lowestBeside 67 = .ok (.aload_n 1, 1) := by decide +kernel
theorem dX0_lowestBeside_68 : decode cX0_lowestBeside 68 = .ok (.getfield 42, 3) := by decide +kernel
theorem dX0_lowestBeside_71 : decode cX0_lowestBeside 71 = .ok (.if_icmp .ge 17, 3) := by decide +kernel
theorem dX0_lowestBeside_74 : decode cX0_lowestBeside 74 = .ok (.aload_n 0, 1) := by decide +kernel
theorem dX0_lowestBeside_75 : decode cX0_lowestBeside 75 = .ok (.iload 4, 2) := by decide +kernel
theorem dX0_lowestBeside_77 : decode cX0_lowestBeside 77 = .ok (.iload_n 2, 1) := by decide +kernel
theorem dX0_lowestBeside_78 : decode cX0_lowestBeside 78 = .ok (.aload_n 1, 1) := by decide +kernel
theorem dX0_lowestBeside_79 : decode cX0_lowestBeside 79 = .ok (.getfield 107, 3) := by decide +kernel
theorem dX0_lowestBeside_82 : decode cX0_lowestBeside 82 = .ok (.iadd, 1) := by decide +kernel
theorem dX0_lowestBeside_83 : decode cX0_lowestBeside 83 = .ok (.invokevirtual 110, 3) := by decide +kernel
theorem dX0_lowestBeside_86 : decode cX0_lowestBeside 86 = .ok (.istore 4, 2) := by decide +kernel
theorem dX0_lowestBeside_88 : decode cX0_lowestBeside 88 = .ok (.iload 4, 2) := by decide +kernel
theorem dX0_lowestBeside_90 : decode cX0_lowestBeside 90 = .ok (.iconst (-1), 1) := by decide +kernel
theorem dX0_lowestBeside_91 : decode cX0_lowestBeside 91 = .ok (.if_icmp .ne 7, 3) := by decide +kernel
theorem dX0_lowestBeside_94 : decode cX0_lowestBeside 94 = .ok (.iload_n 2, 1) := by decide +kernel
theorem dX0_lowestBeside_95 : decode cX0_lowestBeside 95 = .ok (.goto 5, 3) := by decide +kernel
theorem dX0_lowestBeside_98 : decode cX0_lowestBeside 98 = .ok (.iload 4, 2) := by decide +kernel
theorem dX0_lowestBeside_100 : decode cX0_lowestBeside 100 = .ok (.ireturn, 1) := by decide +kernel
theorem dX0_lowerOf_0 : decode cX0_lowerOf 0 = .ok (.iload_n 1, 1) := by decide +kernel
theorem dX0_lowerOf_1 : decode cX0_lowerOf 1 = .ok (.iconst (-1), 1) := by decide +kernel
theorem dX0_lowerOf_2 : decode cX0_lowerOf 2 = .ok (.if_icmp .eq 18, 3) := by decide +kernel
theorem dX0_lowerOf_5 : decode cX0_lowerOf 5 = .ok (.aload_n 0, 1) := by decide +kernel
theorem dX0_lowerOf_6 : decode cX0_lowerOf 6 = .ok (.getfield 23, 3) := by decide +kernel
theorem dX0_lowerOf_9 : decode cX0_lowerOf 9 = .ok (.iload_n 2, 1) := by decide +kernel
theorem dX0_lowerOf_10 : decode cX0_lowerOf 10 = .ok (.iaload, 1) := by decide +kernel
theorem dX0_lowerOf_11 : decode cX0_lowerOf 11 = .ok (.aload_n 0, 1) := by decide +kernel
theorem dX0_lowerOf_12 : decode cX0_lowerOf 12 = .ok (.getfield 23, 3) := by decide +kernel
theorem dX0_lowerOf_15 : decode cX0_lowerOf 15 = .ok (.iload_n 1, 1) := by decide +kernel
theorem dX0_lowerOf_16 : decode cX0_lowerOf 16 = .ok (.iaload, 1) := by decide +kernel
theorem dX0_lowerOf_17 : decode cX0_lowerOf 17 = .ok (.if_icmp .ge 7, 3) := by decide +kernel
theorem dX0_lowerOf_20 : decode cX0_lowerOf 20 = .ok (.iload_n 2, 1) := by decide +kernel
theorem dX0_lowerOf_21 : decode cX0_lowerOf 21 = .ok (.goto 4, 3) := by decide +kernel
theorem dX0_lowerOf_24 : decode cX0_lowerOf 24 = .ok (.iload_n 1, 1) := by decide +kernel
theorem dX0_lowerOf_25 : decode cX0_lowerOf 25 = .ok (.ireturn, 1) := by decide +kernel
theorem dX0_rest_0 : decode cX0_rest 0 = .ok (.aload_n 0, 1) := by decide +kernel
theorem dX0_rest_1 : decode cX0_rest 1 = .ok (.getfield 29, 3) := by decide +kernel
theorem dX0_rest_4 : decode cX0_rest 4 = .ok (.iload_n 2, 1) := by decide +kernel
theorem dX0_rest_5 : decode cX0_rest 5 = .ok (.iaload, 1) := by decide +kernel
theorem dX0_rest_6 : decode cX0_rest 6 = .ok (.ifCond .ne 27, 3) := by decide +kernel
theorem dX0_rest_9 : decode cX0_rest 9 = .ok (.aload_n 0, 1) := by decide +kernel
theorem dX0_rest_10 : decode cX0_rest 10 = .ok (.getfield 13, 3) := by decide +kernel
theorem dX0_rest_13 : decode cX0_rest 13 = .ok (.iload_n 1, 1) := by decide +kernel
theorem dX0_rest_14 : decode cX0_rest 14 = .ok (.iload_n 2, 1) := by decide +kernel
theorem dX0_rest_15 : decode cX0_rest 15 = .ok (.iadd, 1) := by decide +kernel
theorem dX0_rest_16 : decode cX0_rest 16 = .ok (.dup2, 1) := by decide +kernel
theorem dX0_rest_17 : decode cX0_rest 17 = .ok (.iaload, 1) := by decide +kernel
theorem dX0_rest_18 : decode cX0_rest 18 = .ok (.iconst 1, 1) := by decide +kernel
theorem dX0_rest_19 : decode cX0_rest 19 = .ok (.isub, 1) := by decide +kernel
theorem dX0_rest_20 : decode cX0_rest 20 = .ok (.iastore, 1) := by decide +kernel
theorem dX0_rest_21 : decode cX0_rest 21 = .ok (.aload_n 0, 1) := by decide +kernel
theorem dX0_rest_22 : decode cX0_rest 22 = .ok (.getfield 17, 3) := by decide +kernel
theorem dX0_rest_25 : decode cX0_rest 25 = .ok (.iload_n 1, 1) := by decide +kernel
theorem dX0_rest_26 : decode cX0_rest 26 = .ok (.iload_n 2, 1) := by decide +kernel
theorem dX0_rest_27 : decode cX0_rest 27 = .ok (.iadd, 1) := by decide +kernel
theorem dX0_rest_28 : decode cX0_rest 28 = .ok (.dup2, 1) := by decide +kernel
theorem dX0_rest_29 : decode cX0_rest 29 = .ok (.iaload, 1) := by decide +kernel
theorem dX0_rest_30 : decode cX0_rest 30 = .ok (.iconst 1, 1) := by decide +kernel
theorem dX0_rest_31 : decode cX0_rest 31 = .ok (.iadd, 1) := by decide +kernel
theorem dX0_rest_32 : decode cX0_rest 32 = .ok (.iastore, 1) := by decide +kernel
theorem dX0_rest_33 : decode cX0_rest 33 = .ok (.aload_n 0, 1) := by decide +kernel
theorem dX0_rest_34 : decode cX0_rest 34 = .ok (.getfield 20, 3) := by decide +kernel
theorem dX0_rest_37 : decode cX0_rest 37 = .ok (.iload_n 2, 1) := by decide +kernel
theorem dX0_rest_38 : decode cX0_rest 38 = .ok (.aload_n 0, 1) := by decide +kernel
theorem dX0_rest_39 : decode cX0_rest 39 = .ok (.getfield 20, 3) := by decide +kernel
theorem dX0_rest_42 : decode cX0_rest 42 = .ok (.iload_n 2, 1) := by decide +kernel
theorem dX0_rest_43 : decode cX0_rest 43 = .ok (.iaload, 1) := by decide +kernel
theorem dX0_rest_44 : decode cX0_rest 44 = .ok (.iload_n 3, 1) := by decide +kernel
theorem dX0_rest_45 : decode cX0_rest 45 = .ok (.invokestatic 98, 3) := by decide +kernel
theorem dX0_rest_48 : decode cX0_rest 48 = .ok (.iastore, 1) := by decide +kernel
theorem dX0_rest_49 : decode cX0_rest 49 = .ok (.return_, 1) := by decide +kernel
theorem dX0_shutsLike_0 : decode cX0_shutsLike 0 = .ok (.iconst 0, 1) := by decide +kernel
theorem dX0_shutsLike_1 : decode cX0_shutsLike 1 = .ok (.istore_n 3, 1) := by decide +kernel
theorem dX0_shutsLike_2 : decode cX0_shutsLike 2 = .ok (.iload_n 3, 1) := by decide +kernel
theorem dX0_shutsLike_3 : decode cX0_shutsLike 3 = .ok (.aload_n 2, 1) := by decide +kernel
theorem dX0_shutsLike_4 : decode cX0_shutsLike 4 = .ok (.getfield 113, 3) := by decide +kernel
theorem dX0_shutsLike_7 : decode cX0_shutsLike 7 = .ok (.if_icmp .ge 42, 3) := by decide +kernel
theorem dX0_shutsLike_10 : decode cX0_shutsLike 10 = .ok (.aload_n 2, 1) := by decide +kernel
theorem dX0_shutsLike_11 : decode cX0_shutsLike 11 = .ok (.getfield 116, 3) := by decide +kernel
theorem dX0_shutsLike_14 : decode cX0_shutsLike 14 = .ok (.iload_n 3, 1) := by decide +kernel
theorem dX0_shutsLike_15 : decode cX0_shutsLike 15 = .ok (.iaload, 1) := by decide +kernel
theorem dX0_shutsLike_16 : decode cX0_shutsLike 16 = .ok (.istore 4, 2) := by decide +kernel
theorem dX0_shutsLike_18 : decode cX0_shutsLike 18 = .ok (.iload 4, 2) := by decide +kernel
theorem dX0_shutsLike_20 : decode cX0_shutsLike 20 = .ok (.iconst (-1), 1) := by decide +kernel
theorem dX0_shutsLike_21 : decode cX0_shutsLike 21 = .ok (.if_icmp .eq 22, 3) := by decide +kernel
theorem dX0_shutsLike_24 : decode cX0_shutsLike 24 = .ok (.aload_n 0, 1) := by decide +kernel
theorem dX0_shutsLike_25 : decode cX0_shutsLike 25 = .ok (.getfield 20, 3) := by decide +kernel
theorem dX0_shutsLike_28 : decode cX0_shutsLike 28 = .ok (.iload 4, 2) := by decide +kernel
theorem dX0_shutsLike_30 : decode cX0_shutsLike 30 = .ok (.iaload, 1) := by decide +kernel
theorem dX0_shutsLike_31 : decode cX0_shutsLike 31 = .ok (.aload_n 1, 1) := by decide +kernel
theorem dX0_shutsLike_32 : decode cX0_shutsLike 32 = .ok (.getfield 20, 3) := by decide +kernel
theorem dX0_shutsLike_35 : decode cX0_shutsLike 35 = .ok (.iload 4, 2) := by decide +kernel
theorem dX0_shutsLike_37 : decode cX0_shutsLike 37 = .ok (.iaload, 1) := by decide +kernel
theorem dX0_shutsLike_38 : decode cX0_shutsLike 38 = .ok (.if_icmp .eq 5, 3) := by decide +kernel
theorem dX0_shutsLike_41 : decode cX0_shutsLike 41 = .ok (.iconst 0, 1) := by decide +kernel
theorem dX0_shutsLike_42 : decode cX0_shutsLike 42 = .ok (.ireturn, 1) := by decide +kernel
theorem dX0_shutsLike_43 : decode cX0_shutsLike 43 = .ok (.iinc 3 1, 3) := by decide +kernel
theorem dX0_shutsLike_46 : decode cX0_shutsLike 46 = .ok (.goto (-44), 3) := by decide +kernel
theorem dX0_shutsLike_49 : decode cX0_shutsLike 49 = .ok (.iconst 0, 1) := by decide +kernel
theorem dX0_shutsLike_50 : decode cX0_shutsLike 50 = .ok (.istore_n 3, 1) := by decide +kernel
theorem dX0_shutsLike_51 : decode cX0_shutsLike 51 = .ok (.iload_n 3, 1) := by decide +kernel
theorem dX0_shutsLike_52 : decode cX0_shutsLike 52 = .ok (.aload_n 2, 1) := by decide +kernel
theorem dX0_shutsLike_53 : decode cX0_shutsLike 53 = .ok (.getfield 119, 3) := by decide +kernel
theorem dX0_shutsLike_56 : decode cX0_shutsLike 56 = .ok (.if_icmp .ge 42, 3) := by decide +kernel
theorem dX0_shutsLike_59 : decode cX0_shutsLike 59 = .ok (.aload_n 2, 1) := by decide +kernel
theorem dX0_shutsLike_60 : decode cX0_shutsLike 60 = .ok (.getfield 122, 3) := by decide +kernel
theorem dX0_shutsLike_63 : decode cX0_shutsLike 63 = .ok (.iload_n 3, 1) := by decide +kernel
theorem dX0_shutsLike_64 : decode cX0_shutsLike 64 = .ok (.iaload, 1) := by decide +kernel
theorem dX0_shutsLike_65 : decode cX0_shutsLike 65 = .ok (.istore 4, 2) := by decide +kernel
theorem dX0_shutsLike_67 : decode cX0_shutsLike 67 = .ok (.iload 4, 2) := by decide +kernel
theorem dX0_shutsLike_69 : decode cX0_shutsLike 69 = .ok (.iconst (-1), 1) := by decide +kernel
theorem dX0_shutsLike_70 : decode cX0_shutsLike 70 = .ok (.if_icmp .eq 22, 3) := by decide +kernel
theorem dX0_shutsLike_73 : decode cX0_shutsLike 73 = .ok (.aload_n 0, 1) := by decide +kernel
theorem dX0_shutsLike_74 : decode cX0_shutsLike 74 = .ok (.getfield 20, 3) := by decide +kernel
theorem dX0_shutsLike_77 : decode cX0_shutsLike 77 = .ok (.iload 4, 2) := by decide +kernel
theorem dX0_shutsLike_79 : decode cX0_shutsLike 79 = .ok (.iaload, 1) := by decide +kernel
theorem dX0_shutsLike_80 : decode cX0_shutsLike 80 = .ok (.aload_n 1, 1) := by decide +kernel
theorem dX0_shutsLike_81 : decode cX0_shutsLike 81 = .ok (.getfield 20, 3) := by decide +kernel
theorem dX0_shutsLike_84 : decode cX0_shutsLike 84 = .ok (.iload 4, 2) := by decide +kernel
theorem dX0_shutsLike_86 : decode cX0_shutsLike 86 = .ok (.iaload, 1) := by decide +kernel
theorem dX0_shutsLike_87 : decode cX0_shutsLike 87 = .ok (.if_icmp .eq 5, 3) := by decide +kernel
theorem dX0_shutsLike_90 : decode cX0_shutsLike 90 = .ok (.iconst 0, 1) := by decide +kernel
theorem dX0_shutsLike_91 : decode cX0_shutsLike 91 = .ok (.ireturn, 1) := by decide +kernel
theorem dX0_shutsLike_92 : decode cX0_shutsLike 92 = .ok (.iinc 3 1, 3) := by decide +kernel
theorem dX0_shutsLike_95 : decode cX0_shutsLike 95 = .ok (.goto (-44), 3) := by decide +kernel
theorem dX0_shutsLike_98 : decode cX0_shutsLike 98 = .ok (.iconst 1, 1) := by decide +kernel
theorem dX0_shutsLike_99 : decode cX0_shutsLike 99 = .ok (.ireturn, 1) := by decide +kernel
theorem dX0_openTill_0 : decode cX0_openTill 0 = .ok (.iload_n 2, 1) := by decide +kernel
theorem dX0_openTill_1 : decode cX0_openTill 1 = .ok (.iconst (-1), 1) := by decide +kernel
theorem dX0_openTill_2 : decode cX0_openTill 2 = .ok (.if_icmp .ne 8, 3) := by decide +kernel
theorem dX0_openTill_5 : decode cX0_openTill 5 = .ok (.aload_n 1, 1) := by decide +kernel
theorem dX0_openTill_6 : decode cX0_openTill 6 = .ok (.invokevirtual 125, 3) := by decide +kernel
theorem dX0_openTill_9 : decode cX0_openTill 9 = .ok (.ireturn, 1) := by decide +kernel
theorem dX0_openTill_10 : decode cX0_openTill 10 = .ok (.aload_n 1, 1) := by decide +kernel
theorem dX0_openTill_11 : decode cX0_openTill 11 = .ok (.invokevirtual 125, 3) := by decide +kernel
theorem dX0_openTill_14 : decode cX0_openTill 14 = .ok (.aload_n 1, 1) := by decide +kernel
theorem dX0_openTill_15 : decode cX0_openTill 15 = .ok (.getfield 129, 3) := by decide +kernel
theorem dX0_openTill_18 : decode cX0_openTill 18 = .ok (.aload_n 0, 1) := by decide +kernel
theorem dX0_openTill_19 : decode cX0_openTill 19 = .ok (.getfield 20, 3) := by decide +kernel
theorem dX0_openTill_22 : decode cX0_openTill 22 = .ok (.iload_n 2, 1) := by decide +kernel
theorem dX0_openTill_23 : decode cX0_openTill 23 = .ok (.iaload, 1) := by decide +kernel
theorem dX0_openTill_24 : decode cX0_openTill 24 = .ok (.iadd, 1) := by decide +kernel
theorem dX0_openTill_25 : decode cX0_openTill 25 = .ok (.iconst 1, 1) := by decide +kernel
theorem dX0_openTill_26 : decode cX0_openTill 26 = .ok (.isub, 1) := by decide +kernel
theorem dX0_openTill_27 : decode cX0_openTill 27 = .ok (.invokestatic 98, 3) := by decide +kernel
theorem dX0_openTill_30 : decode cX0_openTill 30 = .ok (.ireturn, 1) := by decide +kernel
theorem dX0_leadOut_0 : decode cX0_leadOut 0 = .ok (.aload_n 3, 1) := by decide +kernel
theorem dX0_leadOut_1 : decode cX0_leadOut 1 = .ok (.invokevirtual 132, 3) := by decide +kernel
theorem dX0_leadOut_4 : decode cX0_leadOut 4 = .ok (.aload_n 0, 1) := by decide +kernel
theorem dX0_leadOut_5 : decode cX0_leadOut 5 = .ok (.iconst 0, 1) := by decide +kernel
theorem dX0_leadOut_6 : decode cX0_leadOut 6 = .ok (.putfield 135, 3) := by decide +kernel
theorem dX0_leadOut_9 : decode cX0_leadOut 9 = .ok (.iconst 0, 1) := by decide +kernel
theorem dX0_leadOut_10 : decode cX0_leadOut 10 = .ok (.istore 4, 2) := by decide +kernel
theorem dX0_leadOut_12 : decode cX0_leadOut 12 = .ok (.iload 4, 2) := by decide +kernel
theorem dX0_leadOut_14 : decode cX0_leadOut 14 = .ok (.aload_n 2, 1) := by decide +kernel
theorem dX0_leadOut_15 : decode cX0_leadOut 15 = .ok (.getfield 113, 3) := by decide +kernel
theorem dX0_leadOut_18 : decode cX0_leadOut 18 = .ok (.if_icmp .ge 55, 3) := by decide +kernel
theorem dX0_leadOut_21 : decode cX0_leadOut 21 = .ok (.aload_n 0, 1) := by decide +kernel
theorem dX0_leadOut_22 : decode cX0_leadOut 22 = .ok (.getfield 39, 3) := by decide +kernel
theorem dX0_leadOut_25 : decode cX0_leadOut 25 = .ok (.iload 4, 2) := by decide +kernel
theorem dX0_leadOut_27 : decode cX0_leadOut 27 = .ok (.aload_n 0, 1) := by decide +kernel
theorem dX0_leadOut_28 : decode cX0_leadOut 28 = .ok (.aload_n 1, 1) := by decide +kernel
theorem dX0_leadOut_29 : decode cX0_leadOut 29 = .ok (.aload_n 2, 1) := by decide +kernel
theorem dX0_leadOut_30 : decode cX0_leadOut 30 = .ok (.getfield 116, 3) := by decide +kernel
theorem dX0_leadOut_33 : decode cX0_leadOut 33 = .ok (.iload 4, 2) := by decide +kernel
theorem dX0_leadOut_35 : decode cX0_leadOut 35 = .ok (.iaload, 1) := by decide +kernel
theorem dX0_leadOut_36 : decode cX0_leadOut 36 = .ok (.invokevirtual 138, 3) := by decide +kernel
theorem dX0_leadOut_39 : decode cX0_leadOut 39 = .ok (.iastore, 1) := by decide +kernel
theorem dX0_leadOut_40 : decode cX0_leadOut 40 = .ok (.aload_n 0, 1) := by decide +kernel
theorem dX0_leadOut_41 : decode cX0_leadOut 41 = .ok (.aload_n 1, 1) := by decide +kernel
theorem dX0_leadOut_42 : decode cX0_leadOut 42 = .ok (.aload_n 2, 1) := by decide +kernel
theorem dX0_leadOut_43 : decode cX0_leadOut 43 = .ok (.aload_n 3, 1) := by decide +kernel
theorem dX0_leadOut_44 : decode cX0_leadOut 44 = .ok (.iload 4, 2) := by decide +kernel
theorem dX0_leadOut_46 : decode cX0_leadOut 46 = .ok (.invokevirtual 141, 3) := by decide +kernel
theorem dX0_leadOut_49 : decode cX0_leadOut 49 = .ok (.aload_n 2, 1) := by decide +kernel
theorem dX0_leadOut_50 : decode cX0_leadOut 50 = .ok (.iload 4, 2) := by decide +kernel
theorem dX0_leadOut_52 : decode cX0_leadOut 52 = .ok (.invokevirtual 145, 3) := by decide +kernel
theorem dX0_leadOut_55 : decode cX0_leadOut 55 = .ok (.ifCond .eq 12, 3) := by decide +kernel
theorem dX0_leadOut_58 : decode cX0_leadOut 58 = .ok (.aload_n 0, 1) := by decide +kernel
theorem dX0_leadOut_59 : decode cX0_leadOut 59 = .ok (.aload_n 1, 1) := by decide +kernel
theorem dX0_leadOut_60 : decode cX0_leadOut 60 = .ok (.aload_n 2, 1) := by decide +kernel
theorem dX0_leadOut_61 : decode cX0_leadOut 61 = .ok (.aload_n 3, 1) := by decide +kernel
theorem dX0_leadOut_62 : decode cX0_leadOut 62 = .ok (.iload 4, 2) := by decide +kernel
theorem dX0_leadOut_64 : decode cX0_leadOut 64 = .ok (.invokevirtual 149, 3) := by decide +kernel
theorem dX0_leadOut_67 : decode cX0_leadOut 67 = .ok (.iinc 4 1, 3) := by decide +kernel
theorem dX0_leadOut_70 : decode cX0_leadOut 70 = .ok (.goto (-58), 3) := by decide +kernel
theorem dX0_leadOut_73 : decode cX0_leadOut 73 = .ok (.iconst 0, 1) := by decide +kernel
theorem dX0_leadOut_74 : decode cX0_leadOut 74 = .ok (.istore 4, 2) := by decide +kernel
theorem dX0_leadOut_76 : decode cX0_leadOut 76 = .ok (.iload 4, 2) := by decide +kernel
theorem dX0_leadOut_78 : decode cX0_leadOut 78 = .ok (.aload_n 2, 1) := by decide +kernel
theorem dX0_leadOut_79 : decode cX0_leadOut 79 = .ok (.getfield 119, 3) := by decide +kernel
theorem dX0_leadOut_82 : decode cX0_leadOut 82 = .ok (.if_icmp .ge 18, 3) := by decide +kernel
theorem dX0_leadOut_85 : decode cX0_leadOut 85 = .ok (.aload_n 0, 1) := by decide +kernel
theorem dX0_leadOut_86 : decode cX0_leadOut 86 = .ok (.aload_n 1, 1) := by decide +kernel
theorem dX0_leadOut_87 : decode cX0_leadOut 87 = .ok (.aload_n 2, 1) := by decide +kernel
theorem dX0_leadOut_88 : decode cX0_leadOut 88 = .ok (.aload_n 3, 1) := by decide +kernel
theorem dX0_leadOut_89 : decode cX0_leadOut 89 = .ok (.iload 4, 2) := by decide +kernel
theorem dX0_leadOut_91 : decode cX0_leadOut 91 = .ok (.invokevirtual 152, 3) := by decide +kernel
theorem dX0_leadOut_94 : decode cX0_leadOut 94 = .ok (.iinc 4 1, 3) := by decide +kernel
theorem dX0_leadOut_97 : decode cX0_leadOut 97 = .ok (.goto (-21), 3) := by decide +kernel
theorem dX0_leadOut_100 : decode cX0_leadOut 100 = .ok (.aload_n 0, 1) := by decide +kernel
theorem dX0_leadOut_101 : decode cX0_leadOut 101 = .ok (.dup, 1) := by decide +kernel
theorem dX0_leadOut_102 : decode cX0_leadOut 102 = .ok (.getfield 135, 3) := by decide +kernel
theorem dX0_leadOut_105 : decode cX0_leadOut 105 = .ok (.aload_n 3, 1) := by decide +kernel
theorem dX0_leadOut_106 : decode cX0_leadOut 106 = .ok (.invokevirtual 155, 3) := by decide +kernel
theorem dX0_leadOut_109 : decode cX0_leadOut 109 = .ok (.iadd, 1) := by decide +kernel
theorem dX0_leadOut_110 : decode cX0_leadOut 110 = .ok (.putfield 135, 3) := by decide +kernel
theorem dX0_leadOut_113 : decode cX0_leadOut 113 = .ok (.iconst 0, 1) := by decide +kernel
theorem dX0_leadOut_114 : decode cX0_leadOut 114 = .ok (.istore 4, 2) := by decide +kernel
theorem dX0_leadOut_116 : decode cX0_leadOut 116 = .ok (.iload 4, 2) := by decide +kernel
theorem dX0_leadOut_118 : decode cX0_leadOut 118 = .ok (.sipush 202, 3) := by decide +kernel
theorem dX0_leadOut_121 : decode cX0_leadOut 121 = .ok (.if_icmp .ge 30, 3) := by decide +kernel
theorem dX0_leadOut_124 : decode cX0_leadOut 124 = .ok (.aload_n 0, 1) := by decide +kernel
theorem dX0_leadOut_125 : decode cX0_leadOut 125 = .ok (.getfield 34, 3) := by decide +kernel
theorem dX0_leadOut_128 : decode cX0_leadOut 128 = .ok (.iload 4, 2) := by decide +kernel
theorem dX0_leadOut_130 : decode cX0_leadOut 130 = .ok (.aload_n 3, 1) := by decide +kernel
theorem dX0_leadOut_131 : decode cX0_leadOut 131 = .ok (.iload 4, 2) := by decide +kernel
theorem dX0_leadOut_133 : decode cX0_leadOut 133 = .ok (.invokevirtual 158, 3) := by decide +kernel
theorem dX0_leadOut_136 : decode cX0_leadOut 136 = .ok (.ifCond .eq 7, 3) := by decide +kernel
theorem dX0_leadOut_139 : decode cX0_leadOut 139 = .ok (.iconst 1, 1) := by decide +kernel
theorem dX0_leadOut_140 : decode cX0_leadOut 140 = .ok (.goto 4, 3) := by decide +kernel
theorem dX0_leadOut_143 : decode cX0_leadOut 143 = .ok (.iconst 0, 1) := by decide +kernel
theorem dX0_leadOut_144 : decode cX0_leadOut 144 = .ok (.iastore, 1) := by decide +kernel
theorem dX0_leadOut_145 : decode cX0_leadOut 145 = .ok (.iinc 4 1, 3) := by decide +kernel
theorem dX0_leadOut_148 : decode cX0_leadOut 148 = .ok (.goto (-32), 3) := by decide +kernel
theorem dX0_leadOut_151 : decode cX0_leadOut 151 = .ok (.aload_n 0, 1) := by decide +kernel
theorem dX0_leadOut_152 : decode cX0_leadOut 152 = .ok (.iconst 1, 1) := by decide +kernel
theorem dX0_leadOut_153 : decode cX0_leadOut 153 = .ok (.putfield 161, 3) := by decide +kernel
theorem dX0_leadOut_156 : decode cX0_leadOut 156 = .ok (.return_, 1) := by decide +kernel
theorem dX0_joinHours_0 : decode cX0_joinHours 0 = .ok (.aload_n 1, 1) := by decide +kernel
theorem dX0_joinHours_1 : decode cX0_joinHours 1 = .ok (.invokevirtual 164, 3) := by decide +kernel
theorem dX0_joinHours_4 : decode cX0_joinHours 4 = .ok (.istore 5, 2) := by decide +kernel
theorem dX0_joinHours_6 : decode cX0_joinHours 6 = .ok (.iload 5, 2) := by decide +kernel
theorem dX0_joinHours_8 : decode cX0_joinHours 8 = .ok (.istore 6, 2) := by decide +kernel
theorem dX0_joinHours_10 : decode cX0_joinHours 10 = .ok (.iload 6, 2) := by decide +kernel
theorem dX0_joinHours_12 : decode cX0_joinHours 12 = .ok (.aload_n 0, 1) := by decide +kernel
theorem dX0_joinHours_13 : decode cX0_joinHours 13 = .ok (.getfield 39, 3) := by decide +kernel
theorem dX0_joinHours_16 : decode cX0_joinHours 16 = .ok (.iload 4, 2) := by decide +kernel
theorem dX0_joinHours_18 : decode cX0_joinHours 18 = .ok (.iaload, 1) := by decide +kernel
theorem dX0_joinHours_19 : decode cX0_joinHours 19 = .ok (.if_icmp .ge 33, 3) := by decide +kernel
theorem dX0_joinHours_22 : decode cX0_joinHours 22 = .ok (.iload 4, 2) := by decide +kernel
theorem dX0_joinHours_24 : decode cX0_joinHours 24 = .ok (.iload 6, 2) := by decide +kernel
theorem dX0_joinHours_26 : decode cX0_joinHours 26 = .ok (.iload 5, 2) := by decide +kernel
theorem dX0_joinHours_28 : decode cX0_joinHours 28 = .ok (.isub, 1) := by decide +kernel
theorem dX0_joinHours_29 : decode cX0_joinHours 29 = .ok (.invokestatic 167, 3) := by decide +kernel
theorem dX0_joinHours_32 : decode cX0_joinHours 32 = .ok (.istore 7, 2) := by decide +kernel
theorem dX0_joinHours_34 : decode cX0_joinHours 34 = .ok (.aload_n 3, 1) := by decide +kernel
theorem dX0_joinHours_35 : decode cX0_joinHours 35 = .ok (.iload 7, 2) := by decide +kernel
theorem dX0_joinHours_37 : decode cX0_joinHours 37 = .ok (.iload 7, 2) := by decide +kernel
theorem dX0_joinHours_39 : decode cX0_joinHours 39 = .ok (.iconst 1, 1) := by decide +kernel
theorem dX0_joinHours_40 : decode cX0_joinHours 40 = .ok (.iadd, 1) := by decide +kernel
theorem dX0_joinHours_41 : decode cX0_joinHours 41 = .ok (.ldc 170, 2) := by decide +kernel
theorem dX0_joinHours_43 : decode cX0_joinHours 43 = .ok (.invokevirtual 171, 3) := by decide +kernel
theorem dX0_joinHours_46 : decode cX0_joinHours 46 = .ok (.iinc 6 1, 3) := by decide +kernel
theorem dX0_joinHours_49 : decode cX0_joinHours 49 = .ok (.goto (-39), 3) := by decide +kernel
theorem dX0_joinHours_52 : decode cX0_joinHours 52 = .ok (.aload_n 0, 1) := by decide +kernel
theorem dX0_joinHours_53 : decode cX0_joinHours 53 = .ok (.getfield 39, 3) := by decide +kernel
theorem dX0_joinHours_56 : decode cX0_joinHours 56 = .ok (.iload 4, 2) := by decide +kernel
theorem dX0_joinHours_58 : decode cX0_joinHours 58 = .ok (.iaload, 1) := by decide +kernel
theorem dX0_joinHours_59 : decode cX0_joinHours 59 = .ok (.aload_n 1, 1) := by decide +kernel
theorem dX0_joinHours_60 : decode cX0_joinHours 60 = .ok (.invokevirtual 125, 3) := by decide +kernel
theorem dX0_joinHours_63 : decode cX0_joinHours 63 = .ok (.if_icmp .ne 47, 3) := by decide +kernel
theorem dX0_joinHours_66 : decode cX0_joinHours 66 = .ok (.aload_n 2, 1) := by decide +kernel
theorem dX0_joinHours_67 : decode cX0_joinHours 67 = .ok (.iload 4, 2) := by decide +kernel
theorem dX0_joinHours_69 : decode cX0_joinHours 69 = .ok (.invokevirtual 145, 3) := by decide +kernel
theorem dX0_joinHours_72 : decode cX0_joinHours 72 = .ok (.ifCond .eq 8, 3) := by decide +kernel
theorem dX0_joinHours_75 : decode cX0_joinHours 75 = .ok (.ldc 170, 2) := by decide +kernel
theorem dX0_joinHours_77 : decode cX0_joinHours 77 = .ok (.goto 10, 3) := by decide +kernel
theorem dX0_joinHours_80 : decode cX0_joinHours 80 = .ok (.aload_n 2, 1) := by decide +kernel
theorem dX0_joinHours_81 : decode cX0_joinHours 81 = .ok (.getfield 174, 3) := by decide +kernel
theorem dX0_joinHours_84 : decode cX0_joinHours 84 = .ok (.iload 4, 2) := by decide +kernel
theorem dX0_joinHours_86 : decode cX0_joinHours 86 = .ok (.iaload, 1) := by decide +kernel
theorem dX0_joinHours_87 : decode cX0_joinHours 87 = .ok (.istore 6, 2) := by decide +kernel
theorem dX0_joinHours_89 : decode cX0_joinHours 89 = .ok (.aload_n 3, 1) := by decide +kernel
theorem dX0_joinHours_90 : decode cX0_joinHours 90 = .ok (.iload 4, 2) := by decide +kernel
theorem dX0_joinHours_92 : decode cX0_joinHours 92 = .ok (.aload_n 1, 1) := by decide +kernel
theorem dX0_joinHours_93 : decode cX0_joinHours 93 = .ok (.invokevirtual 125, 3) := by decide +kernel
theorem dX0_joinHours_96 : decode cX0_joinHours 96 = .ok (.iload 5, 2) := by decide +kernel
theorem dX0_joinHours_98 : decode cX0_joinHours 98 = .ok (.isub, 1) := by decide +kernel
theorem dX0_joinHours_99 : decode cX0_joinHours 99 = .ok (.invokestatic 167, 3) := by decide +kernel
theorem dX0_joinHours_102 : decode cX0_joinHours 102 = .ok (.sipush 201, 3) := by decide +kernel
theorem dX0_joinHours_105 : decode cX0_joinHours 105 = .ok (.iload 6, 2) := by decide +kernel
theorem dX0_joinHours_107 : decode cX0_joinHours 107 = .ok (.invokevirtual 171, 3) := by decide +kernel
theorem dX0_joinHours_110 : decode cX0_joinHours 110 = .ok (.return_, 1) := by decide +kernel
theorem dX0_bringPeople_0 : decode cX0_bringPeople 0 = .ok (.aload_n 2, 1) := by decide +kernel
theorem dX0_bringPeople_1 : decode cX0_bringPeople 1 = .ok (.getfield 177, 3) := by decide +kernel
theorem dX0_bringPeople_4 : decode cX0_bringPeople 4 = .ok (.iload 4, 2) := by decide +kernel
theorem dX0_bringPeople_6 : decode cX0_bringPeople 6 = .ok (.iaload, 1) := by decide +kernel
theorem dX0_bringPeople_7 : decode cX0_bringPeople 7 = .ok (.istore 5, 2) := by decide +kernel
theorem dX0_bringPeople_9 : decode cX0_bringPeople 9 = .ok (.iload 5, 2) := by decide +kernel
theorem dX0_bringPeople_11 : decode cX0_bringPeople 11 = .ok (.iconst (-1), 1) := by decide +kernel
theorem dX0_bringPeople_12 : decode cX0_bringPeople 12 = .ok (.if_icmp .eq 12, 3) := by decide +kernel
theorem dX0_bringPeople_15 : decode cX0_bringPeople 15 = .ok (.iload 5, 2) := by decide +kernel
theorem dX0_bringPeople_17 : decode cX0_bringPeople 17 = .ok (.aload_n 1, 1) := by decide +kernel
theorem dX0_bringPeople_18 : decode cX0_bringPeople 18 = .ok (.invokevirtual 125, 3) := by decide +kernel
theorem dX0_bringPeople_21 : decode cX0_bringPeople 21 = .ok (.if_icmp .le 38, 3) := by decide +kernel
theorem dX0_bringPeople_24 : decode cX0_bringPeople 24 = .ok (.aload_n 0, 1) := by decide +kernel
theorem dX0_bringPeople_25 : decode cX0_bringPeople 25 = .ok (.dup, 1) := by decide +kernel
theorem dX0_bringPeople_26 : decode cX0_bringPeople 26 = .ok (.getfield 135, 3) := by decide +kernel
theorem dX0_bringPeople_29 : decode cX0_bringPeople 29 = .ok (.aload_n 0, 1) := by decide +kernel
theorem dX0_bringPeople_30 : decode cX0_bringPeople 30 = .ok (.getfield 39, 3) := by decide +kernel
theorem dX0_bringPeople_33 : decode cX0_bringPeople 33 = .ok (.iload 4, 2) := by decide +kernel
theorem dX0_bringPeople_35 : decode cX0_bringPeople 35 = .ok (.iaload, 1) := by decide +kernel
theorem dX0_bringPeople_36 : decode cX0_bringPeople 36 = .ok (.aload_n 1, 1) := by decide +kernel
theorem dX0_bringPeople_37 : decode cX0_bringPeople 37 = .ok (.invokevirtual 125, 3) := by decide +kernel
theorem dX0_bringPeople_40 : decode cX0_bringPeople 40 = .ok (.if_icmp .ne 13, 3) := by decide +kernel
theorem dX0_bringPeople_43 : decode cX0_bringPeople 43 = .ok (.aload_n 2, 1) := by decide +kernel
theorem dX0_bringPeople_44 : decode cX0_bringPeople 44 = .ok (.getfield 180, 3) := by decide +kernel
theorem dX0_bringPeople_47 : decode cX0_bringPeople 47 = .ok (.iload 4, 2) := by decide +kernel
theorem dX0_bringPeople_49 : decode cX0_bringPeople 49 = .ok (.iaload, 1) := by decide +kernel
theorem dX0_bringPeople_50 : decode cX0_bringPeople 50 = .ok (.goto 4, 3) := by decide +kernel
theorem dX0_bringPeople_53 : decode cX0_bringPeople 53 = .ok (.iconst 0, 1) := by decide +kernel
theorem dX0_bringPeople_54 : decode cX0_bringPeople 54 = .ok (.iadd, 1) := by decide +kernel
theorem dX0_bringPeople_55 : decode cX0_bringPeople 55 = .ok (.putfield 135, 3) := by decide +kernel
theorem dX0_bringPeople_58 : decode cX0_bringPeople 58 = .ok (.return_, 1) := by decide +kernel
theorem dX0_bringPeople_59 : decode cX0_bringPeople 59 = .ok (.iload 5, 2) := by decide +kernel
theorem dX0_bringPeople_61 : decode cX0_bringPeople 61 = .ok (.aload_n 1, 1) := by decide +kernel
theorem dX0_bringPeople_62 : decode cX0_bringPeople 62 = .ok (.invokevirtual 164, 3) := by decide +kernel
theorem dX0_bringPeople_65 : decode cX0_bringPeople 65 = .ok (.invokestatic 183, 3) := by decide +kernel
theorem dX0_bringPeople_68 : decode cX0_bringPeople 68 = .ok (.istore 6, 2) := by decide +kernel
theorem dX0_bringPeople_70 : decode cX0_bringPeople 70 = .ok (.iload 6, 2) := by decide +kernel
theorem dX0_bringPeople_72 : decode cX0_bringPeople 72 = .ok (.aload_n 0, 1) := by decide +kernel
theorem dX0_bringPeople_73 : decode cX0_bringPeople 73 = .ok (.getfield 39, 3) := by decide +kernel
theorem dX0_bringPeople_76 : decode cX0_bringPeople 76 = .ok (.iload 4, 2) := by decide +kernel
theorem dX0_bringPeople_78 : decode cX0_bringPeople 78 = .ok (.iaload, 1) := by decide +kernel
theorem dX0_bringPeople_79 : decode cX0_bringPeople 79 = .ok (.if_icmp .gt 33, 3) := by decide +kernel
theorem dX0_bringPeople_82 : decode cX0_bringPeople 82 = .ok (.iload 4, 2) := by decide +kernel
theorem dX0_bringPeople_84 : decode cX0_bringPeople 84 = .ok (.iload 6, 2) := by decide +kernel
theorem dX0_bringPeople_86 : decode cX0_bringPeople 86 = .ok (.aload_n 1, 1) := by decide +kernel
theorem dX0_bringPeople_87 : decode cX0_bringPeople 87 = .ok (.invokevirtual 164, 3) := by decide +kernel
theorem dX0_bringPeople_90 : decode cX0_bringPeople 90 = .ok (.isub, 1) := by decide +kernel
theorem dX0_bringPeople_91 : decode cX0_bringPeople 91 = .ok (.invokestatic 167, 3) := by decide +kernel
theorem dX0_bringPeople_94 : decode cX0_bringPeople 94 = .ok (.istore 7, 2) := by decide +kernel
theorem dX0_bringPeople_96 : decode cX0_bringPeople 96 = .ok (.aload_n 3, 1) := by decide +kernel
theorem dX0_bringPeople_97 : decode cX0_bringPeople 97 = .ok (.sipush 200, 3) := by decide +kernel
theorem dX0_bringPeople_100 : decode cX0_bringPeople 100 = .ok (.iload 7, 2) := by decide +kernel
theorem dX0_bringPeople_102 : decode cX0_bringPeople 102 = .ok (.aload_n 2, 1) := by decide +kernel
theorem dX0_bringPeople_103 : decode cX0_bringPeople 103 = .ok (.getfield 180, 3) := by decide +kernel
theorem dX0_bringPeople_106 : decode cX0_bringPeople 106 = .ok (.iload 4, 2) := by decide +kernel
theorem dX0_bringPeople_108 : decode cX0_bringPeople 108 = .ok (.iaload, 1) := by decide +kernel
theorem dX0_bringPeople_109 : decode cX0_bringPeople 109 = .ok (.invokevirtual 171, 3) := by decide +kernel
theorem dX0_bringPeople_112 : decode cX0_bringPeople 112 = .ok (.return_, 1) := by decide +kernel
theorem dX0_joinByRoad_0 : decode cX0_joinByRoad 0 = .ok (.aload_n 1, 1) := by decide +kernel
theorem dX0_joinByRoad_1 : decode cX0_joinByRoad 1 = .ok (.invokevirtual 164, 3) := by decide +kernel
theorem dX0_joinByRoad_4 : decode cX0_joinByRoad 4 = .ok (.istore 5, 2) := by decide +kernel
theorem dX0_joinByRoad_6 : decode cX0_joinByRoad 6 = .ok (.aload_n 2, 1) := by decide +kernel
theorem dX0_joinByRoad_7 : decode cX0_joinByRoad 7 = .ok (.getfield 186, 3) := by decide +kernel
theorem dX0_joinByRoad_10 : decode cX0_joinByRoad 10 = .ok (.iload 4, 2) := by decide +kernel
theorem dX0_joinByRoad_12 : decode cX0_joinByRoad 12 = .ok (.iaload, 1) := by decide +kernel
theorem dX0_joinByRoad_13 : decode cX0_joinByRoad 13 = .ok (.istore 6, 2) := by decide +kernel
theorem dX0_joinByRoad_15 : decode cX0_joinByRoad 15 = .ok (.aload_n 2, 1) := by decide +kernel
theorem dX0_joinByRoad_16 : decode cX0_joinByRoad 16 = .ok (.getfield 189, 3) := by decide +kernel
theorem dX0_joinByRoad_19 : decode cX0_joinByRoad 19 = .ok (.iload 4, 2) := by decide +kernel
theorem dX0_joinByRoad_21 : decode cX0_joinByRoad 21 = .ok (.iaload, 1) := by decide +kernel
theorem dX0_joinByRoad_22 : decode cX0_joinByRoad 22 = .ok (.istore 7, 2) := by decide +kernel
theorem dX0_joinByRoad_24 : decode cX0_joinByRoad 24 = .ok (.aload_n 2, 1) := by decide +kernel
theorem dX0_joinByRoad_25 : decode cX0_joinByRoad 25 = .ok (.getfield 192, 3) := by decide +kernel
theorem dX0_joinByRoad_28 : decode cX0_joinByRoad 28 = .ok (.iload 4, 2) := by decide +kernel
theorem dX0_joinByRoad_30 : decode cX0_joinByRoad 30 = .ok (.iaload, 1) := by decide +kernel
theorem dX0_joinByRoad_31 : decode cX0_joinByRoad 31 = .ok (.istore 8, 2) := by decide +kernel
theorem dX0_joinByRoad_33 : decode cX0_joinByRoad 33 = .ok (.aload_n 0, 1) := by decide +kernel
theorem dX0_joinByRoad_34 : decode cX0_joinByRoad 34 = .ok (.aload_n 1, 1) := by decide +kernel
theorem dX0_joinByRoad_35 : decode cX0_joinByRoad 35 = .ok (.aload_n 2, 1) := by decide +kernel
theorem dX0_joinByRoad_36 : decode cX0_joinByRoad 36 = .ok (.getfield 122, 3) := by decide +kernel
theorem dX0_joinByRoad_39 : decode cX0_joinByRoad 39 = .ok (.iload 4, 2) := by decide +kernel
theorem dX0_joinByRoad_41 : decode cX0_joinByRoad 41 = .ok (.iaload, 1) := by decide +kernel
theorem dX0_joinByRoad_42 : decode cX0_joinByRoad 42 = .ok (.invokevirtual 138, 3) := by decide +kernel
theorem dX0_joinByRoad_45 : decode cX0_joinByRoad 45 = .ok (.aload_n 0, 1) := by decide +kernel
theorem dX0_joinByRoad_46 : decode cX0_joinByRoad 46 = .ok (.getfield 39, 3) := by decide +kernel
theorem dX0_joinByRoad_49 : decode cX0_joinByRoad 49 = .ok (.iload 8, 2) := by decide +kernel
theorem dX0_joinByRoad_51 : decode cX0_joinByRoad 51 = .ok (.iaload, 1) := by decide +kernel
theorem dX0_joinByRoad_52 : decode cX0_joinByRoad 52 = .ok (.invokestatic 98, 3) := by decide +kernel
theorem dX0_joinByRoad_55 : decode cX0_joinByRoad 55 = .ok (.istore 9, 2) := by decide +kernel
theorem dX0_joinByRoad_57 : decode cX0_joinByRoad 57 = .ok (.aload_n 0, 1) := by decide +kernel
theorem dX0_joinByRoad_58 : decode cX0_joinByRoad 58 = .ok (.getfield 39, 3) := by decide +kernel
theorem dX0_joinByRoad_61 : decode cX0_joinByRoad 61 = .ok (.iload 7, 2) := by decide +kernel
theorem dX0_joinByRoad_63 : decode cX0_joinByRoad 63 = .ok (.iaload, 1) := by decide +kernel
theorem dX0_joinByRoad_64 : decode cX0_joinByRoad 64 = .ok (.iload 9, 2) := by decide +kernel
theorem dX0_joinByRoad_66 : decode cX0_joinByRoad 66 = .ok (.iload 6, 2) := by decide +kernel
theorem dX0_joinByRoad_68 : decode cX0_joinByRoad 68 = .ok (.isub, 1) := by decide +kernel
theorem dX0_joinByRoad_69 : decode cX0_joinByRoad 69 = .ok (.invokestatic 98, 3) := by decide +kernel
theorem dX0_joinByRoad_72 : decode cX0_joinByRoad 72 = .ok (.istore 10, 2) := by decide +kernel
theorem dX0_joinByRoad_74 : decode cX0_joinByRoad 74 = .ok (.iload 5, 2) := by decide +kernel
theorem dX0_joinByRoad_76 : decode cX0_joinByRoad 76 = .ok (.istore 11, 2) := by decide +kernel
theorem dX0_joinByRoad_78 : decode cX0_joinByRoad 78 = .ok (.iload 11, 2) := by decide +kernel
theorem dX0_joinByRoad_80 : decode cX0_joinByRoad 80 = .ok (.iload 10, 2) := by decide +kernel
theorem dX0_joinByRoad_82 : decode cX0_joinByRoad 82 = .ok (.if_icmp .gt 58, 3) := by decide +kernel
theorem dX0_joinByRoad_85 : decode cX0_joinByRoad 85 = .ok (.aload_n 2, 1) := by decide +kernel
theorem dX0_joinByRoad_86 : decode cX0_joinByRoad 86 = .ok (.iload 4, 2) := by decide +kernel
theorem dX0_joinByRoad_88 : decode cX0_joinByRoad 88 = .ok (.iload 11, 2) := by decide +kernel
theorem dX0_joinByRoad_90 : decode cX0_joinByRoad 90 = .ok (.invokevirtual 195, 3) := by decide +kernel
theorem dX0_joinByRoad_93 : decode cX0_joinByRoad 93 = .ok (.ifCond .eq 41, 3) := by decide +kernel
theorem dX0_joinByRoad_96 : decode cX0_joinByRoad 96 = .ok (.iload 7, 2) := by decide +kernel
theorem dX0_joinByRoad_98 : decode cX0_joinByRoad 98 = .ok (.iload 11, 2) := by decide +kernel
theorem dX0_joinByRoad_100 : decode cX0_joinByRoad 100 = .ok (.iload 5, 2) := by decide +kernel
theorem dX0_joinByRoad_102 : decode cX0_joinByRoad 102 = .ok (.isub, 1) := by decide +kernel
theorem dX0_joinByRoad_103 : decode cX0_joinByRoad 103 = .ok (.invokestatic 167, 3) := by decide +kernel
theorem dX0_joinByRoad_106 : decode cX0_joinByRoad 106 = .ok (.istore 12, 2) := by decide +kernel
theorem dX0_joinByRoad_108 : decode cX0_joinByRoad 108 = .ok (.aload_n 3, 1) := by decide +kernel
theorem dX0_joinByRoad_109 : decode cX0_joinByRoad 109 = .ok (.iload 12, 2) := by decide +kernel
theorem dX0_joinByRoad_111 : decode cX0_joinByRoad 111 = .ok (.iload 8, 2) := by decide +kernel
theorem dX0_joinByRoad_113 : decode cX0_joinByRoad 113 = .ok (.iload 11, 2) := by decide +kernel
theorem dX0_joinByRoad_115 : decode cX0_joinByRoad 115 = .ok (.iload 6, 2) := by decide +kernel
theorem dX0_joinByRoad_117 : decode cX0_joinByRoad 117 = .ok (.iadd, 1) := by decide +kernel
theorem dX0_joinByRoad_118 : decode cX0_joinByRoad 118 = .ok (.iload 5, 2) := by decide +kernel
theorem dX0_joinByRoad_120 : decode cX0_joinByRoad 120 = .ok (.isub, 1) := by decide +kernel
theorem dX0_joinByRoad_121 : decode cX0_joinByRoad 121 = .ok (.invokestatic 167, 3) := by decide +kernel
theorem dX0_joinByRoad_124 : decode cX0_joinByRoad 124 = .ok (.aload_n 2, 1) := by decide +kernel
theorem dX0_joinByRoad_125 : decode cX0_joinByRoad 125 = .ok (.getfield 199, 3) := by decide +kernel
theorem dX0_joinByRoad_128 : decode cX0_joinByRoad 128 = .ok (.iload 4, 2) := by decide +kernel
theorem dX0_joinByRoad_130 : decode cX0_joinByRoad 130 = .ok (.iaload, 1) := by decide +kernel
theorem dX0_joinByRoad_131 : decode cX0_joinByRoad 131 = .ok (.invokevirtual 171, 3) := by decide +kernel
theorem dX0_joinByRoad_134 : decode cX0_joinByRoad 134 = .ok (.iinc 11 1, 3) := by decide +kernel
theorem dX0_joinByRoad_137 : decode cX0_joinByRoad 137 = .ok (.goto (-59), 3) := by decide +kernel
theorem dX0_joinByRoad_140 : decode cX0_joinByRoad 140 = .ok (.return_, 1) := by decide +kernel
theorem dX1_lay_0 : decode cX1_lay 0 = .ok (.iload_n 1, 1) := by decide +kernel
theorem dX1_lay_1 : decode cX1_lay 1 = .ok (.iconst 2, 1) := by decide +kernel
theorem dX1_lay_2 : decode cX1_lay 2 = .ok (.bipush 8, 2) := by decide +kernel
theorem dX1_lay_4 : decode cX1_lay 4 = .ok (.invokestatic 31, 3) := by decide +kernel
theorem dX1_lay_7 : decode cX1_lay 7 = .ok (.ifCond .eq 13, 3) := by decide +kernel
theorem dX1_lay_10 : decode cX1_lay 10 = .ok (.iload_n 2, 1) := by decide +kernel
theorem dX1_lay_11 : decode cX1_lay 11 = .ok (.iconst 2, 1) := by decide +kernel
theorem dX1_lay_12 : decode cX1_lay 12 = .ok (.bipush 8, 2) := by decide +kernel
theorem dX1_lay_14 : decode cX1_lay 14 = .ok (.invokestatic 31, 3) := by decide +kernel
theorem dX1_lay_17 : decode cX1_lay 17 = .ok (.ifCond .ne 5, 3) := by decide +kernel
theorem dX1_lay_20 : decode cX1_lay 20 = .ok (.iconst 0, 1) := by decide +kernel
theorem dX1_lay_21 : decode cX1_lay 21 = .ok (.ireturn, 1) := by decide +kernel
theorem dX1_lay_22 : decode cX1_lay 22 = .ok (.aload_n 0, 1) := by decide +kernel
theorem dX1_lay_23 : decode cX1_lay 23 = .ok (.iload_n 1, 1) := by decide +kernel
theorem dX1_lay_24 : decode cX1_lay 24 = .ok (.putfield 9, 3) := by decide +kernel
theorem dX1_lay_27 : decode cX1_lay 27 = .ok (.aload_n 0, 1) := by decide +kernel
theorem dX1_lay_28 : decode cX1_lay 28 = .ok (.iload_n 1, 1) := by decide +kernel
theorem dX1_lay_29 : decode cX1_lay 29 = .ok (.iload_n 2, 1) := by decide +kernel
theorem dX1_lay_30 : decode cX1_lay 30 = .ok (.imul, 1) := by decide +kernel
theorem dX1_lay_31 : decode cX1_lay 31 = .ok (.putfield 15, 3) := by decide +kernel
theorem dX1_lay_34 : decode cX1_lay 34 = .ok (.aload_n 0, 1) := by decide +kernel
theorem dX1_lay_35 : decode cX1_lay 35 = .ok (.getfield 18, 3) := by decide +kernel
theorem dX1_lay_38 : decode cX1_lay 38 = .ok (.iconst 0, 1) := by decide +kernel
theorem dX1_lay_39 : decode cX1_lay 39 = .ok (.invokestatic 35, 3) := by decide +kernel
theorem dX1_lay_42 : decode cX1_lay 42 = .ok (.aload_n 0, 1) := by decide +kernel
theorem dX1_lay_43 : decode cX1_lay 43 = .ok (.getfield 22, 3) := by decide +kernel
theorem dX1_lay_46 : decode cX1_lay 46 = .ok (.iconst 0, 1) := by decide +kernel
theorem dX1_lay_47 : decode cX1_lay 47 = .ok (.invokestatic 35, 3) := by decide +kernel
theorem dX1_lay_50 : decode cX1_lay 50 = .ok (.aload_n 0, 1) := by decide +kernel
theorem dX1_lay_51 : decode cX1_lay 51 = .ok (.getfield 25, 3) := by decide +kernel
theorem dX1_lay_54 : decode cX1_lay 54 = .ok (.iconst 0, 1) := by decide +kernel
theorem dX1_lay_55 : decode cX1_lay 55 = .ok (.invokestatic 35, 3) := by decide +kernel
theorem dX1_lay_58 : decode cX1_lay 58 = .ok (.aload_n 0, 1) := by decide +kernel
theorem dX1_lay_59 : decode cX1_lay 59 = .ok (.iconst 0, 1) := by decide +kernel
theorem dX1_lay_60 : decode cX1_lay 60 = .ok (.putfield 41, 3) := by decide +kernel
theorem dX1_lay_63 : decode cX1_lay 63 = .ok (.aload_n 0, 1) := by decide +kernel
theorem dX1_lay_64 : decode cX1_lay 64 = .ok (.iconst 0, 1) := by decide +kernel
theorem dX1_lay_65 : decode cX1_lay 65 = .ok (.putfield 44, 3) := by decide +kernel
theorem dX1_lay_68 : decode cX1_lay 68 = .ok (.iconst 1, 1) := by decide +kernel
theorem dX1_lay_69 : decode cX1_lay 69 = .ok (.ireturn, 1) := by decide +kernel
theorem dX1_has_0 : decode cX1_has 0 = .ok (.iload_n 1, 1) := by decide +kernel
theorem dX1_has_1 : decode cX1_has 1 = .ok (.iconst 0, 1) := by decide +kernel
theorem dX1_has_2 : decode cX1_has 2 = .ok (.aload_n 0, 1) := by decide +kernel
theorem dX1_has_3 : decode cX1_has 3 = .ok (.getfield 15, 3) := by decide +kernel
theorem dX1_has_6 : decode cX1_has 6 = .ok (.iconst 1, 1) := by decide +kernel
theorem dX1_has_7 : decode cX1_has 7 = .ok (.isub, 1) := by decide +kernel
theorem dX1_has_8 : decode cX1_has 8 = .ok (.invokestatic 31, 3) := by decide +kernel
theorem dX1_has_11 : decode cX1_has 11 = .ok (.ireturn, 1) := by decide +kernel
theorem dX1_column_0 : decode cX1_column 0 = .ok (.aload_n 0, 1) := by decide +kernel
theorem dX1_column_1 : decode cX1_column 1 = .ok (.getfield 9, 3) := by decide +kernel
theorem dX1_column_4 : decode cX1_column 4 = .ok (.ifCond .le 12, 3) := by decide +kernel
theorem dX1_column_7 : decode cX1_column 7 = .ok (.iload_n 1, 1) := by decide +kernel
theorem dX1_column_8 : decode cX1_column 8 = .ok (.aload_n 0, 1) := by decide +kernel
theorem dX1_column_9 : decode cX1_column 9 = .ok (.getfield 9, 3) := by decide +kernel
theorem dX1_column_12 : decode cX1_column 12 = .ok (.irem, 1) := by decide +kernel
theorem dX1_column_13 : decode cX1_column 13 = .ok (.goto 4, 3) := by decide +kernel
theorem dX1_column_16 : decode cX1_column 16 = .ok (.iconst 0, 1) := by decide +kernel
theorem dX1_column_17 : decode cX1_column 17 = .ok (.ireturn, 1) := by decide +kernel
theorem dX1_row_0 : decode cX1_row 0 = .ok (.aload_n 0, 1) := by decide +kernel
theorem dX1_row_1 : decode cX1_row 1 = .ok (.getfield 9, 3) := by decide +kernel
theorem dX1_row_4 : decode cX1_row 4 = .ok (.ifCond .le 12, 3) := by decide +kernel
theorem dX1_row_7 : decode cX1_row 7 = .ok (.iload_n 1, 1) := by decide +kernel
theorem dX1_row_8 : decode cX1_row 8 = .ok (.aload_n 0, 1) := by decide +kernel
theorem dX1_row_9 : decode cX1_row 9 = .ok (.getfield 9, 3) := by decide +kernel
theorem dX1_row_12 : decode cX1_row 12 = .ok (.idiv, 1) := by decide +kernel
theorem dX1_row_13 : decode cX1_row 13 = .ok (.goto 4, 3) := by decide +kernel
theorem dX1_row_16 : decode cX1_row 16 = .ok (.iconst 0, 1) := by decide +kernel
theorem dX1_row_17 : decode cX1_row 17 = .ok (.ireturn, 1) := by decide +kernel
theorem dX1_build_0 : decode cX1_build 0 = .ok (.aload_n 0, 1) := by decide +kernel
theorem dX1_build_1 : decode cX1_build 1 = .ok (.iload_n 1, 1) := by decide +kernel
theorem dX1_build_2 : decode cX1_build 2 = .ok (.invokevirtual 47, 3) := by decide +kernel
theorem dX1_build_5 : decode cX1_build 5 = .ok (.ifCond .eq 24, 3) := by decide +kernel
theorem dX1_build_8 : decode cX1_build 8 = .ok (.iload_n 2, 1) := by decide +kernel
theorem dX1_build_9 : decode cX1_build 9 = .ok (.iconst 0, 1) := by decide +kernel
theorem dX1_build_10 : decode cX1_build 10 = .ok (.sipush 999, 3) := by decide +kernel
theorem dX1_build_13 : decode cX1_build 13 = .ok (.invokestatic 31, 3) := by decide +kernel
theorem dX1_build_16 : decode cX1_build 16 = .ok (.ifCond .eq 13, 3) := by decide +kernel
theorem dX1_build_19 : decode cX1_build 19 = .ok (.iload_n 3, 1) := by decide +kernel
theorem dX1_build_20 : decode cX1_build 20 = .ok (.iconst 0, 1) := by decide +kernel
theorem dX1_build_21 : decode cX1_build 21 = .ok (.bipush 99, 2) := by decide +kernel
theorem dX1_build_23 : decode cX1_build 23 = .ok (.invokestatic 31, 3) := by decide +kernel
theorem dX1_build_26 : decode cX1_build 26 = .ok (.ifCond .ne 5, 3) := by decide +kernel
theorem dX1_build_29 : decode cX1_build 29 = .ok (.iconst 0, 1) := by decide +kernel
theorem dX1_build_30 : decode cX1_build 30 = .ok (.ireturn, 1) := by decide +kernel
theorem dX1_build_31 : decode cX1_build 31 = .ok (.iload_n 3, 1) := by decide +kernel
theorem dX1_build_32 : decode cX1_build 32 = .ok (.ifCond .le 14, 3) := by decide +kernel
theorem dX1_build_35 : decode cX1_build 35 = .ok (.aload_n 0, 1) := by decide +kernel
theorem dX1_build_36 : decode cX1_build 36 = .ok (.getfield 25, 3) := by decide +kernel
theorem dX1_build_39 : decode cX1_build 39 = .ok (.iload_n 1, 1) := by decide +kernel
theorem dX1_build_40 : decode cX1_build 40 = .ok (.iaload, 1) := by decide +kernel
theorem dX1_build_41 : decode cX1_build 41 = .ok (.ifCond .eq 5, 3) := by decide +kernel
theorem dX1_build_44 : decode cX1_build 44 = .ok (.iconst 0, 1) := by decide +kernel
theorem dX1_build_45 : decode cX1_build 45 = .ok (.ireturn, 1) := by decide +kernel
theorem dX1_build_46 : decode cX1_build 46 = .ok (.aload_n 0, 1) := by decide +kernel
theorem dX1_build_47 : decode cX1_build 47 = .ok (.getfield 18, 3) := by decide +kernel
theorem dX1_build_50 : decode cX1_build 50 = .ok (.iload_n 1, 1) := by decide +kernel
theorem dX1_build_51 : decode cX1_build 51 = .ok (.iload_n 2, 1) := by decide +kernel
theorem dX1_build_52 : decode cX1_build 52 = .ok (.iastore, 1) := by decide +kernel
theorem dX1_build_53 : decode cX1_build 53 = .ok (.aload_n 0, 1) := by decide +kernel
theorem dX1_build_54 : decode cX1_build 54 = .ok (.getfield 22, 3) := by decide +kernel
theorem dX1_build_57 : decode cX1_build 57 = .ok (.iload_n 1, 1) := by decide +kernel
theorem dX1_build_58 : decode cX1_build 58 = .ok (.iload_n 3, 1) := by decide +kernel
theorem dX1_build_59 : decode cX1_build 59 = .ok (.iastore, 1) := by decide +kernel
theorem dX1_build_60 : decode cX1_build 60 = .ok (.iconst 1, 1) := by decide +kernel
theorem dX1_build_61 : decode cX1_build 61 = .ok (.ireturn, 1) := by decide +kernel
theorem dX1_bit_0 : decode cX1_bit 0 = .ok (.iload_n 0, 1) := by decide +kernel
theorem dX1_bit_1 : decode cX1_bit 1 = .ok (.ifCond .eq 7, 3) := by decide +kernel
theorem dX1_bit_4 : decode cX1_bit 4 = .ok (.iconst 2, 1) := by decide +kernel
theorem dX1_bit_5 : decode cX1_bit 5 = .ok (.goto 4, 3) := by decide +kernel
theorem dX1_bit_8 : decode cX1_bit 8 = .ok (.iconst 1, 1) := by decide +kernel
theorem dX1_bit_9 : decode cX1_bit 9 = .ok (.ireturn, 1) := by decide +kernel
theorem dX1_hasWork_0 : decode cX1_hasWork 0 = .ok (.aload_n 0, 1) := by decide +kernel
theorem dX1_hasWork_1 : decode cX1_hasWork 1 = .ok (.iload_n 1, 1) := by decide +kernel
theorem dX1_hasWork_2 : decode cX1_hasWork 2 = .ok (.invokevirtual 47, 3) := by decide +kernel
theorem dX1_hasWork_5 : decode cX1_hasWork 5 = .ok (.ifCond .eq 21, 3) := by decide +kernel
theorem dX1_hasWork_8 : decode cX1_hasWork 8 = .ok (.aload_n 0, 1) := by decide +kernel
theorem dX1_hasWork_9 : decode cX1_hasWork 9 = .ok (.getfield 25, 3) := by decide +kernel
theorem dX1_hasWork_12 : decode cX1_hasWork 12 = .ok (.iload_n 1, 1) := by decide +kernel
theorem dX1_hasWork_13 : decode cX1_hasWork 13 = .ok (.iaload, 1) := by decide +kernel
theorem dX1_hasWork_14 : decode cX1_hasWork 14 = .ok (.iload_n 2, 1) := by decide +kernel
theorem dX1_hasWork_15 : decode cX1_hasWork 15 = .ok (.invokestatic 51, 3) := by decide +kernel
theorem dX1_hasWork_18 : decode cX1_hasWork 18 = .ok (.iand, 1) := by decide +kernel
theorem dX1_hasWork_19 : decode cX1_hasWork 19 = .ok (.ifCond .eq 7, 3) := by decide +kernel
theorem dX1_hasWork_22 : decode cX1_hasWork 22 = .ok (.iconst 1, 1) := by decide +kernel
theorem dX1_hasWork_23 : decode cX1_hasWork 23 = .ok (.goto 4, 3) := by decide +kernel
theorem dX1_hasWork_26 : decode cX1_hasWork 26 = .ok (.iconst 0, 1) := by decide +kernel
theorem dX1_hasWork_27 : decode cX1_hasWork 27 = .ok (.ireturn, 1) := by decide +kernel
theorem dX1_mayPut_0 : decode cX1_mayPut 0 = .ok (.aload_n 0, 1) := by decide +kernel
theorem dX1_mayPut_1 : decode cX1_mayPut 1 = .ok (.iload_n 1, 1) := by decide +kernel
theorem dX1_mayPut_2 : decode cX1_mayPut 2 = .ok (.invokevirtual 47, 3) := by decide +kernel
theorem dX1_mayPut_5 : decode cX1_mayPut 5 = .ok (.ifCond .eq 33, 3) := by decide +kernel
theorem dX1_mayPut_8 : decode cX1_mayPut 8 = .ok (.aload_n 0, 1) := by decide +kernel
theorem dX1_mayPut_9 : decode cX1_mayPut 9 = .ok (.iload_n 1, 1) := by decide +kernel
theorem dX1_mayPut_10 : decode cX1_mayPut 10 = .ok (.iload_n 2, 1) := by decide +kernel
theorem dX1_mayPut_11 : decode cX1_mayPut 11 = .ok (.invokevirtual 55, 3) := by decide +kernel
theorem dX1_mayPut_14 : decode cX1_mayPut 14 = .ok (.ifCond .ne 24, 3) := by decide +kernel
theorem dX1_mayPut_17 : decode cX1_mayPut 17 = .ok (.aload_n 0, 1) := by decide +kernel
theorem dX1_mayPut_18 : decode cX1_mayPut 18 = .ok (.getfield 22, 3) := by decide +kernel
theorem dX1_mayPut_21 : decode cX1_mayPut 21 = .ok (.iload_n 1, 1) := by decide +kernel
theorem dX1_mayPut_22 : decode cX1_mayPut 22 = .ok (.iaload, 1) := by decide +kernel
theorem dX1_mayPut_23 : decode cX1_mayPut 23 = .ok (.ifCond .ne 15, 3) := by decide +kernel
theorem dX1_mayPut_26 : decode cX1_mayPut 26 = .ok (.aload_n 0, 1) := by decide +kernel
theorem dX1_mayPut_27 : decode cX1_mayPut 27 = .ok (.getfield 41, 3) := by decide +kernel
theorem dX1_mayPut_30 : decode cX1_mayPut 30 = .ok (.iconst 4, 1) := by decide +kernel
theorem dX1_mayPut_31 : decode cX1_mayPut 31 = .ok (.if_icmp .ge 7, 3) := by decide +kernel
theorem dX1_mayPut_34 : decode cX1_mayPut 34 = .ok (.iconst 1, 1) := by decide +kernel
theorem dX1_mayPut_35 : decode cX1_mayPut 35 = .ok (.goto 4, 3) := by decide +kernel
theorem dX1_mayPut_38 : decode cX1_mayPut 38 = .ok (.iconst 0, 1) := by decide +kernel
theorem dX1_mayPut_39 : decode cX1_mayPut 39 = .ok (.ireturn, 1) := by decide +kernel
theorem dX1_setWork_0 : decode cX1_setWork 0 = .ok (.aload_n 0, 1) := by decide +kernel
theorem dX1_setWork_1 : decode cX1_setWork 1 = .ok (.getfield 25, 3) := by decide +kernel
theorem dX1_setWork_4 : decode cX1_setWork 4 = .ok (.iload_n 1, 1) := by decide +kernel
theorem dX1_setWork_5 : decode cX1_setWork 5 = .ok (.dup2, 1) := by decide +kernel
theorem dX1_setWork_6 : decode cX1_setWork 6 = .ok (.iaload, 1) := by decide +kernel
theorem dX1_setWork_7 : decode cX1_setWork 7 = .ok (.iload_n 2, 1) := by decide +kernel
theorem dX1_setWork_8 : decode cX1_setWork 8 = .ok (.invokestatic 51, 3) := by decide +kernel
theorem dX1_setWork_11 : decode cX1_setWork 11 = .ok (.ixor, 1) := by decide +kernel
theorem dX1_setWork_12 : decode cX1_setWork 12 = .ok (.iastore, 1) := by decide +kernel
theorem dX1_setWork_13 : decode cX1_setWork 13 = .ok (.aload_n 0, 1) := by decide +kernel
theorem dX1_setWork_14 : decode cX1_setWork 14 = .ok (.dup, 1) := by decide +kernel
theorem dX1_setWork_15 : decode cX1_setWork 15 = .ok (.getfield 41, 3) := by decide +kernel
theorem dX1_setWork_18 : decode cX1_setWork 18 = .ok (.iload_n 3, 1) := by decide +kernel
theorem dX1_setWork_19 : decode cX1_setWork 19 = .ok (.ifCond .eq 7, 3) := by decide +kernel
theorem dX1_setWork_22 : decode cX1_setWork 22 = .ok (.iconst 1, 1) := by decide +kernel
theorem dX1_setWork_23 : decode cX1_setWork 23 = .ok (.goto 4, 3) := by decide +kernel
theorem dX1_setWork_26 : decode cX1_setWork 26 = .ok (.iconst (-1), 1) := by decide +kernel
theorem dX1_setWork_27 : decode cX1_setWork 27 = .ok (.iadd, 1) := by decide +kernel
theorem dX1_setWork_28 : decode cX1_setWork 28 = .ok (.putfield 41, 3) := by decide +kernel
theorem dX1_setWork_31 : decode cX1_setWork 31 = .ok (.return_, 1) := by decide +kernel
theorem dX1_groundOf_0 : decode cX1_groundOf 0 = .ok (.aload_n 0, 1) := by decide +kernel
theorem dX1_groundOf_1 : decode cX1_groundOf 1 = .ok (.getfield 18, 3) := by decide +kernel
theorem dX1_groundOf_4 : decode cX1_groundOf 4 = .ok (.iload_n 1, 1) := by decide +kernel
theorem dX1_groundOf_5 : decode cX1_groundOf 5 = .ok (.iaload, 1) := by decide +kernel
theorem dX1_groundOf_6 : decode cX1_groundOf 6 = .ok (.istore_n 2, 1) := by decide +kernel
theorem dX1_groundOf_7 : decode cX1_groundOf 7 = .ok (.aload_n 0, 1) := by decide +kernel
theorem dX1_groundOf_8 : decode cX1_groundOf 8 = .ok (.getfield 25, 3) := by decide +kernel
theorem dX1_groundOf_11 : decode cX1_groundOf 11 = .ok (.iload_n 1, 1) := by decide +kernel
theorem dX1_groundOf_12 : decode cX1_groundOf 12 = .ok (.iaload, 1) := by decide +kernel
theorem dX1_groundOf_13 : decode cX1_groundOf 13 = .ok (.iconst 1, 1) := by decide +kernel
theorem dX1_groundOf_14 : decode cX1_groundOf 14 = .ok (.iand, 1) := by decide +kernel
theorem dX1_groundOf_15 : decode cX1_groundOf 15 = .ok (.ifCond .eq 6, 3) := by decide +kernel
theorem dX1_groundOf_18 : decode cX1_groundOf 18 = .ok (.iinc 2 8, 3) := by decide +kernel
theorem dX1_groundOf_21 : decode cX1_groundOf 21 = .ok (.aload_n 0, 1) := by decide +kernel
theorem dX1_groundOf_22 : decode cX1_groundOf 22 = .ok (.getfield 25, 3) := by decide +kernel
theorem dX1_groundOf_25 : decode cX1_groundOf 25 = .ok (.iload_n 1, 1) := by decide +kernel
theorem dX1_groundOf_26 : decode cX1_groundOf 26 = .ok (.iaload, 1) := by decide +kernel
theorem dX1_groundOf_27 : decode cX1_groundOf 27 = .ok (.iconst 2, 1) := by decide +kernel
theorem dX1_groundOf_28 : decode cX1_groundOf 28 = .ok (.iand, 1) := by decide +kernel
theorem dX1_groundOf_29 : decode cX1_groundOf 29 = .ok (.ifCond .eq 6, 3) := by decide +kernel
theorem dX1_groundOf_32 : decode cX1_groundOf 32 = .ok (.iinc 2 (-8), 3) := by decide +kernel
theorem dX1_groundOf_35 : decode cX1_groundOf 35 = .ok (.iload_n 2, 1) := by decide +kernel
theorem dX1_groundOf_36 : decode cX1_groundOf 36 = .ok (.ireturn, 1) := by decide +kernel
theorem dX1_addCandidate_0 : decode cX1_addCandidate 0 = .ok (.aload_n 0, 1) := by decide +kernel
theorem dX1_addCandidate_1 : decode cX1_addCandidate 1 = .ok (.iload_n 1, 1) := by decide +kernel
theorem dX1_addCandidate_2 : decode cX1_addCandidate 2 = .ok (.invokevirtual 47, 3) := by decide +kernel
theorem dX1_addCandidate_5 : decode cX1_addCandidate 5 = .ok (.ifCond .eq 12, 3) := by decide +kernel
theorem dX1_addCandidate_8 : decode cX1_addCandidate 8 = .ok (.aload_n 0, 1) := by decide +kernel
theorem dX1_addCandidate_9 : decode cX1_addCandidate 9 = .ok (.getfield 44, 3) := by decide +kernel
theorem dX1_addCandidate_12 : decode cX1_addCandidate 12 = .ok (.bipush 6, 2) := by decide +kernel
theorem dX1_addCandidate_14 : decode cX1_addCandidate 14 = .ok (.if_icmp .lt 5, 3) := by decide +kernel
theorem dX1_addCandidate_17 : decode cX1_addCandidate 17 = .ok (.iconst (-1), 1) := by decide +kernel
theorem dX1_addCandidate_18 : decode cX1_addCandidate 18 = .ok (.ireturn, 1) := by decide +kernel
theorem dX1_addCandidate_19 : decode cX1_addCandidate 19 = .ok (.iconst 0, 1) := by decide +kernel
theorem dX1_addCandidate_20 : decode cX1_addCandidate 20 = .ok (.istore_n 2, 1) := by decide +kernel
theorem dX1_addCandidate_21 : decode cX1_addCandidate 21 = .ok (.iload_n 2, 1) := by decide +kernel
theorem dX1_addCandidate_22 : decode cX1_addCandidate 22 = .ok (.aload_n 0, 1) := by decide +kernel
theorem dX1_addCandidate_23 : decode cX1_addCandidate 23 = .ok (.getfield 44, 3) := by decide +kernel
theorem dX1_addCandidate_26 : decode cX1_addCandidate 26 = .ok (.if_icmp .ge 21, 3) := by decide +kernel
theorem dX1_addCandidate_29 : decode cX1_addCandidate 29 = .ok (.aload_n 0, 1) := by decide +kernel
theorem dX1_addCandidate_30 : decode cX1_addCandidate 30 = .ok (.getfield 28, 3) := by decide +kernel
theorem dX1_addCandidate_33 : decode cX1_addCandidate 33 = .ok (.iload_n 2, 1) := by decide +kernel
theorem dX1_addCandidate_34 : decode cX1_addCandidate 34 = .ok (.iaload, 1) := by decide +kernel
theorem dX1_addCandidate_35 : decode cX1_addCandidate 35 = .ok (.iload_n 1, 1) := by decide +kernel
theorem dX1_addCandidate_36 : decode cX1_addCandidate 36 = .ok (.if_icmp .ne 5, 3) := by decide +kernel
theorem dX1_addCandidate_39 : decode cX1_addCandidate 39 = .ok (.iconst (-1), 1) := by decide +kernel
theorem dX1_addCandidate_40 : decode cX1_addCandidate 40 = .ok (.ireturn, 1) := by decide +kernel
theorem dX1_addCandidate_41 : decode cX1_addCandidate 41 = .ok (.iinc 2 1, 3) := by decide +kernel
theorem dX1_addCandidate_44 : decode cX1_addCandidate 44 = .ok (.goto (-23), 3) := by decide +kernel
theorem dX1_addCandidate_47 : decode cX1_addCandidate 47 = .ok (.aload_n 0, 1) := by decide +kernel
theorem dX1_addCandidate_48 : decode cX1_addCandidate 48 = .ok (.getfield 28, 3) := by decide +kernel
theorem dX1_addCandidate_51 : decode cX1_addCandidate 51 = .ok (.aload_n 0, 1) := by decide +kernel
theorem dX1_addCandidate_52 : decode cX1_addCandidate 52 = .ok (.getfield 44, 3) := by decide +kernel
theorem dX1_addCandidate_55 : decode cX1_addCandidate 55 = .ok (.iload_n 1, 1) := by decide +kernel
theorem dX1_addCandidate_56 : decode cX1_addCandidate 56 = .ok (.iastore, 1) := by decide +kernel
theorem dX1_addCandidate_57 : decode cX1_addCandidate 57 = .ok (.aload_n 0, 1) := by decide +kernel
theorem dX1_addCandidate_58 : decode cX1_addCandidate 58 = .ok (.dup, 1) := by decide +kernel
theorem dX1_addCandidate_59 : decode cX1_addCandidate 59 = .ok (.getfield 44, 3) := by decide +kernel
theorem dX1_addCandidate_62 : decode cX1_addCandidate 62 = .ok (.iconst 1, 1) := by decide +kernel
theorem dX1_addCandidate_63 : decode cX1_addCandidate 63 = .ok (.iadd, 1) := by decide +kernel
theorem dX1_addCandidate_64 : decode cX1_addCandidate 64 = .ok (.putfield 44, 3) := by decide +kernel
theorem dX1_addCandidate_67 : decode cX1_addCandidate 67 = .ok (.aload_n 0, 1) := by decide +kernel
theorem dX1_addCandidate_68 : decode cX1_addCandidate 68 = .ok (.getfield 44, 3) := by decide +kernel
theorem dX1_addCandidate_71 : decode cX1_addCandidate 71 = .ok (.iconst 1, 1) := by decide +kernel
theorem dX1_addCandidate_72 : decode cX1_addCandidate 72 = .ok (.isub, 1) := by decide +kernel
theorem dX1_addCandidate_73 : decode cX1_addCandidate 73 = .ok (.ireturn, 1) := by decide +kernel
theorem dX1_putNumbered_0 : decode cX1_putNumbered 0 = .ok (.aload_n 0, 1) := by decide +kernel
theorem dX1_putNumbered_1 : decode cX1_putNumbered 1 = .ok (.getfield 28, 3) := by decide +kernel
theorem dX1_putNumbered_4 : decode cX1_putNumbered 4 = .ok (.iload_n 1, 1) := by decide +kernel
theorem dX1_putNumbered_5 : decode cX1_putNumbered 5 = .ok (.iconst 2, 1) := by decide +kernel
theorem dX1_putNumbered_6 : decode cX1_putNumbered 6 = .ok (.idiv, 1) := by decide +kernel
theorem dX1_putNumbered_7 : decode cX1_putNumbered 7 = .ok (.iaload, 1) := by decide +kernel
theorem dX1_putNumbered_8 : decode cX1_putNumbered 8 = .ok (.istore_n 2, 1) := by decide +kernel
theorem dX1_putNumbered_9 : decode cX1_putNumbered 9 = .ok (.iload_n 1, 1) := by decide +kernel
theorem dX1_putNumbered_10 : decode cX1_putNumbered 10 = .ok (.iconst 2, 1) := by decide +kernel
theorem dX1_putNumbered_11 : decode cX1_putNumbered 11 = .ok (.irem, 1) := by decide +kernel
theorem dX1_putNumbered_12 : decode cX1_putNumbered 12 = .ok (.iconst 1, 1) := by decide +kernel
theorem dX1_putNumbered_13 : decode cX1_putNumbered 13 = .ok (.if_icmp .ne 7, 3) := by decide +kernel
theorem dX1_putNumbered_16 : decode cX1_putNumbered 16 = .ok (.iconst 1, 1) := by decide +kernel
theorem dX1_putNumbered_17 : decode cX1_putNumbered 17 = .ok (.goto 4, 3) := by decide +kernel
theorem dX1_putNumbered_20 : decode cX1_putNumbered 20 = .ok (.iconst 0, 1) := by decide +kernel
theorem dX1_putNumbered_21 : decode cX1_putNumbered 21 = .ok (.istore_n 3, 1) := by decide +kernel
theorem dX1_putNumbered_22 : decode cX1_putNumbered 22 = .ok (.aload_n 0, 1) := by decide +kernel
theorem dX1_putNumbered_23 : decode cX1_putNumbered 23 = .ok (.iload_n 2, 1) := by decide +kernel
theorem dX1_putNumbered_24 : decode cX1_putNumbered 24 = .ok (.iload_n 3, 1) := by decide +kernel
theorem dX1_putNumbered_25 : decode cX1_putNumbered 25 = .ok (.invokevirtual 59, 3) := by decide +kernel
theorem dX1_putNumbered_28 : decode cX1_putNumbered 28 = .ok (.istore 4, 2) := by decide +kernel
theorem dX1_putNumbered_30 : decode cX1_putNumbered 30 = .ok (.iload 4, 2) := by decide +kernel
theorem dX1_putNumbered_32 : decode cX1_putNumbered 32 = .ok (.ifCond .eq 10, 3) := by decide +kernel
theorem dX1_putNumbered_35 : decode cX1_putNumbered 35 = .ok (.aload_n 0, 1) := by decide +kernel
theorem dX1_putNumbered_36 : decode cX1_putNumbered 36 = .ok (.iload_n 2, 1) := by decide +kernel
theorem dX1_putNumbered_37 : decode cX1_putNumbered 37 = .ok (.iload_n 3, 1) := by decide +kernel
theorem dX1_putNumbered_38 : decode cX1_putNumbered 38 = .ok (.iconst 1, 1) := by decide +kernel
theorem dX1_putNumbered_39 : decode cX1_putNumbered 39 = .ok (.invokevirtual 62, 3) := by decide +kernel
theorem dX1_putNumbered_42 : decode cX1_putNumbered 42 = .ok (.iload 4, 2) := by decide +kernel
theorem dX1_putNumbered_44 : decode cX1_putNumbered 44 = .ok (.ireturn, 1) := by decide +kernel
theorem dX1_takeNumbered_0 : decode cX1_takeNumbered 0 = .ok (.aload_n 0, 1) := by decide +kernel
theorem dX1_takeNumbered_1 : decode cX1_takeNumbered 1 = .ok (.aload_n 0, 1) := by decide +kernel
theorem dX1_takeNumbered_2 : decode cX1_takeNumbered 2 = .ok (.getfield 28, 3) := by decide +kernel
theorem dX1_takeNumbered_5 : decode cX1_takeNumbered 5 = .ok (.iload_n 1, 1) := by decide +kernel
theorem dX1_takeNumbered_6 : decode cX1_takeNumbered 6 = .ok (.iconst 2, 1) := by decide +kernel
theorem dX1_takeNumbered_7 : decode cX1_takeNumbered 7 = .ok (.idiv, 1) := by decide +kernel
theorem dX1_takeNumbered_8 : decode cX1_takeNumbered 8 = .ok (.iaload, 1) := by decide +kernel
theorem dX1_takeNumbered_9 : decode cX1_takeNumbered 9 = .ok (.iload_n 1, 1) := by decide +kernel
theorem dX1_takeNumbered_10 : decode cX1_takeNumbered 10 = .ok (.iconst 2, 1) := by decide +kernel
theorem dX1_takeNumbered_11 : decode cX1_takeNumbered 11 = .ok (.irem, 1) := by decide +kernel
theorem dX1_takeNumbered_12 : decode cX1_takeNumbered 12 = .ok (.iconst 1, 1) := by decide +kernel
theorem dX1_takeNumbered_13 : decode cX1_takeNumbered 13 = .ok (.if_icmp .ne 7, 3) := by decide +kernel
theorem dX1_takeNumbered_16 : decode cX1_takeNumbered 16 = .ok (.iconst 1, 1) := by decide +kernel
theorem dX1_takeNumbered_17 : decode cX1_takeNumbered 17 = .ok (.goto 4, 3) := by decide +kernel
theorem dX1_takeNumbered_20 : decode cX1_takeNumbered 20 = .ok (.iconst 0, 1) := by decide +kernel
theorem dX1_takeNumbered_21 : decode cX1_takeNumbered 21 = .ok (.iconst 0, 1) := by decide +kernel
theorem dX1_takeNumbered_22 : decode cX1_takeNumbered 22 = .ok (.invokevirtual 62, 3) := by decide +kernel
theorem dX1_takeNumbered_25 : decode cX1_takeNumbered 25 = .ok (.return_, 1) := by decide +kernel
theorem dX2_node_0 : decode cX2_node 0 = .ok (.iload_n 0, 1) := by decide +kernel
theorem dX2_node_1 : decode cX2_node 1 = .ok (.bipush 25, 2) := by decide +kernel
theorem dX2_node_3 : decode cX2_node 3 = .ok (.imul, 1) := by decide +kernel
theorem dX2_node_4 : decode cX2_node 4 = .ok (.iload_n 1, 1) := by decide +kernel
theorem dX2_node_5 : decode cX2_node 5 = .ok (.iadd, 1) := by decide +kernel
theorem dX2_node_6 : decode cX2_node 6 = .ok (.ireturn, 1) := by decide +kernel
theorem dX2_clear_0 : decode cX2_clear 0 = .ok (.aload_n 0, 1) := by decide +kernel
theorem dX2_clear_1 : decode cX2_clear 1 = .ok (.iconst 0, 1) := by decide +kernel
theorem dX2_clear_2 : decode cX2_clear 2 = .ok (.putfield 40, 3) := by decide +kernel
theorem dX2_clear_5 : decode cX2_clear 5 = .ok (.aload_n 0, 1) := by decide +kernel
theorem dX2_clear_6 : decode cX2_clear 6 = .ok (.getfield 15, 3) := by decide +kernel
theorem dX2_clear_9 : decode cX2_clear 9 = .ok (.iconst (-1), 1) := by decide +kernel
theorem dX2_clear_10 : decode cX2_clear 10 = .ok (.invokestatic 44, 3) := by decide +kernel
theorem dX2_clear_13 : decode cX2_clear 13 = .ok (.return_, 1) := by decide +kernel
theorem dX2_join_0 : decode cX2_join 0 = .ok (.aload_n 0, 1) := by decide +kernel
theorem dX2_join_1 : decode cX2_join 1 = .ok (.getfield 40, 3) := by decide +kernel
theorem dX2_join_4 : decode cX2_join 4 = .ok (.iconst 2, 1) := by decide +kernel
theorem dX2_join_5 : decode cX2_join 5 = .ok (.iadd, 1) := by decide +kernel
theorem dX2_join_6 : decode cX2_join 6 = .ok (.sipush 1088, 3) := by decide +kernel
theorem dX2_join_9 : decode cX2_join 9 = .ok (.if_icmp .gt 17, 3) := by decide +kernel
theorem dX2_join_12 : decode cX2_join 12 = .ok (.aload_n 0, 1) := by decide +kernel
theorem dX2_join_13 : decode cX2_join 13 = .ok (.iload_n 1, 1) := by decide +kernel
theorem dX2_join_14 : decode cX2_join 14 = .ok (.iload_n 2, 1) := by decide +kernel
theorem dX2_join_15 : decode cX2_join 15 = .ok (.iload_n 3, 1) := by decide +kernel
theorem dX2_join_16 : decode cX2_join 16 = .ok (.invokevirtual 50, 3) := by decide +kernel
theorem dX2_join_19 : decode cX2_join 19 = .ok (.aload_n 0, 1) := by decide +kernel
theorem dX2_join_20 : decode cX2_join 20 = .ok (.iload_n 2, 1) := by decide +kernel
theorem dX2_join_21 : decode cX2_join 21 = .ok (.iload_n 1, 1) := by decide +kernel
theorem dX2_join_22 : decode cX2_join 22 = .ok (.iconst 0, 1) := by decide +kernel
theorem dX2_join_23 : decode cX2_join 23 = .ok (.invokevirtual 50, 3) := by decide +kernel
theorem dX2_join_26 : decode cX2_join 26 = .ok (.return_, 1) := by decide +kernel
theorem dX2_addArc_0 : decode cX2_addArc 0 = .ok (.aload_n 0, 1) := by decide +kernel
theorem dX2_addArc_1 : decode cX2_addArc 1 = .ok (.getfield 22, 3) := by decide +kernel
theorem dX2_addArc_4 : decode cX2_addArc 4 = .ok (.aload_n 0, 1) := by decide +kernel
theorem dX2_addArc_5 : decode cX2_addArc 5 = .ok (.getfield 40, 3) := by decide +kernel
theorem dX2_addArc_8 : decode cX2_addArc 8 = .ok (.iload_n 2, 1) := by decide +kernel
theorem dX2_addArc_9 : decode cX2_addArc 9 = .ok (.iastore, 1) := by decide +kernel
theorem dX2_addArc_10 : decode cX2_addArc 10 = .ok (.aload_n 0, 1) := by decide +kernel
theorem dX2_addArc_11 : decode cX2_addArc 11 = .ok (.getfield 25, 3) := by decide +kernel
theorem dX2_addArc_14 : decode cX2_addArc 14 = .ok (.aload_n 0, 1) := by decide +kernel
theorem dX2_addArc_15 : decode cX2_addArc 15 = .ok (.getfield 40, 3) := by decide +kernel
theorem dX2_addArc_18 : decode cX2_addArc 18 = .ok (.iload_n 3, 1) := by decide +kernel
theorem dX2_addArc_19 : decode cX2_addArc 19 = .ok (.iastore, 1) := by decide +kernel
theorem dX2_addArc_20 : decode cX2_addArc 20 = .ok (.aload_n 0, 1) := by decide +kernel
theorem dX2_addArc_21 : decode cX2_addArc 21 = .ok (.getfield 19, 3) := by decide +kernel
theorem dX2_addArc_24 : decode cX2_addArc 24 = .ok (.aload_n 0, 1) := by decide +kernel
theorem dX2_addArc_25 : decode cX2_addArc 25 = .ok (.getfield 40, 3) := by decide +kernel
theorem dX2_addArc_28 : decode cX2_addArc 28 = .ok (.aload_n 0, 1) := by decide +kernel
theorem dX2_addArc_29 : decode cX2_addArc 29 = .ok (.getfield 15, 3) := by decide +kernel
theorem dX2_addArc_32 : decode cX2_addArc 32 = .ok (.iload_n 1, 1) := by decide +kernel
theorem dX2_addArc_33 : decode cX2_addArc 33 = .ok (.iaload, 1) := by decide +kernel
theorem dX2_addArc_34 : decode cX2_addArc 34 = .ok (.iastore, 1) := by decide +kernel
theorem dX2_addArc_35 : decode cX2_addArc 35 = .ok (.aload_n 0, 1) := by decide +kernel
theorem dX2_addArc_36 : decode cX2_addArc 36 = .ok (.getfield 15, 3) := by decide +kernel
theorem dX2_addArc_39 : decode cX2_addArc 39 = .ok (.iload_n 1, 1) := by decide +kernel
theorem dX2_addArc_40 : decode cX2_addArc 40 = .ok (.aload_n 0, 1) := by decide +kernel
theorem dX2_addArc_41 : decode cX2_addArc 41 = .ok (.getfield 40, 3) := by decide +kernel
theorem dX2_addArc_44 : decode cX2_addArc 44 = .ok (.iastore, 1) := by decide +kernel
theorem dX2_addArc_45 : decode cX2_addArc 45 = .ok (.aload_n 0, 1) := by decide +kernel
theorem dX2_addArc_46 : decode cX2_addArc 46 = .ok (.dup, 1) := by decide +kernel
theorem dX2_addArc_47 : decode cX2_addArc 47 = .ok (.getfield 40, 3) := by decide +kernel
theorem dX2_addArc_50 : decode cX2_addArc 50 = .ok (.iconst 1, 1) := by decide +kernel
theorem dX2_addArc_51 : decode cX2_addArc 51 = .ok (.iadd, 1) := by decide +kernel
theorem dX2_addArc_52 : decode cX2_addArc 52 = .ok (.putfield 40, 3) := by decide +kernel
theorem dX2_addArc_55 : decode cX2_addArc 55 = .ok (.return_, 1) := by decide +kernel
theorem dX2_mostThrough_0 : decode cX2_mostThrough 0 = .ok (.aload_n 0, 1) := by decide +kernel
theorem dX2_mostThrough_1 : decode cX2_mostThrough 1 = .ok (.invokevirtual 54, 3) := by decide +kernel
theorem dX2_mostThrough_4 : decode cX2_mostThrough 4 = .ok (.aload_n 0, 1) := by decide +kernel
theorem dX2_mostThrough_5 : decode cX2_mostThrough 5 = .ok (.invokevirtual 57, 3) := by decide +kernel
theorem dX2_mostThrough_8 : decode cX2_mostThrough 8 = .ok (.istore_n 1, 1) := by decide +kernel
theorem dX2_mostThrough_9 : decode cX2_mostThrough 9 = .ok (.iconst 0, 1) := by decide +kernel
theorem dX2_mostThrough_10 : decode cX2_mostThrough 10 = .ok (.istore_n 2, 1) := by decide +kernel
theorem dX2_mostThrough_11 : decode cX2_mostThrough 11 = .ok (.iload_n 2, 1) := by decide +kernel
theorem dX2_mostThrough_12 : decode cX2_mostThrough 12 = .ok (.ldc 61, 2) := by decide +kernel
theorem dX2_mostThrough_14 : decode cX2_mostThrough 14 = .ok (.if_icmp .gt 23, 3) := by decide +kernel
theorem dX2_mostThrough_17 : decode cX2_mostThrough 17 = .ok (.aload_n 0, 1) := by decide +kernel
theorem dX2_mostThrough_18 : decode cX2_mostThrough 18 = .ok (.invokevirtual 62, 3) := by decide +kernel
theorem dX2_mostThrough_21 : decode cX2_mostThrough 21 = .ok (.ifCond .eq 16, 3) := by decide +kernel
theorem dX2_mostThrough_24 : decode cX2_mostThrough 24 = .ok (.iload_n 1, 1) := by decide +kernel
theorem dX2_mostThrough_25 : decode cX2_mostThrough 25 = .ok (.aload_n 0, 1) := by decide +kernel
theorem dX2_mostThrough_26 : decode cX2_mostThrough 26 = .ok (.invokevirtual 57, 3) := by decide +kernel
theorem dX2_mostThrough_29 : decode cX2_mostThrough 29 = .ok (.iadd, 1) := by decide +kernel
theorem dX2_mostThrough_30 : decode cX2_mostThrough 30 = .ok (.istore_n 1, 1) := by decide +kernel
theorem dX2_mostThrough_31 : decode cX2_mostThrough 31 = .ok (.iinc 2 1, 3) := by decide +kernel
theorem dX2_mostThrough_34 : decode cX2_mostThrough 34 = .ok (.goto (-23), 3) := by decide +kernel
theorem dX2_mostThrough_37 : decode cX2_mostThrough 37 = .ok (.iload_n 1, 1) := by decide +kernel
theorem dX2_mostThrough_38 : decode cX2_mostThrough 38 = .ok (.ireturn, 1) := by decide +kernel
theorem dX2_isReached_0 : decode cX2_isReached 0 = .ok (.aload_n 0, 1) := by decide +kernel
theorem dX2_isReached_1 : decode cX2_isReached 1 = .ok (.getfield 28, 3) := by decide +kernel
theorem dX2_isReached_4 : decode cX2_isReached 4 = .ok (.iload_n 1, 1) := by decide +kernel
theorem dX2_isReached_5 : decode cX2_isReached 5 = .ok (.iaload, 1) := by decide +kernel
theorem dX2_isReached_6 : decode cX2_isReached 6 = .ok (.iconst (-1), 1) := by decide +kernel
theorem dX2_isReached_7 : decode cX2_isReached 7 = .ok (.if_icmp .eq 7, 3) := by decide +kernel
theorem dX2_isReached_10 : decode cX2_isReached 10 = .ok (.iconst 1, 1) := by decide +kernel
theorem dX2_isReached_11 : decode cX2_isReached 11 = .ok (.goto 4, 3) := by decide +kernel
theorem dX2_isReached_14 : decode cX2_isReached 14 = .ok (.iconst 0, 1) := by decide +kernel
theorem dX2_isReached_15 : decode cX2_isReached 15 = .ok (.ireturn, 1) := by decide +kernel
theorem dX2_layByHours_0 : decode cX2_layByHours 0 = .ok (.iconst 0, 1) := by decide +kernel
theorem dX2_layByHours_1 : decode cX2_layByHours 1 = .ok (.istore_n 1, 1) := by decide +kernel
theorem dX2_layByHours_2 : decode cX2_layByHours 2 = .ok (.iload_n 1, 1) := by decide +kernel
theorem dX2_layByHours_3 : decode cX2_layByHours 3 = .ok (.sipush 200, 3) := by decide +kernel
theorem dX2_layByHours_6 : decode cX2_layByHours 6 = .ok (.if_icmp .ge 21, 3) := by decide +kernel
theorem dX2_layByHours_9 : decode cX2_layByHours 9 = .ok (.aload_n 0, 1) := by decide +kernel
theorem dX2_layByHours_10 : decode cX2_layByHours 10 = .ok (.getfield 28, 3) := by decide +kernel
theorem dX2_layByHours_13 : decode cX2_layByHours 13 = .ok (.iload_n 1, 1) := by decide +kernel
theorem dX2_layByHours_14 : decode cX2_layByHours 14 = .ok (.iconst 1, 1) := by decide +kernel
theorem dX2_layByHours_15 : decode cX2_layByHours 15 = .ok (.iload_n 1, 1) := by decide +kernel
theorem dX2_layByHours_16 : decode cX2_layByHours 16 = .ok (.bipush 25, 2) := by decide +kernel
theorem dX2_layByHours_18 : decode cX2_layByHours 18 = .ok (.irem, 1) := by decide +kernel
theorem dX2_layByHours_19 : decode cX2_layByHours 19 = .ok (.iadd, 1) := by decide +kernel
theorem dX2_layByHours_20 : decode cX2_layByHours 20 = .ok (.iastore, 1) := by decide +kernel
theorem dX2_layByHours_21 : decode cX2_layByHours 21 = .ok (.iinc 1 1, 3) := by decide +kernel
theorem dX2_layByHours_24 : decode cX2_layByHours 24 = .ok (.goto (-22), 3) := by decide +kernel
theorem dX2_layByHours_27 : decode cX2_layByHours 27 = .ok (.aload_n 0, 1) := by decide +kernel
theorem dX2_layByHours_28 : decode cX2_layByHours 28 = .ok (.getfield 28, 3) := by decide +kernel
theorem dX2_layByHours_31 : decode cX2_layByHours 31 = .ok (.sipush 200, 3) := by decide +kernel
theorem dX2_layByHours_34 : decode cX2_layByHours 34 = .ok (.iconst 0, 1) := by decide +kernel
theorem dX2_layByHours_35 : decode cX2_layByHours 35 = .ok (.iastore, 1) := by decide +kernel
theorem dX2_layByHours_36 : decode cX2_layByHours 36 = .ok (.aload_n 0, 1) := by decide +kernel
theorem dX2_layByHours_37 : decode cX2_layByHours 37 = .ok (.getfield 28, 3) := by decide +kernel
theorem dX2_layByHours_40 : decode cX2_layByHours 40 = .ok (.sipush 201, 3) := by decide +kernel
theorem dX2_layByHours_43 : decode cX2_layByHours 43 = .ok (.bipush 26, 2) := by decide +kernel
theorem dX2_layByHours_45 : decode cX2_layByHours 45 = .ok (.iastore, 1) := by decide +kernel
theorem dX2_layByHours_46 : decode cX2_layByHours 46 = .ok (.return_, 1) := by decide +kernel
theorem dX2_layByDistance_0 : decode cX2_layByDistance 0 = .ok (.aload_n 0, 1) := by decide +kernel
theorem dX2_layByDistance_1 : decode cX2_layByDistance 1 = .ok (.getfield 28, 3) := by decide +kernel
theorem dX2_layByDistance_4 : decode cX2_layByDistance 4 = .ok (.iconst (-1), 1) := by decide +kernel
theorem dX2_layByDistance_5 : decode cX2_layByDistance 5 = .ok (.invokestatic 44, 3) := by decide +kernel
theorem dX2_layByDistance_8 : decode cX2_layByDistance 8 = .ok (.aload_n 0, 1) := by decide +kernel
theorem dX2_layByDistance_9 : decode cX2_layByDistance 9 = .ok (.getfield 28, 3) := by decide +kernel
theorem dX2_layByDistance_12 : decode cX2_layByDistance 12 = .ok (.sipush 200, 3) := by decide +kernel
theorem dX2_layByDistance_15 : decode cX2_layByDistance 15 = .ok (.iconst 0, 1) := by decide +kernel
theorem dX2_layByDistance_16 : decode cX2_layByDistance 16 = .ok (.iastore, 1) := by decide +kernel
theorem dX2_layByDistance_17 : decode cX2_layByDistance 17 = .ok (.aload_n 0, 1) := by decide +kernel
theorem dX2_layByDistance_18 : decode cX2_layByDistance 18 = .ok (.getfield 34, 3) := by decide +kernel
theorem dX2_layByDistance_21 : decode cX2_layByDistance 21 = .ok (.iconst 0, 1) := by decide +kernel
theorem dX2_layByDistance_22 : decode cX2_layByDistance 22 = .ok (.sipush 200, 3) := by decide +kernel
theorem dX2_layByDistance_25 : decode cX2_layByDistance 25 = .ok (.iastore, 1) := by decide +kernel
theorem dX2_layByDistance_26 : decode cX2_layByDistance 26 = .ok (.iconst 1, 1) := by decide +kernel
theorem dX2_layByDistance_27 : decode cX2_layByDistance 27 = .ok (.istore_n 1, 1) := by decide +kernel
theorem dX2_layByDistance_28 : decode cX2_layByDistance 28 = .ok (.iconst 0, 1) := by decide +kernel
theorem dX2_layByDistance_29 : decode cX2_layByDistance 29 = .ok (.istore_n 2, 1) := by decide +kernel
theorem dX2_layByDistance_30 : decode cX2_layByDistance 30 = .ok (.iload_n 2, 1) := by decide +kernel
theorem dX2_layByDistance_31 : decode cX2_layByDistance 31 = .ok (.iload_n 1, 1) := by decide +kernel
theorem dX2_layByDistance_32 : decode cX2_layByDistance 32 = .ok (.if_icmp .ge 120, 3) := by decide +kernel
theorem dX2_layByDistance_35 : decode cX2_layByDistance 35 = .ok (.aload_n 0, 1) := by decide +kernel
theorem dX2_layByDistance_36 : decode cX2_layByDistance 36 = .ok (.getfield 34, 3) := by decide +kernel
theorem dX2_layByDistance_39 : decode cX2_layByDistance 39 = .ok (.iload_n 2, 1) := by decide +kernel
theorem dX2_layByDistance_40 : decode cX2_layByDistance 40 = .ok (.iaload, 1) := by decide +kernel
theorem dX2_layByDistance_41 : decode cX2_layByDistance 41 = .ok (.istore_n 3, 1) := by decide +kernel
theorem dX2_layByDistance_42 : decode cX2_layByDistance 42 = .ok (.aload_n 0, 1) := by decide +kernel
theorem dX2_layByDistance_43 : decode cX2_layByDistance 43 = .ok (.getfield 15, 3) := by decide +kernel
theorem dX2_layByDistance_46 : decode cX2_layByDistance 46 = .ok (.iload_n 3, 1) := by decide +kernel
theorem dX2_layByDistance_47 : decode cX2_layByDistance 47 = .ok (.iaload, 1) := by decide +kernel
theorem dX2_layByDistance_48 : decode cX2_layByDistance 48 = .ok (.istore 4, 2) := by decide +kernel
theorem dX2_layByDistance_50 : decode cX2_layByDistance 50 = .ok (.iconst 0, 1) := by decide +kernel
theorem dX2_layByDistance_51 : decode cX2_layByDistance 51 = .ok (.istore 5, 2) := by decide +kernel
theorem dX2_layByDistance_53 : decode cX2_layByDistance 53 = .ok (.iload 5, 2) := by decide +kernel
theorem dX2_layByDistance_55 : decode cX2_layByDistance 55 = .ok (.aload_n 0, 1) := by decide +kernel
theorem dX2_layByDistance_56 : decode cX2_layByDistance 56 = .ok (.getfield 40, 3) := by decide +kernel
theorem dX2_layByDistance_59 : decode cX2_layByDistance 59 = .ok (.if_icmp .ge 87, 3) := by decide +kernel
theorem dX2_layByDistance_62 : decode cX2_layByDistance 62 = .ok (.iload 4, 2) := by decide +kernel
theorem dX2_layByDistance_64 : decode cX2_layByDistance 64 = .ok (.iconst (-1), 1) := by decide +kernel
theorem dX2_layByDistance_65 : decode cX2_layByDistance 65 = .ok (.if_icmp .eq 81, 3) := by decide +kernel
theorem dX2_layByDistance_68 : decode cX2_layByDistance 68 = .ok (.aload_n 0, 1) := by decide +kernel
theorem dX2_layByDistance_69 : decode cX2_layByDistance 69 = .ok (.getfield 22, 3) := by decide +kernel
theorem dX2_layByDistance_72 : decode cX2_layByDistance 72 = .ok (.iload 4, 2) := by decide +kernel
theorem dX2_layByDistance_74 : decode cX2_layByDistance 74 = .ok (.iaload, 1) := by decide +kernel
theorem dX2_layByDistance_75 : decode cX2_layByDistance 75 = .ok (.istore 6, 2) := by decide +kernel
theorem dX2_layByDistance_77 : decode cX2_layByDistance 77 = .ok (.aload_n 0, 1) := by decide +kernel
theorem dX2_layByDistance_78 : decode cX2_layByDistance 78 = .ok (.getfield 25, 3) := by decide +kernel
theorem dX2_layByDistance_81 : decode cX2_layByDistance 81 = .ok (.iload 4, 2) := by decide +kernel
theorem dX2_layByDistance_83 : decode cX2_layByDistance 83 = .ok (.iaload, 1) := by decide +kernel
theorem dX2_layByDistance_84 : decode cX2_layByDistance 84 = .ok (.ifCond .le 47, 3) := by decide +kernel
theorem dX2_layByDistance_87 : decode cX2_layByDistance 87 = .ok (.aload_n 0, 1) := by decide +kernel
theorem dX2_layByDistance_88 : decode cX2_layByDistance 88 = .ok (.getfield 28, 3) := by decide +kernel
theorem dX2_layByDistance_91 : decode cX2_layByDistance 91 = .ok (.iload 6, 2) := by decide +kernel
theorem dX2_layByDistance_93 : decode cX2_layByDistance 93 = .ok (.iaload, 1) := by decide +kernel
theorem dX2_layByDistance_94 : decode cX2_layByDistance 94 = .ok (.iconst (-1), 1) := by decide +kernel
theorem dX2_layByDistance_95 : decode cX2_layByDistance 95 = .ok (.if_icmp .ne 36, 3) := by decide +kernel
theorem dX2_layByDistance_98 : decode cX2_layByDistance 98 = .ok (.iload_n 1, 1) := by decide +kernel
theorem dX2_layByDistance_99 : decode cX2_layByDistance 99 = .ok (.sipush 202, 3) := by decide +kernel
theorem dX2_layByDistance_102 : decode cX2_layByDistance 102 = .ok (.if_icmp .ge 29, 3) := by decide +kernel
theorem dX2_layByDistance_105 : decode cX2_layByDistance 105 = .ok (.aload_n 0, 1) := by decide +kernel
theorem dX2_layByDistance_106 : decode cX2_layByDistance 106 = .ok (.getfield 28, 3) := by decide +kernel
theorem dX2_layByDistance_109 : decode cX2_layByDistance 109 = .ok (.iload 6, 2) := by decide +kernel
theorem dX2_layByDistance_111 : decode cX2_layByDistance 111 = .ok (.aload_n 0, 1) := by decide +kernel
theorem dX2_layByDistance_112 : decode cX2_layByDistance 112 = .ok (.getfield 28, 3) := by decide +kernel
theorem dX2_layByDistance_115 : decode cX2_layByDistance 115 = .ok (.iload_n 3, 1) := by decide +kernel
theorem dX2_layByDistance_116 : decode cX2_layByDistance 116 = .ok (.iaload, 1) := by decide +kernel
theorem dX2_layByDistance_117 : decode cX2_layByDistance 117 = .ok (.iconst 1, 1) := by decide +kernel
theorem dX2_layByDistance_118 : decode cX2_layByDistance 118 = .ok (.iadd, 1) := by decide +kernel
theorem dX2_layByDistance_119 : decode cX2_layByDistance 119 = .ok (.iastore, 1) := by decide +kernel
theorem dX2_layByDistance_120 : decode cX2_layByDistance 120 = .ok (.aload_n 0, 1) := by decide +kernel
theorem dX2_layByDistance_121 : decode cX2_layByDistance 121 = .ok (.getfield 34, 3) := by decide +kernel
theorem dX2_layByDistance_124 : decode cX2_layByDistance 124 = .ok (.iload_n 1, 1) := by decide +kernel
theorem dX2_layByDistance_125 : decode cX2_layByDistance 125 = .ok (.iload 6, 2) := by decide +kernel
theorem dX2_layByDistance_127 : decode cX2_layByDistance 127 = .ok (.iastore, 1) := by decide +kernel
theorem dX2_layByDistance_128 : decode cX2_layByDistance 128 = .ok (.iinc 1 1, 3) := by decide +kernel
theorem dX2_layByDistance_131 : decode cX2_layByDistance 131 = .ok (.aload_n 0, 1) := by decide +kernel
theorem dX2_layByDistance_132 : decode cX2_layByDistance 132 = .ok (.getfield 19, 3) := by decide +kernel
theorem dX2_layByDistance_135 : decode cX2_layByDistance 135 = .ok (.iload 4, 2) := by decide +kernel
theorem dX2_layByDistance_137 : decode cX2_layByDistance 137 = .ok (.iaload, 1) := by decide +kernel
theorem dX2_layByDistance_138 : decode cX2_layByDistance 138 = .ok (.istore 4, 2) := by decide +kernel
theorem dX2_layByDistance_140 : decode cX2_layByDistance 140 = .ok (.iinc 5 1, 3) := by decide +kernel
theorem dX2_layByDistance_143 : decode cX2_layByDistance 143 = .ok (.goto (-90), 3) := by decide +kernel
theorem dX2_layByDistance_146 : decode cX2_layByDistance 146 = .ok (.iinc 2 1, 3) := by decide +kernel
theorem dX2_layByDistance_149 : decode cX2_layByDistance 149 = .ok (.goto (-119), 3) := by decide +kernel
theorem dX2_layByDistance_152 : decode cX2_layByDistance 152 = .ok (.aload_n 0, 1) := by decide +kernel
theorem dX2_layByDistance_153 : decode cX2_layByDistance 153 = .ok (.getfield 28, 3) := by decide +kernel
theorem dX2_layByDistance_156 : decode cX2_layByDistance 156 = .ok (.sipush 201, 3) := by decide +kernel
theorem dX2_layByDistance_159 : decode cX2_layByDistance 159 = .ok (.iaload, 1) := by decide +kernel
theorem dX2_layByDistance_160 : decode cX2_layByDistance 160 = .ok (.iconst (-1), 1) := by decide +kernel
theorem dX2_layByDistance_161 : decode cX2_layByDistance 161 = .ok (.if_icmp .eq 7, 3) := by decide +kernel
theorem dX2_layByDistance_164 : decode cX2_layByDistance 164 = .ok (.iconst 1, 1) := by decide +kernel
theorem dX2_layByDistance_165 : decode cX2_layByDistance 165 = .ok (.goto 4, 3) := by decide +kernel
theorem dX2_layByDistance_168 : decode cX2_layByDistance 168 = .ok (.iconst 0, 1) := by decide +kernel
theorem dX2_layByDistance_169 : decode cX2_layByDistance 169 = .ok (.ireturn, 1) := by decide +kernel
theorem dX2_pushRound_0 : decode cX2_pushRound 0 = .ok (.aload_n 0, 1) := by decide +kernel
theorem dX2_pushRound_1 : decode cX2_pushRound 1 = .ok (.getfield 15, 3) := by decide +kernel
theorem dX2_pushRound_4 : decode cX2_pushRound 4 = .ok (.iconst 0, 1) := by decide +kernel
theorem dX2_pushRound_5 : decode cX2_pushRound 5 = .ok (.aload_n 0, 1) := by decide +kernel
theorem dX2_pushRound_6 : decode cX2_pushRound 6 = .ok (.getfield 31, 3) := by decide +kernel
theorem dX2_pushRound_9 : decode cX2_pushRound 9 = .ok (.iconst 0, 1) := by decide +kernel
theorem dX2_pushRound_10 : decode cX2_pushRound 10 = .ok (.sipush 202, 3) := by decide +kernel
theorem dX2_pushRound_13 : decode cX2_pushRound 13 = .ok (.invokestatic 66, 3) := by decide +kernel
theorem dX2_pushRound_16 : decode cX2_pushRound 16 = .ok (.iconst 0, 1) := by decide +kernel
theorem dX2_pushRound_17 : decode cX2_pushRound 17 = .ok (.istore_n 1, 1) := by decide +kernel
theorem dX2_pushRound_18 : decode cX2_pushRound 18 = .ok (.sipush 200, 3) := by decide +kernel
theorem dX2_pushRound_21 : decode cX2_pushRound 21 = .ok (.istore_n 2, 1) := by decide +kernel
theorem dX2_pushRound_22 : decode cX2_pushRound 22 = .ok (.iconst 0, 1) := by decide +kernel
theorem dX2_pushRound_23 : decode cX2_pushRound 23 = .ok (.istore_n 3, 1) := by decide +kernel
theorem dX2_pushRound_24 : decode cX2_pushRound 24 = .ok (.iconst 0, 1) := by decide +kernel
theorem dX2_pushRound_25 : decode cX2_pushRound 25 = .ok (.istore 4, 2) := by decide +kernel
theorem dX2_pushRound_27 : decode cX2_pushRound 27 = .ok (.iload 4, 2) := by decide +kernel
theorem dX2_pushRound_29 : decode cX2_pushRound 29 = .ok (.ldc 61, 2) := by decide +kernel
theorem dX2_pushRound_31 : decode cX2_pushRound 31 = .ok (.if_icmp .ge 114, 3) := by decide +kernel
theorem dX2_pushRound_34 : decode cX2_pushRound 34 = .ok (.iload_n 2, 1) := by decide +kernel
theorem dX2_pushRound_35 : decode cX2_pushRound 35 = .ok (.sipush 201, 3) := by decide +kernel
theorem dX2_pushRound_38 : decode cX2_pushRound 38 = .ok (.if_icmp .ne 7, 3) := by decide +kernel
theorem dX2_pushRound_41 : decode cX2_pushRound 41 = .ok (.iconst (-1), 1) := by decide +kernel
theorem dX2_pushRound_42 : decode cX2_pushRound 42 = .ok (.goto 8, 3) := by decide +kernel
theorem dX2_pushRound_45 : decode cX2_pushRound 45 = .ok (.aload_n 0, 1) := by decide +kernel
theorem dX2_pushRound_46 : decode cX2_pushRound 46 = .ok (.iload_n 2, 1) := by decide +kernel
theorem dX2_pushRound_47 : decode cX2_pushRound 47 = .ok (.invokevirtual 72, 3) := by decide +kernel
theorem dX2_pushRound_50 : decode cX2_pushRound 50 = .ok (.istore 5, 2) := by decide +kernel
theorem dX2_pushRound_52 : decode cX2_pushRound 52 = .ok (.iload_n 2, 1) := by decide +kernel
theorem dX2_pushRound_53 : decode cX2_pushRound 53 = .ok (.sipush 201, 3) := by decide +kernel
theorem dX2_pushRound_56 : decode cX2_pushRound 56 = .ok (.if_icmp .ne 20, 3) := by decide +kernel
theorem dX2_pushRound_59 : decode cX2_pushRound 59 = .ok (.iload_n 1, 1) := by decide +kernel
theorem dX2_pushRound_60 : decode cX2_pushRound 60 = .ok (.aload_n 0, 1) := by decide +kernel
theorem dX2_pushRound_61 : decode cX2_pushRound 61 = .ok (.iload_n 3, 1) := by decide +kernel
theorem dX2_pushRound_62 : decode cX2_pushRound 62 = .ok (.invokevirtual 76, 3) := by decide +kernel
theorem dX2_pushRound_65 : decode cX2_pushRound 65 = .ok (.iadd, 1) := by decide +kernel
theorem dX2_pushRound_66 : decode cX2_pushRound 66 = .ok (.istore_n 1, 1) := by decide +kernel
theorem dX2_pushRound_67 : decode cX2_pushRound 67 = .ok (.sipush 200, 3) := by decide +kernel
theorem dX2_pushRound_70 : decode cX2_pushRound 70 = .ok (.istore_n 2, 1) := by decide +kernel
theorem dX2_pushRound_71 : decode cX2_pushRound 71 = .ok (.iconst 0, 1) := by decide +kernel
theorem dX2_pushRound_72 : decode cX2_pushRound 72 = .ok (.istore_n 3, 1) := by decide +kernel
theorem dX2_pushRound_73 : decode cX2_pushRound 73 = .ok (.goto 66, 3) := by decide +kernel
theorem dX2_pushRound_76 : decode cX2_pushRound 76 = .ok (.iload 5, 2) := by decide +kernel
theorem dX2_pushRound_78 : decode cX2_pushRound 78 = .ok (.iconst (-1), 1) := by decide +kernel
theorem dX2_pushRound_79 : decode cX2_pushRound 79 = .ok (.if_icmp .eq 32, 3) := by decide +kernel
theorem dX2_pushRound_82 : decode cX2_pushRound 82 = .ok (.iload_n 3, 1) := by decide +kernel
theorem dX2_pushRound_83 : decode cX2_pushRound 83 = .ok (.sipush 202, 3) := by decide +kernel
theorem dX2_pushRound_86 : decode cX2_pushRound 86 = .ok (.if_icmp .ge 25, 3) := by decide +kernel
theorem dX2_pushRound_89 : decode cX2_pushRound 89 = .ok (.aload_n 0, 1) := by decide +kernel
theorem dX2_pushRound_90 : decode cX2_pushRound 90 = .ok (.getfield 37, 3) := by decide +kernel
theorem dX2_pushRound_93 : decode cX2_pushRound 93 = .ok (.iload_n 3, 1) := by decide +kernel
theorem dX2_pushRound_94 : decode cX2_pushRound 94 = .ok (.iload 5, 2) := by decide +kernel
theorem dX2_pushRound_96 : decode cX2_pushRound 96 = .ok (.iastore, 1) := by decide +kernel
theorem dX2_pushRound_97 : decode cX2_pushRound 97 = .ok (.iinc 3 1, 3) := by decide +kernel
theorem dX2_pushRound_100 : decode cX2_pushRound 100 = .ok (.aload_n 0, 1) := by decide +kernel
theorem dX2_pushRound_101 : decode cX2_pushRound 101 = .ok (.getfield 22, 3) := by decide +kernel
theorem dX2_pushRound_104 : decode cX2_pushRound 104 = .ok (.iload 5, 2) := by decide +kernel
theorem dX2_pushRound_106 : decode cX2_pushRound 106 = .ok (.iaload, 1) := by decide +kernel
theorem dX2_pushRound_107 : decode cX2_pushRound 107 = .ok (.istore_n 2, 1) := by decide +kernel
theorem dX2_pushRound_108 : decode cX2_pushRound 108 = .ok (.goto 31, 3) := by decide +kernel
theorem dX2_pushRound_111 : decode cX2_pushRound 111 = .ok (.iload_n 3, 1) := by decide +kernel
theorem dX2_pushRound_112 : decode cX2_pushRound 112 = .ok (.ifCond .le 33, 3) := by decide +kernel
theorem dX2_pushRound_115 : decode cX2_pushRound 115 = .ok (.aload_n 0, 1) := by decide +kernel
theorem dX2_pushRound_116 : decode cX2_pushRound 116 = .ok (.getfield 28, 3) := by decide +kernel
theorem dX2_pushRound_119 : decode cX2_pushRound 119 = .ok (.iload_n 2, 1) := by decide +kernel
theorem dX2_pushRound_120 : decode cX2_pushRound 120 = .ok (.iconst (-1), 1) := by decide +kernel
theorem dX2_pushRound_121 : decode cX2_pushRound 121 = .ok (.iastore, 1) := by decide +kernel
theorem dX2_pushRound_122 : decode cX2_pushRound 122 = .ok (.iinc 3 (-1), 3) := by decide +kernel
theorem dX2_pushRound_125 : decode cX2_pushRound 125 = .ok (.aload_n 0, 1) := by decide +kernel
theorem dX2_pushRound_126 : decode cX2_pushRound 126 = .ok (.getfield 22, 3) := by decide +kernel
theorem dX2_pushRound_129 : decode cX2_pushRound 129 = .ok (.aload_n 0, 1) := by decide +kernel
theorem dX2_pushRound_130 : decode cX2_pushRound 130 = .ok (.getfield 37, 3) := by decide +kernel
theorem dX2_pushRound_133 : decode cX2_pushRound 133 = .ok (.iload_n 3, 1) := by decide +kernel
theorem dX2_pushRound_134 : decode cX2_pushRound 134 = .ok (.iaload, 1) := by decide +kernel
theorem dX2_pushRound_135 : decode cX2_pushRound 135 = .ok (.iconst 1, 1) := by decide +kernel
theorem dX2_pushRound_136 : decode cX2_pushRound 136 = .ok (.ixor, 1) := by decide +kernel
theorem dX2_pushRound_137 : decode cX2_pushRound 137 = .ok (.iaload, 1) := by decide +kernel
theorem dX2_pushRound_138 : decode cX2_pushRound 138 = .ok (.istore_n 2, 1) := by decide +kernel
theorem dX2_pushRound_139 : decode cX2_pushRound 139 = .ok (.iinc 4 1, 3) := by decide +kernel
theorem dX2_pushRound_142 : decode cX2_pushRound 142 = .ok (.goto (-115), 3) := by decide +kernel
theorem dX2_pushRound_145 : decode cX2_pushRound 145 = .ok (.iload_n 1, 1) := by decide +kernel
theorem dX2_pushRound_146 : decode cX2_pushRound 146 = .ok (.ireturn, 1) := by decide +kernel
theorem dX2_deeperArc_0 : decode cX2_deeperArc 0 = .ok (.aload_n 0, 1) := by decide +kernel
theorem dX2_deeperArc_1 : decode cX2_deeperArc 1 = .ok (.getfield 31, 3) := by decide +kernel
theorem dX2_deeperArc_4 : decode cX2_deeperArc 4 = .ok (.iload_n 1, 1) := by decide +kernel
theorem dX2_deeperArc_5 : decode cX2_deeperArc 5 = .ok (.iaload, 1) := by decide +kernel
theorem dX2_deeperArc_6 : decode cX2_deeperArc 6 = .ok (.istore_n 2, 1) := by decide +kernel
theorem dX2_deeperArc_7 : decode cX2_deeperArc 7 = .ok (.iconst 0, 1) := by decide +kernel
theorem dX2_deeperArc_8 : decode cX2_deeperArc 8 = .ok (.istore_n 3, 1) := by decide +kernel
theorem dX2_deeperArc_9 : decode cX2_deeperArc 9 = .ok (.iload_n 3, 1) := by decide +kernel
theorem dX2_deeperArc_10 : decode cX2_deeperArc 10 = .ok (.aload_n 0, 1) := by decide +kernel
theorem dX2_deeperArc_11 : decode cX2_deeperArc 11 = .ok (.getfield 40, 3) := by decide +kernel
theorem dX2_deeperArc_14 : decode cX2_deeperArc 14 = .ok (.if_icmp .ge 30, 3) := by decide +kernel
theorem dX2_deeperArc_17 : decode cX2_deeperArc 17 = .ok (.iload_n 2, 1) := by decide +kernel
theorem dX2_deeperArc_18 : decode cX2_deeperArc 18 = .ok (.iconst (-1), 1) := by decide +kernel
theorem dX2_deeperArc_19 : decode cX2_deeperArc 19 = .ok (.if_icmp .eq 25, 3) := by decide +kernel
theorem dX2_deeperArc_22 : decode cX2_deeperArc 22 = .ok (.aload_n 0, 1) := by decide +kernel
theorem dX2_deeperArc_23 : decode cX2_deeperArc 23 = .ok (.iload_n 1, 1) := by decide +kernel
theorem dX2_deeperArc_24 : decode cX2_deeperArc 24 = .ok (.iload_n 2, 1) := by decide +kernel
theorem dX2_deeperArc_25 : decode cX2_deeperArc 25 = .ok (.invokevirtual 79, 3) := by decide +kernel
theorem dX2_deeperArc_28 : decode cX2_deeperArc 28 = .ok (.ifCond .ne 16, 3) := by decide +kernel
theorem dX2_deeperArc_31 : decode cX2_deeperArc 31 = .ok (.aload_n 0, 1) := by decide +kernel
theorem dX2_deeperArc_32 : decode cX2_deeperArc 32 = .ok (.getfield 19, 3) := by decide +kernel
theorem dX2_deeperArc_35 : decode cX2_deeperArc 35 = .ok (.iload_n 2, 1) := by decide +kernel
theorem dX2_deeperArc_36 : decode cX2_deeperArc 36 = .ok (.iaload, 1) := by decide +kernel
theorem dX2_deeperArc_37 : decode cX2_deeperArc 37 = .ok (.istore_n 2, 1) := by decide +kernel
theorem dX2_deeperArc_38 : decode cX2_deeperArc 38 = .ok (.iinc 3 1, 3) := by decide +kernel
theorem dX2_deeperArc_41 : decode cX2_deeperArc 41 = .ok (.goto (-32), 3) := by decide +kernel
theorem dX2_deeperArc_44 : decode cX2_deeperArc 44 = .ok (.aload_n 0, 1) := by decide +kernel
theorem dX2_deeperArc_45 : decode cX2_deeperArc 45 = .ok (.getfield 31, 3) := by decide +kernel
theorem dX2_deeperArc_48 : decode cX2_deeperArc 48 = .ok (.iload_n 1, 1) := by decide +kernel
theorem dX2_deeperArc_49 : decode cX2_deeperArc 49 = .ok (.iload_n 2, 1) := by decide +kernel
theorem dX2_deeperArc_50 : decode cX2_deeperArc 50 = .ok (.iastore, 1) := by decide +kernel
theorem dX2_deeperArc_51 : decode cX2_deeperArc 51 = .ok (.iload_n 2, 1) := by decide +kernel
theorem dX2_deeperArc_52 : decode cX2_deeperArc 52 = .ok (.ireturn, 1) := by decide +kernel
theorem dX2_leadsDeeper_0 : decode cX2_leadsDeeper 0 = .ok (.aload_n 0, 1) := by decide +kernel
theorem dX2_leadsDeeper_1 : decode cX2_leadsDeeper 1 = .ok (.getfield 25, 3) := by decide +kernel
theorem dX2_leadsDeeper_4 : decode cX2_leadsDeeper 4 = .ok (.iload_n 2, 1) := by decide +kernel
theorem dX2_leadsDeeper_5 : decode cX2_leadsDeeper 5 = .ok (.iaload, 1) := by decide +kernel
theorem dX2_leadsDeeper_6 : decode cX2_leadsDeeper 6 = .ok (.ifCond .le 27, 3) := by decide +kernel
theorem dX2_leadsDeeper_9 : decode cX2_leadsDeeper 9 = .ok (.aload_n 0, 1) := by decide +kernel
theorem dX2_leadsDeeper_10 : decode cX2_leadsDeeper 10 = .ok (.getfield 28, 3) := by decide +kernel
theorem dX2_leadsDeeper_13 : decode cX2_leadsDeeper 13 = .ok (.aload_n 0, 1) := by decide +kernel
theorem dX2_leadsDeeper_14 : decode cX2_leadsDeeper 14 = .ok (.getfield 22, 3) := by decide +kernel
theorem dX2_leadsDeeper_17 : decode cX2_leadsDeeper 17 = .ok (.iload_n 2, 1) := by decide +kernel
theorem dX2_leadsDeeper_18 : decode cX2_leadsDeeper 18 = .ok (.iaload, 1) := by decide +kernel
theorem dX2_leadsDeeper_19 : decode cX2_leadsDeeper 19 = .ok (.iaload, 1) := by decide +kernel
theorem dX2_leadsDeeper_20 : decode cX2_leadsDeeper 20 = .ok (.aload_n 0, 1) := by decide +kernel
theorem dX2_leadsDeeper_21 : decode cX2_leadsDeeper 21 = .ok (.getfield 28, 3) := by decide +kernel
theorem dX2_leadsDeeper_24 : decode cX2_leadsDeeper 24 = .ok (.iload_n 1, 1) := by decide +kernel
theorem dX2_leadsDeeper_25 : decode cX2_leadsDeeper 25 = .ok (.iaload, 1) := by decide +kernel
theorem dX2_leadsDeeper_26 : decode cX2_leadsDeeper 26 = .ok (.if_icmp .le 7, 3) := by decide +kernel
theorem dX2_leadsDeeper_29 : decode cX2_leadsDeeper 29 = .ok (.iconst 1, 1) := by decide +kernel
theorem dX2_leadsDeeper_30 : decode cX2_leadsDeeper 30 = .ok (.goto 4, 3) := by decide +kernel
theorem dX2_leadsDeeper_33 : decode cX2_leadsDeeper 33 = .ok (.iconst 0, 1) := by decide +kernel
theorem dX2_leadsDeeper_34 : decode cX2_leadsDeeper 34 = .ok (.ireturn, 1) := by decide +kernel
theorem dX2_pushAlong_0 : decode cX2_pushAlong 0 = .ok (.ldc 61, 2) := by decide +kernel
theorem dX2_pushAlong_2 : decode cX2_pushAlong 2 = .ok (.istore_n 2, 1) := by decide +kernel
theorem dX2_pushAlong_3 : decode cX2_pushAlong 3 = .ok (.iconst 0, 1) := by decide +kernel
theorem dX2_pushAlong_4 : decode cX2_pushAlong 4 = .ok (.istore_n 3, 1) := by decide +kernel
theorem dX2_pushAlong_5 : decode cX2_pushAlong 5 = .ok (.iload_n 3, 1) := by decide +kernel
theorem dX2_pushAlong_6 : decode cX2_pushAlong 6 = .ok (.iload_n 1, 1) := by decide +kernel
theorem dX2_pushAlong_7 : decode cX2_pushAlong 7 = .ok (.if_icmp .ge 25, 3) := by decide +kernel
theorem dX2_pushAlong_10 : decode cX2_pushAlong 10 = .ok (.iload_n 2, 1) := by decide +kernel
theorem dX2_pushAlong_11 : decode cX2_pushAlong 11 = .ok (.aload_n 0, 1) := by decide +kernel
theorem dX2_pushAlong_12 : decode cX2_pushAlong 12 = .ok (.getfield 25, 3) := by decide +kernel
theorem dX2_pushAlong_15 : decode cX2_pushAlong 15 = .ok (.aload_n 0, 1) := by decide +kernel
theorem dX2_pushAlong_16 : decode cX2_pushAlong 16 = .ok (.getfield 37, 3) := by decide +kernel
theorem dX2_pushAlong_19 : decode cX2_pushAlong 19 = .ok (.iload_n 3, 1) := by decide +kernel
theorem dX2_pushAlong_20 : decode cX2_pushAlong 20 = .ok (.iaload, 1) := by decide +kernel
theorem dX2_pushAlong_21 : decode cX2_pushAlong 21 = .ok (.iaload, 1) := by decide +kernel
theorem dX2_pushAlong_22 : decode cX2_pushAlong 22 = .ok (.invokestatic 83, 3) := by decide +kernel
theorem dX2_pushAlong_25 : decode cX2_pushAlong 25 = .ok (.istore_n 2, 1) := by decide +kernel
theorem dX2_pushAlong_26 : decode cX2_pushAlong 26 = .ok (.iinc 3 1, 3) := by decide +kernel
theorem dX2_pushAlong_29 : decode cX2_pushAlong 29 = .ok (.goto (-24), 3) := by decide +kernel
theorem dX2_pushAlong_32 : decode cX2_pushAlong 32 = .ok (.iconst 0, 1) := by decide +kernel
theorem dX2_pushAlong_33 : decode cX2_pushAlong 33 = .ok (.istore_n 3, 1) := by decide +kernel
theorem dX2_pushAlong_34 : decode cX2_pushAlong 34 = .ok (.iload_n 3, 1) := by decide +kernel
theorem dX2_pushAlong_35 : decode cX2_pushAlong 35 = .ok (.iload_n 1, 1) := by decide +kernel
theorem dX2_pushAlong_36 : decode cX2_pushAlong 36 = .ok (.if_icmp .ge 41, 3) := by decide +kernel
theorem dX2_pushAlong_39 : decode cX2_pushAlong 39 = .ok (.aload_n 0, 1) := by decide +kernel
theorem dX2_pushAlong_40 : decode cX2_pushAlong 40 = .ok (.getfield 25, 3) := by decide +kernel
theorem dX2_pushAlong_43 : decode cX2_pushAlong 43 = .ok (.aload_n 0, 1) := by decide +kernel
theorem dX2_pushAlong_44 : decode cX2_pushAlong 44 = .ok (.getfield 37, 3) := by decide +kernel
theorem dX2_pushAlong_47 : decode cX2_pushAlong 47 = .ok (.iload_n 3, 1) := by decide +kernel
theorem dX2_pushAlong_48 : decode cX2_pushAlong 48 = .ok (.iaload, 1) := by decide +kernel
theorem dX2_pushAlong_49 : decode cX2_pushAlong 49 = .ok (.dup2, 1) := by decide +kernel
theorem dX2_pushAlong_50 : decode cX2_pushAlong 50 = .ok (.iaload, 1) := by decide +kernel
theorem dX2_pushAlong_51 : decode cX2_pushAlong 51 = .ok (.iload_n 2, 1) := by decide +kernel
theorem dX2_pushAlong_52 : decode cX2_pushAlong 52 = .ok (.isub, 1) := by decide +kernel
theorem dX2_pushAlong_53 : decode cX2_pushAlong 53 = .ok (.iastore, 1) := by decide +kernel
theorem dX2_pushAlong_54 : decode cX2_pushAlong 54 = .ok (.aload_n 0, 1) := by decide +kernel
theorem dX2_pushAlong_55 : decode cX2_pushAlong 55 = .ok (.getfield 25, 3) := by decide +kernel
theorem dX2_pushAlong_58 : decode cX2_pushAlong 58 = .ok (.aload_n 0, 1) := by decide +kernel
theorem dX2_pushAlong_59 : decode cX2_pushAlong 59 = .ok (.getfield 37, 3) := by decide +kernel
theorem dX2_pushAlong_62 : decode cX2_pushAlong 62 = .ok (.iload_n 3, 1) := by decide +kernel
theorem dX2_pushAlong_63 : decode cX2_pushAlong 63 = .ok (.iaload, 1) := by decide +kernel
theorem dX2_pushAlong_64 : decode cX2_pushAlong 64 = .ok (.iconst 1, 1) := by decide +kernel
theorem dX2_pushAlong_65 : decode cX2_pushAlong 65 = .ok (.ixor, 1) := by decide +kernel
theorem dX2_pushAlong_66 : decode cX2_pushAlong 66 = .ok (.dup2, 1) := by decide +kernel
theorem dX2_pushAlong_67 : decode cX2_pushAlong 67 = .ok (.iaload, 1) := by decide +kernel
theorem dX2_pushAlong_68 : decode cX2_pushAlong 68 = .ok (.iload_n 2, 1) := by decide +kernel
theorem dX2_pushAlong_69 : decode cX2_pushAlong 69 = .ok (.iadd, 1) := by decide +kernel
theorem dX2_pushAlong_70 : decode cX2_pushAlong 70 = .ok (.iastore, 1) := by decide +kernel
theorem dX2_pushAlong_71 : decode cX2_pushAlong 71 = .ok (.iinc 3 1, 3) := by decide +kernel
theorem dX2_pushAlong_74 : decode cX2_pushAlong 74 = .ok (.goto (-40), 3) := by decide +kernel
theorem dX2_pushAlong_77 : decode cX2_pushAlong 77 = .ok (.iload_n 2, 1) := by decide +kernel
theorem dX2_pushAlong_78 : decode cX2_pushAlong 78 = .ok (.ireturn, 1) := by decide +kernel
theorem dX3_clear_0 : decode cX3_clear 0 = .ok (.aload_n 0, 1) := by decide +kernel
theorem dX3_clear_1 : decode cX3_clear 1 = .ok (.iconst 0, 1) := by decide +kernel
theorem dX3_clear_2 : decode cX3_clear 2 = .ok (.putfield 48, 3) := by decide +kernel
theorem dX3_clear_5 : decode cX3_clear 5 = .ok (.aload_n 0, 1) := by decide +kernel
theorem dX3_clear_6 : decode cX3_clear 6 = .ok (.iconst 0, 1) := by decide +kernel
theorem dX3_clear_7 : decode cX3_clear 7 = .ok (.putfield 52, 3) := by decide +kernel
theorem dX3_clear_10 : decode cX3_clear 10 = .ok (.return_, 1) := by decide +kernel
theorem dX3_has_0 : decode cX3_has 0 = .ok (.iload_n 1, 1) := by decide +kernel
theorem dX3_has_1 : decode cX3_has 1 = .ok (.iconst 0, 1) := by decide +kernel
theorem dX3_has_2 : decode cX3_has 2 = .ok (.aload_n 0, 1) := by decide +kernel
theorem dX3_has_3 : decode cX3_has 3 = .ok (.getfield 48, 3) := by decide +kernel
theorem dX3_has_6 : decode cX3_has 6 = .ok (.iconst 1, 1) := by decide +kernel
theorem dX3_has_7 : decode cX3_has 7 = .ok (.isub, 1) := by decide +kernel
theorem dX3_has_8 : decode cX3_has 8 = .ok (.invokestatic 55, 3) := by decide +kernel
theorem dX3_has_11 : decode cX3_has 11 = .ok (.ireturn, 1) := by decide +kernel
theorem dX3_isTown_0 : decode cX3_isTown 0 = .ok (.aload_n 0, 1) := by decide +kernel
theorem dX3_isTown_1 : decode cX3_isTown 1 = .ok (.iload_n 1, 1) := by decide +kernel
theorem dX3_isTown_2 : decode cX3_isTown 2 = .ok (.invokevirtual 59, 3) := by decide +kernel
theorem dX3_isTown_5 : decode cX3_isTown 5 = .ok (.ifCond .eq 17, 3) := by decide +kernel
theorem dX3_isTown_8 : decode cX3_isTown 8 = .ok (.aload_n 0, 1) := by decide +kernel
theorem dX3_isTown_9 : decode cX3_isTown 9 = .ok (.getfield 11, 3) := by decide +kernel
theorem dX3_isTown_12 : decode cX3_isTown 12 = .ok (.iload_n 1, 1) := by decide +kernel
theorem dX3_isTown_13 : decode cX3_isTown 13 = .ok (.iaload, 1) := by decide +kernel
theorem dX3_isTown_14 : decode cX3_isTown 14 = .ok (.iconst (-1), 1) := by decide +kernel
theorem dX3_isTown_15 : decode cX3_isTown 15 = .ok (.if_icmp .eq 7, 3) := by decide +kernel
theorem dX3_isTown_18 : decode cX3_isTown 18 = .ok (.iconst 1, 1) := by decide +kernel
theorem dX3_isTown_19 : decode cX3_isTown 19 = .ok (.goto 4, 3) := by decide +kernel
theorem dX3_isTown_22 : decode cX3_isTown 22 = .ok (.iconst 0, 1) := by decide +kernel
theorem dX3_isTown_23 : decode cX3_isTown 23 = .ok (.ireturn, 1) := by decide +kernel
theorem dX3_addTown_0 : decode cX3_addTown 0 = .ok (.aload_n 0, 1) := by decide +kernel
theorem dX3_addTown_1 : decode cX3_addTown 1 = .ok (.getfield 48, 3) := by decide +kernel
theorem dX3_addTown_4 : decode cX3_addTown 4 = .ok (.bipush 8, 2) := by decide +kernel
theorem dX3_addTown_6 : decode cX3_addTown 6 = .ok (.if_icmp .lt 5, 3) := by decide +kernel
theorem dX3_addTown_9 : decode cX3_addTown 9 = .ok (.iconst (-1), 1) := by decide +kernel
theorem dX3_addTown_10 : decode cX3_addTown 10 = .ok (.ireturn, 1) := by decide +kernel
theorem dX3_addTown_11 : decode cX3_addTown 11 = .ok (.aload_n 0, 1) := by decide +kernel
theorem dX3_addTown_12 : decode cX3_addTown 12 = .ok (.getfield 11, 3) := by decide +kernel
theorem dX3_addTown_15 : decode cX3_addTown 15 = .ok (.aload_n 0, 1) := by decide +kernel
theorem dX3_addTown_16 : decode cX3_addTown 16 = .ok (.getfield 48, 3) := by decide +kernel
theorem dX3_addTown_19 : decode cX3_addTown 19 = .ok (.iload_n 1, 1) := by decide +kernel
theorem dX3_addTown_20 : decode cX3_addTown 20 = .ok (.iastore, 1) := by decide +kernel
theorem dX3_addTown_21 : decode cX3_addTown 21 = .ok (.aload_n 0, 1) := by decide +kernel
theorem dX3_addTown_22 : decode cX3_addTown 22 = .ok (.getfield 15, 3) := by decide +kernel
theorem dX3_addTown_25 : decode cX3_addTown 25 = .ok (.aload_n 0, 1) := by decide +kernel
theorem dX3_addTown_26 : decode cX3_addTown 26 = .ok (.getfield 48, 3) := by decide +kernel
theorem dX3_addTown_29 : decode cX3_addTown 29 = .ok (.iload_n 2, 1) := by decide +kernel
theorem dX3_addTown_30 : decode cX3_addTown 30 = .ok (.iastore, 1) := by decide +kernel
theorem dX3_addTown_31 : decode cX3_addTown 31 = .ok (.aload_n 0, 1) := by decide +kernel
theorem dX3_addTown_32 : decode cX3_addTown 32 = .ok (.getfield 18, 3) := by decide +kernel
theorem dX3_addTown_35 : decode cX3_addTown 35 = .ok (.aload_n 0, 1) := by decide +kernel
theorem dX3_addTown_36 : decode cX3_addTown 36 = .ok (.getfield 48, 3) := by decide +kernel
theorem dX3_addTown_39 : decode cX3_addTown 39 = .ok (.iload_n 3, 1) := by decide +kernel
theorem dX3_addTown_40 : decode cX3_addTown 40 = .ok (.iastore, 1) := by decide +kernel
theorem dX3_addTown_41 : decode cX3_addTown 41 = .ok (.aload_n 0, 1) := by decide +kernel
theorem dX3_addTown_42 : decode cX3_addTown 42 = .ok (.getfield 21, 3) := by decide +kernel
theorem dX3_addTown_45 : decode cX3_addTown 45 = .ok (.aload_n 0, 1) := by decide +kernel
theorem dX3_addTown_46 : decode cX3_addTown 46 = .ok (.getfield 48, 3) := by decide +kernel
theorem dX3_addTown_49 : decode cX3_addTown 49 = .ok (.iload 4, 2) := by decide +kernel
theorem dX3_addTown_51 : decode cX3_addTown 51 = .ok (.iastore, 1) := by decide +kernel
theorem dX3_addTown_52 : decode cX3_addTown 52 = .ok (.aload_n 0, 1) := by decide +kernel
theorem dX3_addTown_53 : decode cX3_addTown 53 = .ok (.getfield 24, 3) := by decide +kernel
theorem dX3_addTown_56 : decode cX3_addTown 56 = .ok (.aload_n 0, 1) := by decide +kernel
theorem dX3_addTown_57 : decode cX3_addTown 57 = .ok (.getfield 48, 3) := by decide +kernel
theorem dX3_addTown_60 : decode cX3_addTown 60 = .ok (.iconst 0, 1) := by decide +kernel
theorem dX3_addTown_61 : decode cX3_addTown 61 = .ok (.iastore, 1) := by decide +kernel
theorem dX3_addTown_62 : decode cX3_addTown 62 = .ok (.aload_n 0, 1) := by decide +kernel
theorem dX3_addTown_63 : decode cX3_addTown 63 = .ok (.dup, 1) := by decide +kernel
theorem dX3_addTown_64 : decode cX3_addTown 64 = .ok (.getfield 48, 3) := by decide +kernel
theorem dX3_addTown_67 : decode cX3_addTown 67 = .ok (.iconst 1, 1) := by decide +kernel
theorem dX3_addTown_68 : decode cX3_addTown 68 = .ok (.iadd, 1) := by decide +kernel
theorem dX3_addTown_69 : decode cX3_addTown 69 = .ok (.putfield 48, 3) := by decide +kernel
theorem dX3_addTown_72 : decode cX3_addTown 72 = .ok (.aload_n 0, 1) := by decide +kernel
theorem dX3_addTown_73 : decode cX3_addTown 73 = .ok (.getfield 48, 3) := by decide +kernel
theorem dX3_addTown_76 : decode cX3_addTown 76 = .ok (.iconst 1, 1) := by decide +kernel
theorem dX3_addTown_77 : decode cX3_addTown 77 = .ok (.isub, 1) := by decide +kernel
theorem dX3_addTown_78 : decode cX3_addTown 78 = .ok (.ireturn, 1) := by decide +kernel
theorem dX3_addShelter_0 : decode cX3_addShelter 0 = .ok (.aload_n 0, 1) := by decide +kernel
theorem dX3_addShelter_1 : decode cX3_addShelter 1 = .ok (.iconst (-1), 1) := by decide +kernel
theorem dX3_addShelter_2 : decode cX3_addShelter 2 = .ok (.iconst 0, 1) := by decide +kernel
theorem dX3_addShelter_3 : decode cX3_addShelter 3 = .ok (.iconst 0, 1) := by decide +kernel
theorem dX3_addShelter_4 : decode cX3_addShelter 4 = .ok (.iconst 0, 1) := by decide +kernel
theorem dX3_addShelter_5 : decode cX3_addShelter 5 = .ok (.invokevirtual 63, 3) := by decide +kernel
theorem dX3_addShelter_8 : decode cX3_addShelter 8 = .ok (.istore_n 2, 1) := by decide +kernel
theorem dX3_addShelter_9 : decode cX3_addShelter 9 = .ok (.iload_n 2, 1) := by decide +kernel
theorem dX3_addShelter_10 : decode cX3_addShelter 10 = .ok (.iconst (-1), 1) := by decide +kernel
theorem dX3_addShelter_11 : decode cX3_addShelter 11 = .ok (.if_icmp .eq 10, 3) := by decide +kernel
theorem dX3_addShelter_14 : decode cX3_addShelter 14 = .ok (.aload_n 0, 1) := by decide +kernel
theorem dX3_addShelter_15 : decode cX3_addShelter 15 = .ok (.getfield 24, 3) := by decide +kernel
theorem dX3_addShelter_18 : decode cX3_addShelter 18 = .ok (.iload_n 2, 1) := by decide +kernel
theorem dX3_addShelter_19 : decode cX3_addShelter 19 = .ok (.iload_n 1, 1) := by decide +kernel
theorem dX3_addShelter_20 : decode cX3_addShelter 20 = .ok (.iastore, 1) := by decide +kernel
theorem dX3_addShelter_21 : decode cX3_addShelter 21 = .ok (.iload_n 2, 1) := by decide +kernel
theorem dX3_addShelter_22 : decode cX3_addShelter 22 = .ok (.ireturn, 1) := by decide +kernel
theorem dX3_forgetWarnings_0 : decode cX3_forgetWarnings 0 = .ok (.aload_n 0, 1) := by decide +kernel
theorem dX3_forgetWarnings_1 : decode cX3_forgetWarnings 1 = .ok (.getfield 27, 3) := by decide +kernel
theorem dX3_forgetWarnings_4 : decode cX3_forgetWarnings 4 = .ok (.iconst (-1), 1) := by decide +kernel
theorem dX3_forgetWarnings_5 : decode cX3_forgetWarnings 5 = .ok (.invokestatic 67, 3) := by decide +kernel
theorem dX3_forgetWarnings_8 : decode cX3_forgetWarnings 8 = .ok (.return_, 1) := by decide +kernel
theorem dX3_someUnwarned_0 : decode cX3_someUnwarned 0 = .ok (.iconst 0, 1) := by decide +kernel
theorem dX3_someUnwarned_1 : decode cX3_someUnwarned 1 = .ok (.istore_n 1, 1) := by decide +kernel
theorem dX3_someUnwarned_2 : decode cX3_someUnwarned 2 = .ok (.iload_n 1, 1) := by decide +kernel
theorem dX3_someUnwarned_3 : decode cX3_someUnwarned 3 = .ok (.aload_n 0, 1) := by decide +kernel
theorem dX3_someUnwarned_4 : decode cX3_someUnwarned 4 = .ok (.getfield 48, 3) := by decide +kernel
theorem dX3_someUnwarned_7 : decode cX3_someUnwarned 7 = .ok (.if_icmp .ge 31, 3) := by decide +kernel
theorem dX3_someUnwarned_10 : decode cX3_someUnwarned 10 = .ok (.aload_n 0, 1) := by decide +kernel
theorem dX3_someUnwarned_11 : decode cX3_someUnwarned 11 = .ok (.getfield 11, 3) := by decide +kernel
theorem dX3_someUnwarned_14 : decode cX3_someUnwarned 14 = .ok (.iload_n 1, 1) := by decide +kernel
theorem dX3_someUnwarned_15 : decode cX3_someUnwarned 15 = .ok (.iaload, 1) := by decide +kernel
theorem dX3_someUnwarned_16 : decode cX3_someUnwarned 16 = .ok (.iconst (-1), 1) := by decide +kernel
theorem dX3_someUnwarned_17 : decode cX3_someUnwarned 17 = .ok (.if_icmp .eq 15, 3) := by decide +kernel
theorem dX3_someUnwarned_20 : decode cX3_someUnwarned 20 = .ok (.aload_n 0, 1) := by decide +kernel
theorem dX3_someUnwarned_21 : decode cX3_someUnwarned 21 = .ok (.getfield 27, 3) := by decide +kernel
theorem dX3_someUnwarned_24 : decode cX3_someUnwarned 24 = .ok (.iload_n 1, 1) := by decide +kernel
theorem dX3_someUnwarned_25 : decode cX3_someUnwarned 25 = .ok (.iaload, 1) := by decide +kernel
theorem dX3_someUnwarned_26 : decode cX3_someUnwarned 26 = .ok (.iconst (-1), 1) := by decide +kernel
theorem dX3_someUnwarned_27 : decode cX3_someUnwarned 27 = .ok (.if_icmp .ne 5, 3) := by decide +kernel
theorem dX3_someUnwarned_30 : decode cX3_someUnwarned 30 = .ok (.iconst 1, 1) := by decide +kernel
theorem dX3_someUnwarned_31 : decode cX3_someUnwarned 31 = .ok (.ireturn, 1) := by decide +kernel
theorem dX3_someUnwarned_32 : decode cX3_someUnwarned 32 = .ok (.iinc 1 1, 3) := by decide +kernel
theorem dX3_someUnwarned_35 : decode cX3_someUnwarned 35 = .ok (.goto (-33), 3) := by decide +kernel
theorem dX3_someUnwarned_38 : decode cX3_someUnwarned 38 = .ok (.iconst 0, 1) := by decide +kernel
theorem dX3_someUnwarned_39 : decode cX3_someUnwarned 39 = .ok (.ireturn, 1) := by decide +kernel
theorem dX3_warn_0 : decode cX3_warn 0 = .ok (.iconst 0, 1) := by decide +kernel
theorem dX3_warn_1 : decode cX3_warn 1 = .ok (.istore_n 3, 1) := by decide +kernel
theorem dX3_warn_2 : decode cX3_warn 2 = .ok (.iload_n 3, 1) := by decide +kernel
theorem dX3_warn_3 : decode cX3_warn 3 = .ok (.aload_n 0, 1) := by decide +kernel
theorem dX3_warn_4 : decode cX3_warn 4 = .ok (.getfield 48, 3) := by decide +kernel
theorem dX3_warn_7 : decode cX3_warn 7 = .ok (.if_icmp .ge 53, 3) := by decide +kernel
theorem dX3_warn_10 : decode cX3_warn 10 = .ok (.aload_n 0, 1) := by decide +kernel
theorem dX3_warn_11 : decode cX3_warn 11 = .ok (.getfield 11, 3) := by decide +kernel
theorem dX3_warn_14 : decode cX3_warn 14 = .ok (.iload_n 3, 1) := by decide +kernel
theorem dX3_warn_15 : decode cX3_warn 15 = .ok (.iaload, 1) := by decide +kernel
theorem dX3_warn_16 : decode cX3_warn 16 = .ok (.iconst (-1), 1) := by decide +kernel
theorem dX3_warn_17 : decode cX3_warn 17 = .ok (.if_icmp .eq 37, 3) := by decide +kernel
theorem dX3_warn_20 : decode cX3_warn 20 = .ok (.aload_n 0, 1) := by decide +kernel
theorem dX3_warn_21 : decode cX3_warn 21 = .ok (.getfield 27, 3) := by decide +kernel
theorem dX3_warn_24 : decode cX3_warn 24 = .ok (.iload_n 3, 1) := by decide +kernel
theorem dX3_warn_25 : decode cX3_warn 25 = .ok (.iaload, 1) := by decide +kernel
theorem dX3_warn_26 : decode cX3_warn 26 = .ok (.iconst (-1), 1) := by decide +kernel
theorem dX3_warn_27 : decode cX3_warn 27 = .ok (.if_icmp .ne 27, 3) := by decide +kernel
theorem dX3_warn_30 : decode cX3_warn 30 = .ok (.iload_n 2, 1) := by decide +kernel
theorem dX3_warn_31 : decode cX3_warn 31 = .ok (.aload_n 0, 1) := by decide +kernel
theorem dX3_warn_32 : decode cX3_warn 32 = .ok (.getfield 18, 3) := by decide +kernel
theorem dX3_warn_35 : decode cX3_warn 35 = .ok (.iload_n 3, 1) := by decide +kernel
theorem dX3_warn_36 : decode cX3_warn 36 = .ok (.iaload, 1) := by decide +kernel
theorem dX3_warn_37 : decode cX3_warn 37 = .ok (.if_icmp .lt 17, 3) := by decide +kernel
theorem dX3_warn_40 : decode cX3_warn 40 = .ok (.aload_n 0, 1) := by decide +kernel
theorem dX3_warn_41 : decode cX3_warn 41 = .ok (.getfield 27, 3) := by decide +kernel
theorem dX3_warn_44 : decode cX3_warn 44 = .ok (.iload_n 3, 1) := by decide +kernel
theorem dX3_warn_45 : decode cX3_warn 45 = .ok (.iload_n 1, 1) := by decide +kernel
theorem dX3_warn_46 : decode cX3_warn 46 = .ok (.aload_n 0, 1) := by decide +kernel
theorem dX3_warn_47 : decode cX3_warn 47 = .ok (.getfield 21, 3) := by decide +kernel
theorem dX3_warn_50 : decode cX3_warn 50 = .ok (.iload_n 3, 1) := by decide +kernel
theorem dX3_warn_51 : decode cX3_warn 51 = .ok (.iaload, 1) := by decide +kernel
theorem dX3_warn_52 : decode cX3_warn 52 = .ok (.iadd, 1) := by decide +kernel
theorem dX3_warn_53 : decode cX3_warn 53 = .ok (.iastore, 1) := by decide +kernel
theorem dX3_warn_54 : decode cX3_warn 54 = .ok (.iinc 3 1, 3) := by decide +kernel
theorem dX3_warn_57 : decode cX3_warn 57 = .ok (.goto (-55), 3) := by decide +kernel
theorem dX3_warn_60 : decode cX3_warn 60 = .ok (.return_, 1) := by decide +kernel
theorem dX3_addRoad_0 : decode cX3_addRoad 0 = .ok (.aload_n 0, 1) := by decide +kernel
theorem dX3_addRoad_1 : decode cX3_addRoad 1 = .ok (.getfield 52, 3) := by decide +kernel
theorem dX3_addRoad_4 : decode cX3_addRoad 4 = .ok (.bipush 14, 2) := by decide +kernel
theorem dX3_addRoad_6 : decode cX3_addRoad 6 = .ok (.if_icmp .lt 5, 3) := by decide +kernel
theorem dX3_addRoad_9 : decode cX3_addRoad 9 = .ok (.iconst (-1), 1) := by decide +kernel
theorem dX3_addRoad_10 : decode cX3_addRoad 10 = .ok (.ireturn, 1) := by decide +kernel
theorem dX3_addRoad_11 : decode cX3_addRoad 11 = .ok (.aload_n 0, 1) := by decide +kernel
theorem dX3_addRoad_12 : decode cX3_addRoad 12 = .ok (.getfield 30, 3) := by decide +kernel
theorem dX3_addRoad_15 : decode cX3_addRoad 15 = .ok (.aload_n 0, 1) := by decide +kernel
theorem dX3_addRoad_16 : decode cX3_addRoad 16 = .ok (.getfield 52, 3) := by decide +kernel
theorem dX3_addRoad_19 : decode cX3_addRoad 19 = .ok (.iload_n 1, 1) := by decide +kernel
theorem dX3_addRoad_20 : decode cX3_addRoad 20 = .ok (.iastore, 1) := by decide +kernel
theorem dX3_addRoad_21 : decode cX3_addRoad 21 = .ok (.aload_n 0, 1) := by decide +kernel
theorem dX3_addRoad_22 : decode cX3_addRoad 22 = .ok (.getfield 33, 3) := by decide +kernel
theorem dX3_addRoad_25 : decode cX3_addRoad 25 = .ok (.aload_n 0, 1) := by decide +kernel
theorem dX3_addRoad_26 : decode cX3_addRoad 26 = .ok (.getfield 52, 3) := by decide +kernel
theorem dX3_addRoad_29 : decode cX3_addRoad 29 = .ok (.iload_n 2, 1) := by decide +kernel
theorem dX3_addRoad_30 : decode cX3_addRoad 30 = .ok (.iastore, 1) := by decide +kernel
theorem dX3_addRoad_31 : decode cX3_addRoad 31 = .ok (.aload_n 0, 1) := by decide +kernel
theorem dX3_addRoad_32 : decode cX3_addRoad 32 = .ok (.getfield 36, 3) := by decide +kernel
theorem dX3_addRoad_35 : decode cX3_addRoad 35 = .ok (.aload_n 0, 1) := by decide +kernel
theorem dX3_addRoad_36 : decode cX3_addRoad 36 = .ok (.getfield 52, 3) := by decide +kernel
theorem dX3_addRoad_39 : decode cX3_addRoad 39 = .ok (.iload_n 3, 1) := by decide +kernel
theorem dX3_addRoad_40 : decode cX3_addRoad 40 = .ok (.iastore, 1) := by decide +kernel
theorem dX3_addRoad_41 : decode cX3_addRoad 41 = .ok (.aload_n 0, 1) := by decide +kernel
theorem dX3_addRoad_42 : decode cX3_addRoad 42 = .ok (.getfield 39, 3) := by decide +kernel
theorem dX3_addRoad_45 : decode cX3_addRoad 45 = .ok (.aload_n 0, 1) := by decide +kernel
theorem dX3_addRoad_46 : decode cX3_addRoad 46 = .ok (.getfield 52, 3) := by decide +kernel
theorem dX3_addRoad_49 : decode cX3_addRoad 49 = .ok (.iload 4, 2) := by decide +kernel
theorem dX3_addRoad_51 : decode cX3_addRoad 51 = .ok (.iastore, 1) := by decide +kernel
theorem dX3_addRoad_52 : decode cX3_addRoad 52 = .ok (.aload_n 0, 1) := by decide +kernel
theorem dX3_addRoad_53 : decode cX3_addRoad 53 = .ok (.getfield 42, 3) := by decide +kernel
theorem dX3_addRoad_56 : decode cX3_addRoad 56 = .ok (.aload_n 0, 1) := by decide +kernel
theorem dX3_addRoad_57 : decode cX3_addRoad 57 = .ok (.getfield 52, 3) := by decide +kernel
theorem dX3_addRoad_60 : decode cX3_addRoad 60 = .ok (.iload 5, 2) := by decide +kernel
theorem dX3_addRoad_62 : decode cX3_addRoad 62 = .ok (.iastore, 1) := by decide +kernel
theorem dX3_addRoad_63 : decode cX3_addRoad 63 = .ok (.aload_n 0, 1) := by decide +kernel
theorem dX3_addRoad_64 : decode cX3_addRoad 64 = .ok (.getfield 45, 3) := by decide +kernel
theorem dX3_addRoad_67 : decode cX3_addRoad 67 = .ok (.aload_n 0, 1) := by decide +kernel
theorem dX3_addRoad_68 : decode cX3_addRoad 68 = .ok (.getfield 52, 3) := by decide +kernel
theorem dX3_addRoad_71 : decode cX3_addRoad 71 = .ok (.iload 6, 2) := by decide +kernel
theorem dX3_addRoad_73 : decode cX3_addRoad 73 = .ok (.iastore, 1) := by decide +kernel
theorem dX3_addRoad_74 : decode cX3_addRoad 74 = .ok (.aload_n 0, 1) := by decide +kernel
theorem dX3_addRoad_75 : decode cX3_addRoad 75 = .ok (.dup, 1) := by decide +kernel
theorem dX3_addRoad_76 : decode cX3_addRoad 76 = .ok (.getfield 52, 3) := by decide +kernel
theorem dX3_addRoad_79 : decode cX3_addRoad 79 = .ok (.iconst 1, 1) := by decide +kernel
theorem dX3_addRoad_80 : decode cX3_addRoad 80 = .ok (.iadd, 1) := by decide +kernel
theorem dX3_addRoad_81 : decode cX3_addRoad 81 = .ok (.putfield 52, 3) := by decide +kernel
theorem dX3_addRoad_84 : decode cX3_addRoad 84 = .ok (.aload_n 0, 1) := by decide +kernel
theorem dX3_addRoad_85 : decode cX3_addRoad 85 = .ok (.getfield 52, 3) := by decide +kernel
theorem dX3_addRoad_88 : decode cX3_addRoad 88 = .ok (.iconst 1, 1) := by decide +kernel
theorem dX3_addRoad_89 : decode cX3_addRoad 89 = .ok (.isub, 1) := by decide +kernel
theorem dX3_addRoad_90 : decode cX3_addRoad 90 = .ok (.ireturn, 1) := by decide +kernel
