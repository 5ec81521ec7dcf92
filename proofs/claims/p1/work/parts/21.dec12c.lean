theorem dX12_warnedAt_0 : decode cX12_warnedAt 0 = .ok (.iconst 0, 1) := by decide +kernel
theorem dX12_warnedAt_1 : decode cX12_warnedAt 1 = .ok (.istore_n 2, 1) := by decide +kernel
theorem dX12_warnedAt_2 : decode cX12_warnedAt 2 = .ok (.iload_n 2, 1) := by decide +kernel
theorem dX12_warnedAt_3 : decode cX12_warnedAt 3 = .ok (.bipush 100, 2) := by decide +kernel
theorem dX12_warnedAt_5 : decode cX12_warnedAt 5 = .ok (.if_icmp .ge 33, 3) := by decide +kernel
theorem dX12_warnedAt_8 : decode cX12_warnedAt 8 = .ok (.aload_n 0, 1) := by decide +kernel
theorem dX12_warnedAt_9 : decode cX12_warnedAt 9 = .ok (.getfield 175, 3) := by decide +kernel
theorem dX12_warnedAt_12 : decode cX12_warnedAt 12 = .ok (.iload_n 2, 1) := by decide +kernel
theorem dX12_warnedAt_13 : decode cX12_warnedAt 13 = .ok (.iaload, 1) := by decide +kernel
theorem dX12_warnedAt_14 : decode cX12_warnedAt 14 = .ok (.aload_n 0, 1) := by decide +kernel
theorem dX12_warnedAt_15 : decode cX12_warnedAt 15 = .ok (.getfield 148, 3) := by decide +kernel
theorem dX12_warnedAt_18 : decode cX12_warnedAt 18 = .ok (.iload_n 1, 1) := by decide +kernel
theorem dX12_warnedAt_19 : decode cX12_warnedAt 19 = .ok (.iaload, 1) := by decide +kernel
theorem dX12_warnedAt_20 : decode cX12_warnedAt 20 = .ok (.if_icmp .lt 12, 3) := by decide +kernel
theorem dX12_warnedAt_23 : decode cX12_warnedAt 23 = .ok (.iload_n 2, 1) := by decide +kernel
theorem dX12_warnedAt_24 : decode cX12_warnedAt 24 = .ok (.aload_n 0, 1) := by decide +kernel
theorem dX12_warnedAt_25 : decode cX12_warnedAt 25 = .ok (.getfield 151, 3) := by decide +kernel
theorem dX12_warnedAt_28 : decode cX12_warnedAt 28 = .ok (.iload_n 1, 1) := by decide +kernel
theorem dX12_warnedAt_29 : decode cX12_warnedAt 29 = .ok (.iaload, 1) := by decide +kernel
theorem dX12_warnedAt_30 : decode cX12_warnedAt 30 = .ok (.iadd, 1) := by decide +kernel
theorem dX12_warnedAt_31 : decode cX12_warnedAt 31 = .ok (.ireturn, 1) := by decide +kernel
theorem dX12_warnedAt_32 : decode cX12_warnedAt 32 = .ok (.iinc 2 1, 3) := by decide +kernel
theorem dX12_warnedAt_35 : decode cX12_warnedAt 35 = .ok (.goto (-33), 3) := by decide +kernel
theorem dX12_warnedAt_38 : decode cX12_warnedAt 38 = .ok (.iconst (-1), 1) := by decide +kernel
theorem dX12_warnedAt_39 : decode cX12_warnedAt 39 = .ok (.ireturn, 1) := by decide +kernel
theorem dX12_warned_0 : decode cX12_warned 0 = .ok (.aload_n 0, 1) := by decide +kernel
theorem dX12_warned_1 : decode cX12_warned 1 = .ok (.iconst 0, 1) := by decide +kernel
theorem dX12_warned_2 : decode cX12_warned 2 = .ok (.putfield 208, 3) := by decide +kernel
theorem dX12_warned_5 : decode cX12_warned 5 = .ok (.aload_n 0, 1) := by decide +kernel
theorem dX12_warned_6 : decode cX12_warned 6 = .ok (.iload_n 1, 1) := by decide +kernel
theorem dX12_warned_7 : decode cX12_warned 7 = .ok (.invokevirtual 452, 3) := by decide +kernel
theorem dX12_warned_10 : decode cX12_warned 10 = .ok (.ifCond .eq 12, 3) := by decide +kernel
theorem dX12_warned_13 : decode cX12_warned 13 = .ok (.aload_n 0, 1) := by decide +kernel
theorem dX12_warned_14 : decode cX12_warned 14 = .ok (.getfield 139, 3) := by decide +kernel
theorem dX12_warned_17 : decode cX12_warned 17 = .ok (.iload_n 1, 1) := by decide +kernel
theorem dX12_warned_18 : decode cX12_warned 18 = .ok (.baload, 1) := by decide +kernel
theorem dX12_warned_19 : decode cX12_warned 19 = .ok (.ifCond .ne 5, 3) := by decide +kernel
theorem dX12_warned_22 : decode cX12_warned 22 = .ok (.iconst (-1), 1) := by decide +kernel
theorem dX12_warned_23 : decode cX12_warned 23 = .ok (.ireturn, 1) := by decide +kernel
theorem dX12_warned_24 : decode cX12_warned 24 = .ok (.aload_n 0, 1) := by decide +kernel
theorem dX12_warned_25 : decode cX12_warned 25 = .ok (.invokevirtual 455, 3) := by decide +kernel
theorem dX12_warned_28 : decode cX12_warned 28 = .ok (.aload_n 0, 1) := by decide +kernel
theorem dX12_warned_29 : decode cX12_warned 29 = .ok (.iload_n 1, 1) := by decide +kernel
theorem dX12_warned_30 : decode cX12_warned 30 = .ok (.invokevirtual 458, 3) := by decide +kernel
theorem dX12_warned_33 : decode cX12_warned 33 = .ok (.ireturn, 1) := by decide +kernel
theorem dX12_arc_0 : decode cX12_arc 0 = .ok (.aload_n 0, 1) := by decide +kernel
theorem dX12_arc_1 : decode cX12_arc 1 = .ok (.getfield 181, 3) := by decide +kernel
theorem dX12_arc_4 : decode cX12_arc 4 = .ok (.aload_n 0, 1) := by decide +kernel
theorem dX12_arc_5 : decode cX12_arc 5 = .ok (.getfield 461, 3) := by decide +kernel
theorem dX12_arc_8 : decode cX12_arc 8 = .ok (.iload_n 1, 1) := by decide +kernel
theorem dX12_arc_9 : decode cX12_arc 9 = .ok (.iastore, 1) := by decide +kernel
theorem dX12_arc_10 : decode cX12_arc 10 = .ok (.aload_n 0, 1) := by decide +kernel
theorem dX12_arc_11 : decode cX12_arc 11 = .ok (.getfield 184, 3) := by decide +kernel
theorem dX12_arc_14 : decode cX12_arc 14 = .ok (.aload_n 0, 1) := by decide +kernel
theorem dX12_arc_15 : decode cX12_arc 15 = .ok (.getfield 461, 3) := by decide +kernel
theorem dX12_arc_18 : decode cX12_arc 18 = .ok (.iload_n 2, 1) := by decide +kernel
theorem dX12_arc_19 : decode cX12_arc 19 = .ok (.iastore, 1) := by decide +kernel
theorem dX12_arc_20 : decode cX12_arc 20 = .ok (.aload_n 0, 1) := by decide +kernel
theorem dX12_arc_21 : decode cX12_arc 21 = .ok (.getfield 187, 3) := by decide +kernel
theorem dX12_arc_24 : decode cX12_arc 24 = .ok (.aload_n 0, 1) := by decide +kernel
theorem dX12_arc_25 : decode cX12_arc 25 = .ok (.getfield 461, 3) := by decide +kernel
theorem dX12_arc_28 : decode cX12_arc 28 = .ok (.iload_n 3, 1) := by decide +kernel
theorem dX12_arc_29 : decode cX12_arc 29 = .ok (.iastore, 1) := by decide +kernel
theorem dX12_arc_30 : decode cX12_arc 30 = .ok (.aload_n 0, 1) := by decide +kernel
theorem dX12_arc_31 : decode cX12_arc 31 = .ok (.getfield 190, 3) := by decide +kernel
theorem dX12_arc_34 : decode cX12_arc 34 = .ok (.aload_n 0, 1) := by decide +kernel
theorem dX12_arc_35 : decode cX12_arc 35 = .ok (.getfield 461, 3) := by decide +kernel
theorem dX12_arc_38 : decode cX12_arc 38 = .ok (.iconst 0, 1) := by decide +kernel
theorem dX12_arc_39 : decode cX12_arc 39 = .ok (.iastore, 1) := by decide +kernel
theorem dX12_arc_40 : decode cX12_arc 40 = .ok (.aload_n 0, 1) := by decide +kernel
theorem dX12_arc_41 : decode cX12_arc 41 = .ok (.dup, 1) := by decide +kernel
theorem dX12_arc_42 : decode cX12_arc 42 = .ok (.getfield 461, 3) := by decide +kernel
theorem dX12_arc_45 : decode cX12_arc 45 = .ok (.iconst 1, 1) := by decide +kernel
theorem dX12_arc_46 : decode cX12_arc 46 = .ok (.iadd, 1) := by decide +kernel
theorem dX12_arc_47 : decode cX12_arc 47 = .ok (.putfield 461, 3) := by decide +kernel
theorem dX12_arc_50 : decode cX12_arc 50 = .ok (.return_, 1) := by decide +kernel
theorem dX12_nodeOf_0 : decode cX12_nodeOf 0 = .ok (.bipush 25, 2) := by decide +kernel
theorem dX12_nodeOf_2 : decode cX12_nodeOf 2 = .ok (.iload_n 1, 1) := by decide +kernel
theorem dX12_nodeOf_3 : decode cX12_nodeOf 3 = .ok (.imul, 1) := by decide +kernel
theorem dX12_nodeOf_4 : decode cX12_nodeOf 4 = .ok (.iload_n 2, 1) := by decide +kernel
theorem dX12_nodeOf_5 : decode cX12_nodeOf 5 = .ok (.iadd, 1) := by decide +kernel
theorem dX12_nodeOf_6 : decode cX12_nodeOf 6 = .ok (.aload_n 0, 1) := by decide +kernel
theorem dX12_nodeOf_7 : decode cX12_nodeOf 7 = .ok (.getfield 464, 3) := by decide +kernel
theorem dX12_nodeOf_10 : decode cX12_nodeOf 10 = .ok (.isub, 1) := by decide +kernel
theorem dX12_nodeOf_11 : decode cX12_nodeOf 11 = .ok (.ireturn, 1) := by decide +kernel
theorem dX12_shutFrom_0 : decode cX12_shutFrom 0 = .ok (.aload_n 0, 1) := by decide +kernel
theorem dX12_shutFrom_1 : decode cX12_shutFrom 1 = .ok (.getfield 130, 3) := by decide +kernel
theorem dX12_shutFrom_4 : decode cX12_shutFrom 4 = .ok (.iload_n 2, 1) := by decide +kernel
theorem dX12_shutFrom_5 : decode cX12_shutFrom 5 = .ok (.iaload, 1) := by decide +kernel
theorem dX12_shutFrom_6 : decode cX12_shutFrom 6 = .ok (.bipush 13, 2) := by decide +kernel
theorem dX12_shutFrom_8 : decode cX12_shutFrom 8 = .ok (.if_icmp .ne 9, 3) := by decide +kernel
theorem dX12_shutFrom_11 : decode cX12_shutFrom 11 = .ok (.ldc_w 467, 3) := by decide +kernel
theorem dX12_shutFrom_14 : decode cX12_shutFrom 14 = .ok (.goto 16, 3) := by decide +kernel
theorem dX12_shutFrom_17 : decode cX12_shutFrom 17 = .ok (.aload_n 0, 1) := by decide +kernel
theorem dX12_shutFrom_18 : decode cX12_shutFrom 18 = .ok (.getfield 109, 3) := by decide +kernel
theorem dX12_shutFrom_21 : decode cX12_shutFrom 21 = .ok (.iload_n 1, 1) := by decide +kernel
theorem dX12_shutFrom_22 : decode cX12_shutFrom 22 = .ok (.iaload, 1) := by decide +kernel
theorem dX12_shutFrom_23 : decode cX12_shutFrom 23 = .ok (.aload_n 0, 1) := by decide +kernel
theorem dX12_shutFrom_24 : decode cX12_shutFrom 24 = .ok (.getfield 130, 3) := by decide +kernel
theorem dX12_shutFrom_27 : decode cX12_shutFrom 27 = .ok (.iload_n 2, 1) := by decide +kernel
theorem dX12_shutFrom_28 : decode cX12_shutFrom 28 = .ok (.iaload, 1) := by decide +kernel
theorem dX12_shutFrom_29 : decode cX12_shutFrom 29 = .ok (.iadd, 1) := by decide +kernel
theorem dX12_shutFrom_30 : decode cX12_shutFrom 30 = .ok (.ireturn, 1) := by decide +kernel
theorem dX12_isOpen_0 : decode cX12_isOpen 0 = .ok (.aload_n 0, 1) := by decide +kernel
theorem dX12_isOpen_1 : decode cX12_isOpen 1 = .ok (.getfield 139, 3) := by decide +kernel
theorem dX12_isOpen_4 : decode cX12_isOpen 4 = .ok (.iload_n 2, 1) := by decide +kernel
theorem dX12_isOpen_5 : decode cX12_isOpen 5 = .ok (.baload, 1) := by decide +kernel
theorem dX12_isOpen_6 : decode cX12_isOpen 6 = .ok (.ifCond .eq 18, 3) := by decide +kernel
theorem dX12_isOpen_9 : decode cX12_isOpen 9 = .ok (.aload_n 0, 1) := by decide +kernel
theorem dX12_isOpen_10 : decode cX12_isOpen 10 = .ok (.iload_n 1, 1) := by decide +kernel
theorem dX12_isOpen_11 : decode cX12_isOpen 11 = .ok (.aload_n 0, 1) := by decide +kernel
theorem dX12_isOpen_12 : decode cX12_isOpen 12 = .ok (.getfield 142, 3) := by decide +kernel
theorem dX12_isOpen_15 : decode cX12_isOpen 15 = .ok (.iload_n 2, 1) := by decide +kernel
theorem dX12_isOpen_16 : decode cX12_isOpen 16 = .ok (.iaload, 1) := by decide +kernel
theorem dX12_isOpen_17 : decode cX12_isOpen 17 = .ok (.invokevirtual 468, 3) := by decide +kernel
theorem dX12_isOpen_20 : decode cX12_isOpen 20 = .ok (.iload_n 3, 1) := by decide +kernel
theorem dX12_isOpen_21 : decode cX12_isOpen 21 = .ok (.if_icmp .le 7, 3) := by decide +kernel
theorem dX12_isOpen_24 : decode cX12_isOpen 24 = .ok (.iconst 1, 1) := by decide +kernel
theorem dX12_isOpen_25 : decode cX12_isOpen 25 = .ok (.goto 4, 3) := by decide +kernel
theorem dX12_isOpen_28 : decode cX12_isOpen 28 = .ok (.iconst 0, 1) := by decide +kernel
theorem dX12_isOpen_29 : decode cX12_isOpen 29 = .ok (.ireturn, 1) := by decide +kernel
theorem dX12_lays_0 : decode cX12_lays 0 = .ok (.aload_n 0, 1) := by decide +kernel
theorem dX12_lays_1 : decode cX12_lays 1 = .ok (.aload_n 0, 1) := by decide +kernel
theorem dX12_lays_2 : decode cX12_lays 2 = .ok (.getfield 109, 3) := by decide +kernel
theorem dX12_lays_5 : decode cX12_lays 5 = .ok (.iload_n 1, 1) := by decide +kernel
theorem dX12_lays_6 : decode cX12_lays 6 = .ok (.iaload, 1) := by decide +kernel
theorem dX12_lays_7 : decode cX12_lays 7 = .ok (.bipush 12, 2) := by decide +kernel
theorem dX12_lays_9 : decode cX12_lays 9 = .ok (.if_icmp .ge 7, 3) := by decide +kernel
theorem dX12_lays_12 : decode cX12_lays 12 = .ok (.iconst 0, 1) := by decide +kernel
theorem dX12_lays_13 : decode cX12_lays 13 = .ok (.goto 12, 3) := by decide +kernel
theorem dX12_lays_16 : decode cX12_lays 16 = .ok (.aload_n 0, 1) := by decide +kernel
theorem dX12_lays_17 : decode cX12_lays 17 = .ok (.getfield 109, 3) := by decide +kernel
theorem dX12_lays_20 : decode cX12_lays 20 = .ok (.iload_n 1, 1) := by decide +kernel
theorem dX12_lays_21 : decode cX12_lays 21 = .ok (.iaload, 1) := by decide +kernel
theorem dX12_lays_22 : decode cX12_lays 22 = .ok (.bipush 12, 2) := by decide +kernel
theorem dX12_lays_24 : decode cX12_lays 24 = .ok (.isub, 1) := by decide +kernel
theorem dX12_lays_25 : decode cX12_lays 25 = .ok (.putfield 464, 3) := by decide +kernel
theorem dX12_lays_28 : decode cX12_lays 28 = .ok (.aload_n 0, 1) := by decide +kernel
theorem dX12_lays_29 : decode cX12_lays 29 = .ok (.aload_n 0, 1) := by decide +kernel
theorem dX12_lays_30 : decode cX12_lays 30 = .ok (.getfield 109, 3) := by decide +kernel
theorem dX12_lays_33 : decode cX12_lays 33 = .ok (.iload_n 1, 1) := by decide +kernel
theorem dX12_lays_34 : decode cX12_lays 34 = .ok (.iaload, 1) := by decide +kernel
theorem dX12_lays_35 : decode cX12_lays 35 = .ok (.bipush 12, 2) := by decide +kernel
theorem dX12_lays_37 : decode cX12_lays 37 = .ok (.iadd, 1) := by decide +kernel
theorem dX12_lays_38 : decode cX12_lays 38 = .ok (.putfield 471, 3) := by decide +kernel
theorem dX12_lays_41 : decode cX12_lays 41 = .ok (.aload_n 0, 1) := by decide +kernel
theorem dX12_lays_42 : decode cX12_lays 42 = .ok (.iconst 0, 1) := by decide +kernel
theorem dX12_lays_43 : decode cX12_lays 43 = .ok (.putfield 461, 3) := by decide +kernel
theorem dX12_lays_46 : decode cX12_lays 46 = .ok (.aload_n 0, 1) := by decide +kernel
theorem dX12_lays_47 : decode cX12_lays 47 = .ok (.iconst 0, 1) := by decide +kernel
theorem dX12_lays_48 : decode cX12_lays 48 = .ok (.putfield 474, 3) := by decide +kernel
theorem dX12_lays_51 : decode cX12_lays 51 = .ok (.iconst 0, 1) := by decide +kernel
theorem dX12_lays_52 : decode cX12_lays 52 = .ok (.istore_n 2, 1) := by decide +kernel
theorem dX12_lays_53 : decode cX12_lays 53 = .ok (.iload_n 2, 1) := by decide +kernel
theorem dX12_lays_54 : decode cX12_lays 54 = .ok (.aload_n 0, 1) := by decide +kernel
theorem dX12_lays_55 : decode cX12_lays 55 = .ok (.getfield 414, 3) := by decide +kernel
theorem dX12_lays_58 : decode cX12_lays 58 = .ok (.if_icmp .ge 32, 3) := by decide +kernel
theorem dX12_lays_61 : decode cX12_lays 61 = .ok (.aload_n 0, 1) := by decide +kernel
theorem dX12_lays_62 : decode cX12_lays 62 = .ok (.getfield 139, 3) := by decide +kernel
theorem dX12_lays_65 : decode cX12_lays 65 = .ok (.iload_n 2, 1) := by decide +kernel
theorem dX12_lays_66 : decode cX12_lays 66 = .ok (.baload, 1) := by decide +kernel
theorem dX12_lays_67 : decode cX12_lays 67 = .ok (.ifCond .eq 12, 3) := by decide +kernel
theorem dX12_lays_70 : decode cX12_lays 70 = .ok (.aload_n 0, 1) := by decide +kernel
theorem dX12_lays_71 : decode cX12_lays 71 = .ok (.iload_n 1, 1) := by decide +kernel
theorem dX12_lays_72 : decode cX12_lays 72 = .ok (.iload_n 2, 1) := by decide +kernel
theorem dX12_lays_73 : decode cX12_lays 73 = .ok (.invokevirtual 477, 3) := by decide +kernel
theorem dX12_lays_76 : decode cX12_lays 76 = .ok (.goto 8, 3) := by decide +kernel
theorem dX12_lays_79 : decode cX12_lays 79 = .ok (.aload_n 0, 1) := by decide +kernel
theorem dX12_lays_80 : decode cX12_lays 80 = .ok (.iload_n 2, 1) := by decide +kernel
theorem dX12_lays_81 : decode cX12_lays 81 = .ok (.invokevirtual 480, 3) := by decide +kernel
theorem dX12_lays_84 : decode cX12_lays 84 = .ok (.iinc 2 1, 3) := by decide +kernel
theorem dX12_lays_87 : decode cX12_lays 87 = .ok (.goto (-34), 3) := by decide +kernel
theorem dX12_lays_90 : decode cX12_lays 90 = .ok (.iconst 0, 1) := by decide +kernel
theorem dX12_lays_91 : decode cX12_lays 91 = .ok (.istore_n 2, 1) := by decide +kernel
theorem dX12_lays_92 : decode cX12_lays 92 = .ok (.iload_n 2, 1) := by decide +kernel
theorem dX12_lays_93 : decode cX12_lays 93 = .ok (.aload_n 0, 1) := by decide +kernel
theorem dX12_lays_94 : decode cX12_lays 94 = .ok (.getfield 417, 3) := by decide +kernel
theorem dX12_lays_97 : decode cX12_lays 97 = .ok (.if_icmp .ge 158, 3) := by decide +kernel
theorem dX12_lays_100 : decode cX12_lays 100 = .ok (.aload_n 0, 1) := by decide +kernel
theorem dX12_lays_101 : decode cX12_lays 101 = .ok (.getfield 464, 3) := by decide +kernel
theorem dX12_lays_104 : decode cX12_lays 104 = .ok (.istore_n 3, 1) := by decide +kernel
theorem dX12_lays_105 : decode cX12_lays 105 = .ok (.iload_n 3, 1) := by decide +kernel
theorem dX12_lays_106 : decode cX12_lays 106 = .ok (.aload_n 0, 1) := by decide +kernel
theorem dX12_lays_107 : decode cX12_lays 107 = .ok (.getfield 163, 3) := by decide +kernel
theorem dX12_lays_110 : decode cX12_lays 110 = .ok (.iload_n 2, 1) := by decide +kernel
theorem dX12_lays_111 : decode cX12_lays 111 = .ok (.iaload, 1) := by decide +kernel
theorem dX12_lays_112 : decode cX12_lays 112 = .ok (.iadd, 1) := by decide +kernel
theorem dX12_lays_113 : decode cX12_lays 113 = .ok (.aload_n 0, 1) := by decide +kernel
theorem dX12_lays_114 : decode cX12_lays 114 = .ok (.getfield 471, 3) := by decide +kernel
theorem dX12_lays_117 : decode cX12_lays 117 = .ok (.if_icmp .gt 132, 3) := by decide +kernel
theorem dX12_lays_120 : decode cX12_lays 120 = .ok (.iload_n 3, 1) := by decide +kernel
theorem dX12_lays_121 : decode cX12_lays 121 = .ok (.aload_n 0, 1) := by decide +kernel
theorem dX12_lays_122 : decode cX12_lays 122 = .ok (.getfield 163, 3) := by decide +kernel
theorem dX12_lays_125 : decode cX12_lays 125 = .ok (.iload_n 2, 1) := by decide +kernel
theorem dX12_lays_126 : decode cX12_lays 126 = .ok (.iaload, 1) := by decide +kernel
theorem dX12_lays_127 : decode cX12_lays 127 = .ok (.iadd, 1) := by decide +kernel
theorem dX12_lays_128 : decode cX12_lays 128 = .ok (.istore 4, 2) := by decide +kernel
theorem dX12_lays_130 : decode cX12_lays 130 = .ok (.iload_n 3, 1) := by decide +kernel
theorem dX12_lays_131 : decode cX12_lays 131 = .ok (.aload_n 0, 1) := by decide +kernel
theorem dX12_lays_132 : decode cX12_lays 132 = .ok (.getfield 169, 3) := by decide +kernel
theorem dX12_lays_135 : decode cX12_lays 135 = .ok (.iload_n 2, 1) := by decide +kernel
theorem dX12_lays_136 : decode cX12_lays 136 = .ok (.iaload, 1) := by decide +kernel
theorem dX12_lays_137 : decode cX12_lays 137 = .ok (.irem, 1) := by decide +kernel
theorem dX12_lays_138 : decode cX12_lays 138 = .ok (.ifCond .ne 64, 3) := by decide +kernel
theorem dX12_lays_141 : decode cX12_lays 141 = .ok (.aload_n 0, 1) := by decide +kernel
theorem dX12_lays_142 : decode cX12_lays 142 = .ok (.iload_n 1, 1) := by decide +kernel
theorem dX12_lays_143 : decode cX12_lays 143 = .ok (.aload_n 0, 1) := by decide +kernel
theorem dX12_lays_144 : decode cX12_lays 144 = .ok (.getfield 157, 3) := by decide +kernel
theorem dX12_lays_147 : decode cX12_lays 147 = .ok (.iload_n 2, 1) := by decide +kernel
theorem dX12_lays_148 : decode cX12_lays 148 = .ok (.iaload, 1) := by decide +kernel
theorem dX12_lays_149 : decode cX12_lays 149 = .ok (.iload_n 3, 1) := by decide +kernel
theorem dX12_lays_150 : decode cX12_lays 150 = .ok (.invokevirtual 483, 3) := by decide +kernel
theorem dX12_lays_153 : decode cX12_lays 153 = .ok (.ifCond .eq 49, 3) := by decide +kernel
theorem dX12_lays_156 : decode cX12_lays 156 = .ok (.aload_n 0, 1) := by decide +kernel
theorem dX12_lays_157 : decode cX12_lays 157 = .ok (.iload_n 1, 1) := by decide +kernel
theorem dX12_lays_158 : decode cX12_lays 158 = .ok (.aload_n 0, 1) := by decide +kernel
theorem dX12_lays_159 : decode cX12_lays 159 = .ok (.getfield 160, 3) := by decide +kernel
theorem dX12_lays_162 : decode cX12_lays 162 = .ok (.iload_n 2, 1) := by decide +kernel
theorem dX12_lays_163 : decode cX12_lays 163 = .ok (.iaload, 1) := by decide +kernel
theorem dX12_lays_164 : decode cX12_lays 164 = .ok (.iload 4, 2) := by decide +kernel
theorem dX12_lays_166 : decode cX12_lays 166 = .ok (.invokevirtual 483, 3) := by decide +kernel
theorem dX12_lays_169 : decode cX12_lays 169 = .ok (.ifCond .eq 33, 3) := by decide +kernel
theorem dX12_lays_172 : decode cX12_lays 172 = .ok (.aload_n 0, 1) := by decide +kernel
theorem dX12_lays_173 : decode cX12_lays 173 = .ok (.getfield 172, 3) := by decide +kernel
theorem dX12_lays_176 : decode cX12_lays 176 = .ok (.iload_n 2, 1) := by decide +kernel
theorem dX12_lays_177 : decode cX12_lays 177 = .ok (.iaload, 1) := by decide +kernel
theorem dX12_lays_178 : decode cX12_lays 178 = .ok (.iconst (-1), 1) := by decide +kernel
theorem dX12_lays_179 : decode cX12_lays 179 = .ok (.if_icmp .eq 19, 3) := by decide +kernel
theorem dX12_lays_182 : decode cX12_lays 182 = .ok (.aload_n 0, 1) := by decide +kernel
theorem dX12_lays_183 : decode cX12_lays 183 = .ok (.iload_n 1, 1) := by decide +kernel
theorem dX12_lays_184 : decode cX12_lays 184 = .ok (.aload_n 0, 1) := by decide +kernel
theorem dX12_lays_185 : decode cX12_lays 185 = .ok (.getfield 172, 3) := by decide +kernel
theorem dX12_lays_188 : decode cX12_lays 188 = .ok (.iload_n 2, 1) := by decide +kernel
theorem dX12_lays_189 : decode cX12_lays 189 = .ok (.iaload, 1) := by decide +kernel
theorem dX12_lays_190 : decode cX12_lays 190 = .ok (.invokevirtual 468, 3) := by decide +kernel
theorem dX12_lays_193 : decode cX12_lays 193 = .ok (.iload 4, 2) := by decide +kernel
theorem dX12_lays_195 : decode cX12_lays 195 = .ok (.if_icmp .le 7, 3) := by decide +kernel
theorem dX12_lays_198 : decode cX12_lays 198 = .ok (.iconst 1, 1) := by decide +kernel
theorem dX12_lays_199 : decode cX12_lays 199 = .ok (.goto 4, 3) := by decide +kernel
theorem dX12_lays_202 : decode cX12_lays 202 = .ok (.iconst 0, 1) := by decide +kernel
theorem dX12_lays_203 : decode cX12_lays 203 = .ok (.istore 5, 2) := by decide +kernel
theorem dX12_lays_205 : decode cX12_lays 205 = .ok (.iload 5, 2) := by decide +kernel
theorem dX12_lays_207 : decode cX12_lays 207 = .ok (.ifCond .eq 36, 3) := by decide +kernel
theorem dX12_lays_210 : decode cX12_lays 210 = .ok (.aload_n 0, 1) := by decide +kernel
theorem dX12_lays_211 : decode cX12_lays 211 = .ok (.aload_n 0, 1) := by decide +kernel
theorem dX12_lays_212 : decode cX12_lays 212 = .ok (.aload_n 0, 1) := by decide +kernel
theorem dX12_lays_213 : decode cX12_lays 213 = .ok (.getfield 157, 3) := by decide +kernel
theorem dX12_lays_216 : decode cX12_lays 216 = .ok (.iload_n 2, 1) := by decide +kernel
theorem dX12_lays_217 : decode cX12_lays 217 = .ok (.iaload, 1) := by decide +kernel
theorem dX12_lays_218 : decode cX12_lays 218 = .ok (.iload_n 3, 1) := by decide +kernel
theorem dX12_lays_219 : decode cX12_lays 219 = .ok (.invokevirtual 486, 3) := by decide +kernel
theorem dX12_lays_222 : decode cX12_lays 222 = .ok (.aload_n 0, 1) := by decide +kernel
theorem dX12_lays_223 : decode cX12_lays 223 = .ok (.aload_n 0, 1) := by decide +kernel
theorem dX12_lays_224 : decode cX12_lays 224 = .ok (.getfield 160, 3) := by decide +kernel
theorem dX12_lays_227 : decode cX12_lays 227 = .ok (.iload_n 2, 1) := by decide +kernel
theorem dX12_lays_228 : decode cX12_lays 228 = .ok (.iaload, 1) := by decide +kernel
theorem dX12_lays_229 : decode cX12_lays 229 = .ok (.iload 4, 2) := by decide +kernel
theorem dX12_lays_231 : decode cX12_lays 231 = .ok (.invokevirtual 486, 3) := by decide +kernel
theorem dX12_lays_234 : decode cX12_lays 234 = .ok (.aload_n 0, 1) := by decide +kernel
theorem dX12_lays_235 : decode cX12_lays 235 = .ok (.getfield 166, 3) := by decide +kernel
theorem dX12_lays_238 : decode cX12_lays 238 = .ok (.iload_n 2, 1) := by decide +kernel
theorem dX12_lays_239 : decode cX12_lays 239 = .ok (.iaload, 1) := by decide +kernel
theorem dX12_lays_240 : decode cX12_lays 240 = .ok (.invokevirtual 489, 3) := by decide +kernel
theorem dX12_lays_243 : decode cX12_lays 243 = .ok (.iinc 3 1, 3) := by decide +kernel
theorem dX12_lays_246 : decode cX12_lays 246 = .ok (.goto (-141), 3) := by decide +kernel
theorem dX12_lays_249 : decode cX12_lays 249 = .ok (.iinc 2 1, 3) := by decide +kernel
theorem dX12_lays_252 : decode cX12_lays 252 = .ok (.goto (-160), 3) := by decide +kernel
theorem dX12_lays_255 : decode cX12_lays 255 = .ok (.return_, 1) := by decide +kernel
theorem dX12_laysTown_0 : decode cX12_laysTown 0 = .ok (.aload_n 0, 1) := by decide +kernel
theorem dX12_laysTown_1 : decode cX12_laysTown 1 = .ok (.getfield 464, 3) := by decide +kernel
theorem dX12_laysTown_4 : decode cX12_laysTown 4 = .ok (.istore_n 3, 1) := by decide +kernel
theorem dX12_laysTown_5 : decode cX12_laysTown 5 = .ok (.iload_n 3, 1) := by decide +kernel
theorem dX12_laysTown_6 : decode cX12_laysTown 6 = .ok (.aload_n 0, 1) := by decide +kernel
theorem dX12_laysTown_7 : decode cX12_laysTown 7 = .ok (.getfield 471, 3) := by decide +kernel
theorem dX12_laysTown_10 : decode cX12_laysTown 10 = .ok (.if_icmp .ge 42, 3) := by decide +kernel
theorem dX12_laysTown_13 : decode cX12_laysTown 13 = .ok (.aload_n 0, 1) := by decide +kernel
theorem dX12_laysTown_14 : decode cX12_laysTown 14 = .ok (.iload_n 1, 1) := by decide +kernel
theorem dX12_laysTown_15 : decode cX12_laysTown 15 = .ok (.iload_n 2, 1) := by decide +kernel
theorem dX12_laysTown_16 : decode cX12_laysTown 16 = .ok (.iload_n 3, 1) := by decide +kernel
theorem dX12_laysTown_17 : decode cX12_laysTown 17 = .ok (.iconst 1, 1) := by decide +kernel
theorem dX12_laysTown_18 : decode cX12_laysTown 18 = .ok (.iadd, 1) := by decide +kernel
theorem dX12_laysTown_19 : decode cX12_laysTown 19 = .ok (.invokevirtual 483, 3) := by decide +kernel
theorem dX12_laysTown_22 : decode cX12_laysTown 22 = .ok (.ifCond .eq 24, 3) := by decide +kernel
theorem dX12_laysTown_25 : decode cX12_laysTown 25 = .ok (.aload_n 0, 1) := by decide +kernel
theorem dX12_laysTown_26 : decode cX12_laysTown 26 = .ok (.aload_n 0, 1) := by decide +kernel
theorem dX12_laysTown_27 : decode cX12_laysTown 27 = .ok (.iload_n 2, 1) := by decide +kernel
theorem dX12_laysTown_28 : decode cX12_laysTown 28 = .ok (.iload_n 3, 1) := by decide +kernel
theorem dX12_laysTown_29 : decode cX12_laysTown 29 = .ok (.invokevirtual 486, 3) := by decide +kernel
theorem dX12_laysTown_32 : decode cX12_laysTown 32 = .ok (.aload_n 0, 1) := by decide +kernel
theorem dX12_laysTown_33 : decode cX12_laysTown 33 = .ok (.iload_n 2, 1) := by decide +kernel
theorem dX12_laysTown_34 : decode cX12_laysTown 34 = .ok (.iload_n 3, 1) := by decide +kernel
theorem dX12_laysTown_35 : decode cX12_laysTown 35 = .ok (.iconst 1, 1) := by decide +kernel
theorem dX12_laysTown_36 : decode cX12_laysTown 36 = .ok (.iadd, 1) := by decide +kernel
theorem dX12_laysTown_37 : decode cX12_laysTown 37 = .ok (.invokevirtual 486, 3) := by decide +kernel
theorem dX12_laysTown_40 : decode cX12_laysTown 40 = .ok (.ldc_w 467, 3) := by decide +kernel
theorem dX12_laysTown_43 : decode cX12_laysTown 43 = .ok (.invokevirtual 489, 3) := by decide +kernel
theorem dX12_laysTown_46 : decode cX12_laysTown 46 = .ok (.iinc 3 1, 3) := by decide +kernel
theorem dX12_laysTown_49 : decode cX12_laysTown 49 = .ok (.goto (-44), 3) := by decide +kernel
theorem dX12_laysTown_52 : decode cX12_laysTown 52 = .ok (.aload_n 0, 1) := by decide +kernel
theorem dX12_laysTown_53 : decode cX12_laysTown 53 = .ok (.iload_n 1, 1) := by decide +kernel
theorem dX12_laysTown_54 : decode cX12_laysTown 54 = .ok (.iload_n 2, 1) := by decide +kernel
theorem dX12_laysTown_55 : decode cX12_laysTown 55 = .ok (.aload_n 0, 1) := by decide +kernel
theorem dX12_laysTown_56 : decode cX12_laysTown 56 = .ok (.getfield 471, 3) := by decide +kernel
theorem dX12_laysTown_59 : decode cX12_laysTown 59 = .ok (.invokevirtual 483, 3) := by decide +kernel
theorem dX12_laysTown_62 : decode cX12_laysTown 62 = .ok (.ifCond .eq 22, 3) := by decide +kernel
theorem dX12_laysTown_65 : decode cX12_laysTown 65 = .ok (.aload_n 0, 1) := by decide +kernel
theorem dX12_laysTown_66 : decode cX12_laysTown 66 = .ok (.aload_n 0, 1) := by decide +kernel
theorem dX12_laysTown_67 : decode cX12_laysTown 67 = .ok (.iload_n 2, 1) := by decide +kernel
theorem dX12_laysTown_68 : decode cX12_laysTown 68 = .ok (.aload_n 0, 1) := by decide +kernel
theorem dX12_laysTown_69 : decode cX12_laysTown 69 = .ok (.getfield 471, 3) := by decide +kernel
theorem dX12_laysTown_72 : decode cX12_laysTown 72 = .ok (.invokevirtual 486, 3) := by decide +kernel
theorem dX12_laysTown_75 : decode cX12_laysTown 75 = .ok (.sipush 401, 3) := by decide +kernel
theorem dX12_laysTown_78 : decode cX12_laysTown 78 = .ok (.ldc_w 467, 3) := by decide +kernel
theorem dX12_laysTown_81 : decode cX12_laysTown 81 = .ok (.invokevirtual 489, 3) := by decide +kernel
theorem dX12_laysTown_84 : decode cX12_laysTown 84 = .ok (.aload_n 0, 1) := by decide +kernel
theorem dX12_laysTown_85 : decode cX12_laysTown 85 = .ok (.iload_n 2, 1) := by decide +kernel
theorem dX12_laysTown_86 : decode cX12_laysTown 86 = .ok (.invokevirtual 458, 3) := by decide +kernel
theorem dX12_laysTown_89 : decode cX12_laysTown 89 = .ok (.istore_n 3, 1) := by decide +kernel
theorem dX12_laysTown_90 : decode cX12_laysTown 90 = .ok (.iload_n 3, 1) := by decide +kernel
theorem dX12_laysTown_91 : decode cX12_laysTown 91 = .ok (.iconst (-1), 1) := by decide +kernel
theorem dX12_laysTown_92 : decode cX12_laysTown 92 = .ok (.if_icmp .eq 11, 3) := by decide +kernel
theorem dX12_laysTown_95 : decode cX12_laysTown 95 = .ok (.iload_n 3, 1) := by decide +kernel
theorem dX12_laysTown_96 : decode cX12_laysTown 96 = .ok (.aload_n 0, 1) := by decide +kernel
theorem dX12_laysTown_97 : decode cX12_laysTown 97 = .ok (.getfield 471, 3) := by decide +kernel
theorem dX12_laysTown_100 : decode cX12_laysTown 100 = .ok (.if_icmp .le 36, 3) := by decide +kernel
theorem dX12_laysTown_103 : decode cX12_laysTown 103 = .ok (.aload_n 0, 1) := by decide +kernel
theorem dX12_laysTown_104 : decode cX12_laysTown 104 = .ok (.dup, 1) := by decide +kernel
theorem dX12_laysTown_105 : decode cX12_laysTown 105 = .ok (.getfield 474, 3) := by decide +kernel
theorem dX12_laysTown_108 : decode cX12_laysTown 108 = .ok (.aload_n 0, 1) := by decide +kernel
theorem dX12_laysTown_109 : decode cX12_laysTown 109 = .ok (.iload_n 1, 1) := by decide +kernel
theorem dX12_laysTown_110 : decode cX12_laysTown 110 = .ok (.iload_n 2, 1) := by decide +kernel
theorem dX12_laysTown_111 : decode cX12_laysTown 111 = .ok (.aload_n 0, 1) := by decide +kernel
theorem dX12_laysTown_112 : decode cX12_laysTown 112 = .ok (.getfield 471, 3) := by decide +kernel
theorem dX12_laysTown_115 : decode cX12_laysTown 115 = .ok (.invokevirtual 483, 3) := by decide +kernel
theorem dX12_laysTown_118 : decode cX12_laysTown 118 = .ok (.ifCond .eq 12, 3) := by decide +kernel
theorem dX12_laysTown_121 : decode cX12_laysTown 121 = .ok (.aload_n 0, 1) := by decide +kernel
theorem dX12_laysTown_122 : decode cX12_laysTown 122 = .ok (.getfield 145, 3) := by decide +kernel
theorem dX12_laysTown_125 : decode cX12_laysTown 125 = .ok (.iload_n 2, 1) := by decide +kernel
theorem dX12_laysTown_126 : decode cX12_laysTown 126 = .ok (.iaload, 1) := by decide +kernel
theorem dX12_laysTown_127 : decode cX12_laysTown 127 = .ok (.goto 4, 3) := by decide +kernel
theorem dX12_laysTown_130 : decode cX12_laysTown 130 = .ok (.iconst 0, 1) := by decide +kernel
theorem dX12_laysTown_131 : decode cX12_laysTown 131 = .ok (.iadd, 1) := by decide +kernel
theorem dX12_laysTown_132 : decode cX12_laysTown 132 = .ok (.putfield 474, 3) := by decide +kernel
theorem dX12_laysTown_135 : decode cX12_laysTown 135 = .ok (.return_, 1) := by decide +kernel
theorem dX12_laysTown_136 : decode cX12_laysTown 136 = .ok (.iload_n 3, 1) := by decide +kernel
theorem dX12_laysTown_137 : decode cX12_laysTown 137 = .ok (.aload_n 0, 1) := by decide +kernel
theorem dX12_laysTown_138 : decode cX12_laysTown 138 = .ok (.getfield 464, 3) := by decide +kernel
theorem dX12_laysTown_141 : decode cX12_laysTown 141 = .ok (.if_icmp .ge 8, 3) := by decide +kernel
theorem dX12_laysTown_144 : decode cX12_laysTown 144 = .ok (.aload_n 0, 1) := by decide +kernel
theorem dX12_laysTown_145 : decode cX12_laysTown 145 = .ok (.getfield 464, 3) := by decide +kernel
theorem dX12_laysTown_148 : decode cX12_laysTown 148 = .ok (.istore_n 3, 1) := by decide +kernel
theorem dX12_laysTown_149 : decode cX12_laysTown 149 = .ok (.aload_n 0, 1) := by decide +kernel
theorem dX12_laysTown_150 : decode cX12_laysTown 150 = .ok (.iload_n 1, 1) := by decide +kernel
theorem dX12_laysTown_151 : decode cX12_laysTown 151 = .ok (.iload_n 2, 1) := by decide +kernel
theorem dX12_laysTown_152 : decode cX12_laysTown 152 = .ok (.iload_n 3, 1) := by decide +kernel
theorem dX12_laysTown_153 : decode cX12_laysTown 153 = .ok (.invokevirtual 483, 3) := by decide +kernel
theorem dX12_laysTown_156 : decode cX12_laysTown 156 = .ok (.ifCond .eq 22, 3) := by decide +kernel
theorem dX12_laysTown_159 : decode cX12_laysTown 159 = .ok (.aload_n 0, 1) := by decide +kernel
theorem dX12_laysTown_160 : decode cX12_laysTown 160 = .ok (.sipush 400, 3) := by decide +kernel
theorem dX12_laysTown_163 : decode cX12_laysTown 163 = .ok (.aload_n 0, 1) := by decide +kernel
theorem dX12_laysTown_164 : decode cX12_laysTown 164 = .ok (.iload_n 2, 1) := by decide +kernel
theorem dX12_laysTown_165 : decode cX12_laysTown 165 = .ok (.iload_n 3, 1) := by decide +kernel
theorem dX12_laysTown_166 : decode cX12_laysTown 166 = .ok (.invokevirtual 486, 3) := by decide +kernel
theorem dX12_laysTown_169 : decode cX12_laysTown 169 = .ok (.aload_n 0, 1) := by decide +kernel
theorem dX12_laysTown_170 : decode cX12_laysTown 170 = .ok (.getfield 145, 3) := by decide +kernel
theorem dX12_laysTown_173 : decode cX12_laysTown 173 = .ok (.iload_n 2, 1) := by decide +kernel
theorem dX12_laysTown_174 : decode cX12_laysTown 174 = .ok (.iaload, 1) := by decide +kernel
theorem dX12_laysTown_175 : decode cX12_laysTown 175 = .ok (.invokevirtual 489, 3) := by decide +kernel
theorem dX12_laysTown_178 : decode cX12_laysTown 178 = .ok (.return_, 1) := by decide +kernel
theorem dX12_laysShelter_0 : decode cX12_laysShelter 0 = .ok (.aload_n 0, 1) := by decide +kernel
theorem dX12_laysShelter_1 : decode cX12_laysShelter 1 = .ok (.getfield 464, 3) := by decide +kernel
theorem dX12_laysShelter_4 : decode cX12_laysShelter 4 = .ok (.istore_n 2, 1) := by decide +kernel
theorem dX12_laysShelter_5 : decode cX12_laysShelter 5 = .ok (.iload_n 2, 1) := by decide +kernel
theorem dX12_laysShelter_6 : decode cX12_laysShelter 6 = .ok (.aload_n 0, 1) := by decide +kernel
theorem dX12_laysShelter_7 : decode cX12_laysShelter 7 = .ok (.getfield 471, 3) := by decide +kernel
theorem dX12_laysShelter_10 : decode cX12_laysShelter 10 = .ok (.if_icmp .ge 30, 3) := by decide +kernel
theorem dX12_laysShelter_13 : decode cX12_laysShelter 13 = .ok (.aload_n 0, 1) := by decide +kernel
theorem dX12_laysShelter_14 : decode cX12_laysShelter 14 = .ok (.aload_n 0, 1) := by decide +kernel
theorem dX12_laysShelter_15 : decode cX12_laysShelter 15 = .ok (.iload_n 1, 1) := by decide +kernel
theorem dX12_laysShelter_16 : decode cX12_laysShelter 16 = .ok (.iload_n 2, 1) := by decide +kernel
theorem dX12_laysShelter_17 : decode cX12_laysShelter 17 = .ok (.invokevirtual 486, 3) := by decide +kernel
theorem dX12_laysShelter_20 : decode cX12_laysShelter 20 = .ok (.aload_n 0, 1) := by decide +kernel
theorem dX12_laysShelter_21 : decode cX12_laysShelter 21 = .ok (.iload_n 1, 1) := by decide +kernel
theorem dX12_laysShelter_22 : decode cX12_laysShelter 22 = .ok (.iload_n 2, 1) := by decide +kernel
theorem dX12_laysShelter_23 : decode cX12_laysShelter 23 = .ok (.iconst 1, 1) := by decide +kernel
theorem dX12_laysShelter_24 : decode cX12_laysShelter 24 = .ok (.iadd, 1) := by decide +kernel
theorem dX12_laysShelter_25 : decode cX12_laysShelter 25 = .ok (.invokevirtual 486, 3) := by decide +kernel
theorem dX12_laysShelter_28 : decode cX12_laysShelter 28 = .ok (.ldc_w 467, 3) := by decide +kernel
theorem dX12_laysShelter_31 : decode cX12_laysShelter 31 = .ok (.invokevirtual 489, 3) := by decide +kernel
theorem dX12_laysShelter_34 : decode cX12_laysShelter 34 = .ok (.iinc 2 1, 3) := by decide +kernel
theorem dX12_laysShelter_37 : decode cX12_laysShelter 37 = .ok (.goto (-32), 3) := by decide +kernel
theorem dX12_laysShelter_40 : decode cX12_laysShelter 40 = .ok (.aload_n 0, 1) := by decide +kernel
theorem dX12_laysShelter_41 : decode cX12_laysShelter 41 = .ok (.aload_n 0, 1) := by decide +kernel
theorem dX12_laysShelter_42 : decode cX12_laysShelter 42 = .ok (.iload_n 1, 1) := by decide +kernel
theorem dX12_laysShelter_43 : decode cX12_laysShelter 43 = .ok (.aload_n 0, 1) := by decide +kernel
theorem dX12_laysShelter_44 : decode cX12_laysShelter 44 = .ok (.getfield 471, 3) := by decide +kernel
theorem dX12_laysShelter_47 : decode cX12_laysShelter 47 = .ok (.invokevirtual 486, 3) := by decide +kernel
theorem dX12_laysShelter_50 : decode cX12_laysShelter 50 = .ok (.sipush 401, 3) := by decide +kernel
theorem dX12_laysShelter_53 : decode cX12_laysShelter 53 = .ok (.aload_n 0, 1) := by decide +kernel
theorem dX12_laysShelter_54 : decode cX12_laysShelter 54 = .ok (.getfield 154, 3) := by decide +kernel
theorem dX12_laysShelter_57 : decode cX12_laysShelter 57 = .ok (.iload_n 1, 1) := by decide +kernel
theorem dX12_laysShelter_58 : decode cX12_laysShelter 58 = .ok (.iaload, 1) := by decide +kernel
theorem dX12_laysShelter_59 : decode cX12_laysShelter 59 = .ok (.invokevirtual 489, 3) := by decide +kernel
theorem dX12_laysShelter_62 : decode cX12_laysShelter 62 = .ok (.return_, 1) := by decide +kernel
theorem dX12_spreads_0 : decode cX12_spreads 0 = .ok (.iconst 0, 1) := by decide +kernel
theorem dX12_spreads_1 : decode cX12_spreads 1 = .ok (.istore_n 1, 1) := by decide +kernel
theorem dX12_spreads_2 : decode cX12_spreads 2 = .ok (.iload_n 1, 1) := by decide +kernel
theorem dX12_spreads_3 : decode cX12_spreads 3 = .ok (.sipush 402, 3) := by decide +kernel
theorem dX12_spreads_6 : decode cX12_spreads 6 = .ok (.if_icmp .ge 16, 3) := by decide +kernel
theorem dX12_spreads_9 : decode cX12_spreads 9 = .ok (.aload_n 0, 1) := by decide +kernel
theorem dX12_spreads_10 : decode cX12_spreads 10 = .ok (.getfield 193, 3) := by decide +kernel
theorem dX12_spreads_13 : decode cX12_spreads 13 = .ok (.iload_n 1, 1) := by decide +kernel
theorem dX12_spreads_14 : decode cX12_spreads 14 = .ok (.iconst (-1), 1) := by decide +kernel
theorem dX12_spreads_15 : decode cX12_spreads 15 = .ok (.iastore, 1) := by decide +kernel
theorem dX12_spreads_16 : decode cX12_spreads 16 = .ok (.iinc 1 1, 3) := by decide +kernel
theorem dX12_spreads_19 : decode cX12_spreads 19 = .ok (.goto (-17), 3) := by decide +kernel
theorem dX12_spreads_22 : decode cX12_spreads 22 = .ok (.aload_n 0, 1) := by decide +kernel
theorem dX12_spreads_23 : decode cX12_spreads 23 = .ok (.getfield 193, 3) := by decide +kernel
theorem dX12_spreads_26 : decode cX12_spreads 26 = .ok (.sipush 400, 3) := by decide +kernel
theorem dX12_spreads_29 : decode cX12_spreads 29 = .ok (.ldc_w 467, 3) := by decide +kernel
theorem dX12_spreads_32 : decode cX12_spreads 32 = .ok (.iastore, 1) := by decide +kernel
theorem dX12_spreads_33 : decode cX12_spreads 33 = .ok (.iconst 0, 1) := by decide +kernel
theorem dX12_spreads_34 : decode cX12_spreads 34 = .ok (.istore_n 1, 1) := by decide +kernel
theorem dX12_spreads_35 : decode cX12_spreads 35 = .ok (.iconst 1, 1) := by decide +kernel
theorem dX12_spreads_36 : decode cX12_spreads 36 = .ok (.istore_n 2, 1) := by decide +kernel
theorem dX12_spreads_37 : decode cX12_spreads 37 = .ok (.aload_n 0, 1) := by decide +kernel
theorem dX12_spreads_38 : decode cX12_spreads 38 = .ok (.getfield 196, 3) := by decide +kernel
theorem dX12_spreads_41 : decode cX12_spreads 41 = .ok (.iconst 0, 1) := by decide +kernel
theorem dX12_spreads_42 : decode cX12_spreads 42 = .ok (.sipush 400, 3) := by decide +kernel
theorem dX12_spreads_45 : decode cX12_spreads 45 = .ok (.iastore, 1) := by decide +kernel
theorem dX12_spreads_46 : decode cX12_spreads 46 = .ok (.iload_n 1, 1) := by decide +kernel
theorem dX12_spreads_47 : decode cX12_spreads 47 = .ok (.iload_n 2, 1) := by decide +kernel
theorem dX12_spreads_48 : decode cX12_spreads 48 = .ok (.if_icmp .ge 175, 3) := by decide +kernel
theorem dX12_spreads_51 : decode cX12_spreads 51 = .ok (.aload_n 0, 1) := by decide +kernel
theorem dX12_spreads_52 : decode cX12_spreads 52 = .ok (.getfield 196, 3) := by decide +kernel
theorem dX12_spreads_55 : decode cX12_spreads 55 = .ok (.iload_n 1, 1) := by decide +kernel
theorem dX12_spreads_56 : decode cX12_spreads 56 = .ok (.iaload, 1) := by decide +kernel
theorem dX12_spreads_57 : decode cX12_spreads 57 = .ok (.istore_n 3, 1) := by decide +kernel
theorem dX12_spreads_58 : decode cX12_spreads 58 = .ok (.iinc 1 1, 3) := by decide +kernel
theorem dX12_spreads_61 : decode cX12_spreads 61 = .ok (.iconst 0, 1) := by decide +kernel
theorem dX12_spreads_62 : decode cX12_spreads 62 = .ok (.istore 4, 2) := by decide +kernel
theorem dX12_spreads_64 : decode cX12_spreads 64 = .ok (.iload 4, 2) := by decide +kernel
theorem dX12_spreads_66 : decode cX12_spreads 66 = .ok (.aload_n 0, 1) := by decide +kernel
theorem dX12_spreads_67 : decode cX12_spreads 67 = .ok (.getfield 461, 3) := by decide +kernel
theorem dX12_spreads_70 : decode cX12_spreads 70 = .ok (.if_icmp .ge 150, 3) := by decide +kernel
theorem dX12_spreads_73 : decode cX12_spreads 73 = .ok (.aload_n 0, 1) := by decide +kernel
theorem dX12_spreads_74 : decode cX12_spreads 74 = .ok (.getfield 181, 3) := by decide +kernel
theorem dX12_spreads_77 : decode cX12_spreads 77 = .ok (.iload 4, 2) := by decide +kernel
theorem dX12_spreads_79 : decode cX12_spreads 79 = .ok (.iaload, 1) := by decide +kernel
theorem dX12_spreads_80 : decode cX12_spreads 80 = .ok (.iload_n 3, 1) := by decide +kernel
theorem dX12_spreads_81 : decode cX12_spreads 81 = .ok (.if_icmp .ne 62, 3) := by decide +kernel
theorem dX12_spreads_84 : decode cX12_spreads 84 = .ok (.aload_n 0, 1) := by decide +kernel
theorem dX12_spreads_85 : decode cX12_spreads 85 = .ok (.getfield 187, 3) := by decide +kernel
theorem dX12_spreads_88 : decode cX12_spreads 88 = .ok (.iload 4, 2) := by decide +kernel
theorem dX12_spreads_90 : decode cX12_spreads 90 = .ok (.iaload, 1) := by decide +kernel
theorem dX12_spreads_91 : decode cX12_spreads 91 = .ok (.ifCond .le 52, 3) := by decide +kernel
theorem dX12_spreads_94 : decode cX12_spreads 94 = .ok (.aload_n 0, 1) := by decide +kernel
theorem dX12_spreads_95 : decode cX12_spreads 95 = .ok (.getfield 193, 3) := by decide +kernel
theorem dX12_spreads_98 : decode cX12_spreads 98 = .ok (.aload_n 0, 1) := by decide +kernel
theorem dX12_spreads_99 : decode cX12_spreads 99 = .ok (.getfield 184, 3) := by decide +kernel
theorem dX12_spreads_102 : decode cX12_spreads 102 = .ok (.iload 4, 2) := by decide +kernel
theorem dX12_spreads_104 : decode cX12_spreads 104 = .ok (.iaload, 1) := by decide +kernel
theorem dX12_spreads_105 : decode cX12_spreads 105 = .ok (.iaload, 1) := by decide +kernel
theorem dX12_spreads_106 : decode cX12_spreads 106 = .ok (.iconst (-1), 1) := by decide +kernel
theorem dX12_spreads_107 : decode cX12_spreads 107 = .ok (.if_icmp .ne 36, 3) := by decide +kernel
theorem dX12_spreads_110 : decode cX12_spreads 110 = .ok (.aload_n 0, 1) := by decide +kernel
theorem dX12_spreads_111 : decode cX12_spreads 111 = .ok (.getfield 193, 3) := by decide +kernel
theorem dX12_spreads_114 : decode cX12_spreads 114 = .ok (.aload_n 0, 1) := by decide +kernel
theorem dX12_spreads_115 : decode cX12_spreads 115 = .ok (.getfield 184, 3) := by decide +kernel
theorem dX12_spreads_118 : decode cX12_spreads 118 = .ok (.iload 4, 2) := by decide +kernel
theorem dX12_spreads_120 : decode cX12_spreads 120 = .ok (.iaload, 1) := by decide +kernel
theorem dX12_spreads_121 : decode cX12_spreads 121 = .ok (.iload 4, 2) := by decide +kernel
theorem dX12_spreads_123 : decode cX12_spreads 123 = .ok (.iastore, 1) := by decide +kernel
theorem dX12_spreads_124 : decode cX12_spreads 124 = .ok (.aload_n 0, 1) := by decide +kernel
theorem dX12_spreads_125 : decode cX12_spreads 125 = .ok (.getfield 196, 3) := by decide +kernel
theorem dX12_spreads_128 : decode cX12_spreads 128 = .ok (.iload_n 2, 1) := by decide +kernel
theorem dX12_spreads_129 : decode cX12_spreads 129 = .ok (.aload_n 0, 1) := by decide +kernel
theorem dX12_spreads_130 : decode cX12_spreads 130 = .ok (.getfield 184, 3) := by decide +kernel
theorem dX12_spreads_133 : decode cX12_spreads 133 = .ok (.iload 4, 2) := by decide +kernel
theorem dX12_spreads_135 : decode cX12_spreads 135 = .ok (.iaload, 1) := by decide +kernel
theorem dX12_spreads_136 : decode cX12_spreads 136 = .ok (.iastore, 1) := by decide +kernel
theorem dX12_spreads_137 : decode cX12_spreads 137 = .ok (.iinc 2 1, 3) := by decide +kernel
theorem dX12_spreads_140 : decode cX12_spreads 140 = .ok (.goto 74, 3) := by decide +kernel
theorem dX12_spreads_143 : decode cX12_spreads 143 = .ok (.aload_n 0, 1) := by decide +kernel
theorem dX12_spreads_144 : decode cX12_spreads 144 = .ok (.getfield 184, 3) := by decide +kernel
theorem dX12_spreads_147 : decode cX12_spreads 147 = .ok (.iload 4, 2) := by decide +kernel
theorem dX12_spreads_149 : decode cX12_spreads 149 = .ok (.iaload, 1) := by decide +kernel
theorem dX12_spreads_150 : decode cX12_spreads 150 = .ok (.iload_n 3, 1) := by decide +kernel
theorem dX12_spreads_151 : decode cX12_spreads 151 = .ok (.if_icmp .ne 63, 3) := by decide +kernel
theorem dX12_spreads_154 : decode cX12_spreads 154 = .ok (.aload_n 0, 1) := by decide +kernel
theorem dX12_spreads_155 : decode cX12_spreads 155 = .ok (.getfield 190, 3) := by decide +kernel
theorem dX12_spreads_158 : decode cX12_spreads 158 = .ok (.iload 4, 2) := by decide +kernel
theorem dX12_spreads_160 : decode cX12_spreads 160 = .ok (.iaload, 1) := by decide +kernel
theorem dX12_spreads_161 : decode cX12_spreads 161 = .ok (.ifCond .le 53, 3) := by decide +kernel
theorem dX12_spreads_164 : decode cX12_spreads 164 = .ok (.aload_n 0, 1) := by decide +kernel
theorem dX12_spreads_165 : decode cX12_spreads 165 = .ok (.getfield 193, 3) := by decide +kernel
theorem dX12_spreads_168 : decode cX12_spreads 168 = .ok (.aload_n 0, 1) := by decide +kernel
theorem dX12_spreads_169 : decode cX12_spreads 169 = .ok (.getfield 181, 3) := by decide +kernel
theorem dX12_spreads_172 : decode cX12_spreads 172 = .ok (.iload 4, 2) := by decide +kernel
theorem dX12_spreads_174 : decode cX12_spreads 174 = .ok (.iaload, 1) := by decide +kernel
theorem dX12_spreads_175 : decode cX12_spreads 175 = .ok (.iaload, 1) := by decide +kernel
theorem dX12_spreads_176 : decode cX12_spreads 176 = .ok (.iconst (-1), 1) := by decide +kernel
theorem dX12_spreads_177 : decode cX12_spreads 177 = .ok (.if_icmp .ne 37, 3) := by decide +kernel
theorem dX12_spreads_180 : decode cX12_spreads 180 = .ok (.aload_n 0, 1) := by decide +kernel
theorem dX12_spreads_181 : decode cX12_spreads 181 = .ok (.getfield 193, 3) := by decide +kernel
theorem dX12_spreads_184 : decode cX12_spreads 184 = .ok (.aload_n 0, 1) := by decide +kernel
theorem dX12_spreads_185 : decode cX12_spreads 185 = .ok (.getfield 181, 3) := by decide +kernel
theorem dX12_spreads_188 : decode cX12_spreads 188 = .ok (.iload 4, 2) := by decide +kernel
theorem dX12_spreads_190 : decode cX12_spreads 190 = .ok (.iaload, 1) := by decide +kernel
theorem dX12_spreads_191 : decode cX12_spreads 191 = .ok (.ldc_w 493, 3) := by decide +kernel
theorem dX12_spreads_194 : decode cX12_spreads 194 = .ok (.iload 4, 2) := by decide +kernel
theorem dX12_spreads_196 : decode cX12_spreads 196 = .ok (.iadd, 1) := by decide +kernel
theorem dX12_spreads_197 : decode cX12_spreads 197 = .ok (.iastore, 1) := by decide +kernel
theorem dX12_spreads_198 : decode cX12_spreads 198 = .ok (.aload_n 0, 1) := by decide +kernel
theorem dX12_spreads_199 : decode cX12_spreads 199 = .ok (.getfield 196, 3) := by decide +kernel
theorem dX12_spreads_202 : decode cX12_spreads 202 = .ok (.iload_n 2, 1) := by decide +kernel
theorem dX12_spreads_203 : decode cX12_spreads 203 = .ok (.aload_n 0, 1) := by decide +kernel
theorem dX12_spreads_204 : decode cX12_spreads 204 = .ok (.getfield 181, 3) := by decide +kernel
theorem dX12_spreads_207 : decode cX12_spreads 207 = .ok (.iload 4, 2) := by decide +kernel
theorem dX12_spreads_209 : decode cX12_spreads 209 = .ok (.iaload, 1) := by decide +kernel
theorem dX12_spreads_210 : decode cX12_spreads 210 = .ok (.iastore, 1) := by decide +kernel
theorem dX12_spreads_211 : decode cX12_spreads 211 = .ok (.iinc 2 1, 3) := by decide +kernel
theorem dX12_spreads_214 : decode cX12_spreads 214 = .ok (.iinc 4 1, 3) := by decide +kernel
theorem dX12_spreads_217 : decode cX12_spreads 217 = .ok (.goto (-153), 3) := by decide +kernel
theorem dX12_spreads_220 : decode cX12_spreads 220 = .ok (.goto (-174), 3) := by decide +kernel
theorem dX12_spreads_223 : decode cX12_spreads 223 = .ok (.aload_n 0, 1) := by decide +kernel
theorem dX12_spreads_224 : decode cX12_spreads 224 = .ok (.getfield 193, 3) := by decide +kernel
theorem dX12_spreads_227 : decode cX12_spreads 227 = .ok (.sipush 401, 3) := by decide +kernel
theorem dX12_spreads_230 : decode cX12_spreads 230 = .ok (.iaload, 1) := by decide +kernel
theorem dX12_spreads_231 : decode cX12_spreads 231 = .ok (.iconst (-1), 1) := by decide +kernel
theorem dX12_spreads_232 : decode cX12_spreads 232 = .ok (.if_icmp .eq 7, 3) := by decide +kernel
theorem dX12_spreads_235 : decode cX12_spreads 235 = .ok (.iconst 1, 1) := by decide +kernel
theorem dX12_spreads_236 : decode cX12_spreads 236 = .ok (.goto 4, 3) := by decide +kernel
theorem dX12_spreads_239 : decode cX12_spreads 239 = .ok (.iconst 0, 1) := by decide +kernel
theorem dX12_spreads_240 : decode cX12_spreads 240 = .ok (.ireturn, 1) := by decide +kernel
theorem dX12_pushes_0 : decode cX12_pushes 0 = .ok (.ldc_w 467, 3) := by decide +kernel
theorem dX12_pushes_3 : decode cX12_pushes 3 = .ok (.istore_n 1, 1) := by decide +kernel
theorem dX12_pushes_4 : decode cX12_pushes 4 = .ok (.sipush 401, 3) := by decide +kernel
theorem dX12_pushes_7 : decode cX12_pushes 7 = .ok (.istore_n 2, 1) := by decide +kernel
theorem dX12_pushes_8 : decode cX12_pushes 8 = .ok (.iload_n 2, 1) := by decide +kernel
theorem dX12_pushes_9 : decode cX12_pushes 9 = .ok (.sipush 400, 3) := by decide +kernel
theorem dX12_pushes_12 : decode cX12_pushes 12 = .ok (.if_icmp .eq 109, 3) := by decide +kernel
theorem dX12_pushes_15 : decode cX12_pushes 15 = .ok (.aload_n 0, 1) := by decide +kernel
theorem dX12_pushes_16 : decode cX12_pushes 16 = .ok (.getfield 193, 3) := by decide +kernel
theorem dX12_pushes_19 : decode cX12_pushes 19 = .ok (.iload_n 2, 1) := by decide +kernel
theorem dX12_pushes_20 : decode cX12_pushes 20 = .ok (.iaload, 1) := by decide +kernel
theorem dX12_pushes_21 : decode cX12_pushes 21 = .ok (.ldc_w 467, 3) := by decide +kernel
theorem dX12_pushes_24 : decode cX12_pushes 24 = .ok (.if_icmp .le 7, 3) := by decide +kernel
theorem dX12_pushes_27 : decode cX12_pushes 27 = .ok (.iconst 1, 1) := by decide +kernel
theorem dX12_pushes_28 : decode cX12_pushes 28 = .ok (.goto 4, 3) := by decide +kernel
theorem dX12_pushes_31 : decode cX12_pushes 31 = .ok (.iconst 0, 1) := by decide +kernel
theorem dX12_pushes_32 : decode cX12_pushes 32 = .ok (.istore_n 3, 1) := by decide +kernel
theorem dX12_pushes_33 : decode cX12_pushes 33 = .ok (.iload_n 3, 1) := by decide +kernel
theorem dX12_pushes_34 : decode cX12_pushes 34 = .ok (.ifCond .eq 18, 3) := by decide +kernel
theorem dX12_pushes_37 : decode cX12_pushes 37 = .ok (.aload_n 0, 1) := by decide +kernel
theorem dX12_pushes_38 : decode cX12_pushes 38 = .ok (.getfield 193, 3) := by decide +kernel
theorem dX12_pushes_41 : decode cX12_pushes 41 = .ok (.iload_n 2, 1) := by decide +kernel
theorem dX12_pushes_42 : decode cX12_pushes 42 = .ok (.iaload, 1) := by decide +kernel
theorem dX12_pushes_43 : decode cX12_pushes 43 = .ok (.ldc_w 467, 3) := by decide +kernel
theorem dX12_pushes_46 : decode cX12_pushes 46 = .ok (.isub, 1) := by decide +kernel
theorem dX12_pushes_47 : decode cX12_pushes 47 = .ok (.iconst 1, 1) := by decide +kernel
theorem dX12_pushes_48 : decode cX12_pushes 48 = .ok (.isub, 1) := by decide +kernel
theorem dX12_pushes_49 : decode cX12_pushes 49 = .ok (.goto 9, 3) := by decide +kernel
theorem dX12_pushes_52 : decode cX12_pushes 52 = .ok (.aload_n 0, 1) := by decide +kernel
theorem dX12_pushes_53 : decode cX12_pushes 53 = .ok (.getfield 193, 3) := by decide +kernel
theorem dX12_pushes_56 : decode cX12_pushes 56 = .ok (.iload_n 2, 1) := by decide +kernel
theorem dX12_pushes_57 : decode cX12_pushes 57 = .ok (.iaload, 1) := by decide +kernel
theorem dX12_pushes_58 : decode cX12_pushes 58 = .ok (.istore 4, 2) := by decide +kernel
theorem dX12_pushes_60 : decode cX12_pushes 60 = .ok (.iload_n 3, 1) := by decide +kernel
theorem dX12_pushes_61 : decode cX12_pushes 61 = .ok (.ifCond .eq 13, 3) := by decide +kernel
theorem dX12_pushes_64 : decode cX12_pushes 64 = .ok (.aload_n 0, 1) := by decide +kernel
theorem dX12_pushes_65 : decode cX12_pushes 65 = .ok (.getfield 190, 3) := by decide +kernel
theorem dX12_pushes_68 : decode cX12_pushes 68 = .ok (.iload 4, 2) := by decide +kernel
theorem dX12_pushes_70 : decode cX12_pushes 70 = .ok (.iaload, 1) := by decide +kernel
theorem dX12_pushes_71 : decode cX12_pushes 71 = .ok (.goto 10, 3) := by decide +kernel
theorem dX12_pushes_74 : decode cX12_pushes 74 = .ok (.aload_n 0, 1) := by decide +kernel
theorem dX12_pushes_75 : decode cX12_pushes 75 = .ok (.getfield 187, 3) := by decide +kernel
theorem dX12_pushes_78 : decode cX12_pushes 78 = .ok (.iload 4, 2) := by decide +kernel
theorem dX12_pushes_80 : decode cX12_pushes 80 = .ok (.iaload, 1) := by decide +kernel
theorem dX12_pushes_81 : decode cX12_pushes 81 = .ok (.istore 5, 2) := by decide +kernel
theorem dX12_pushes_83 : decode cX12_pushes 83 = .ok (.iload 5, 2) := by decide +kernel
theorem dX12_pushes_85 : decode cX12_pushes 85 = .ok (.iload_n 1, 1) := by decide +kernel
theorem dX12_pushes_86 : decode cX12_pushes 86 = .ok (.if_icmp .ge 8, 3) := by decide +kernel
theorem dX12_pushes_89 : decode cX12_pushes 89 = .ok (.iload 5, 2) := by decide +kernel
theorem dX12_pushes_91 : decode cX12_pushes 91 = .ok (.goto 4, 3) := by decide +kernel
theorem dX12_pushes_94 : decode cX12_pushes 94 = .ok (.iload_n 1, 1) := by decide +kernel
theorem dX12_pushes_95 : decode cX12_pushes 95 = .ok (.istore_n 1, 1) := by decide +kernel
theorem dX12_pushes_96 : decode cX12_pushes 96 = .ok (.iload_n 3, 1) := by decide +kernel
theorem dX12_pushes_97 : decode cX12_pushes 97 = .ok (.ifCond .eq 13, 3) := by decide +kernel
theorem dX12_pushes_100 : decode cX12_pushes 100 = .ok (.aload_n 0, 1) := by decide +kernel
theorem dX12_pushes_101 : decode cX12_pushes 101 = .ok (.getfield 184, 3) := by decide +kernel
theorem dX12_pushes_104 : decode cX12_pushes 104 = .ok (.iload 4, 2) := by decide +kernel
theorem dX12_pushes_106 : decode cX12_pushes 106 = .ok (.iaload, 1) := by decide +kernel
theorem dX12_pushes_107 : decode cX12_pushes 107 = .ok (.goto 10, 3) := by decide +kernel
theorem dX12_pushes_110 : decode cX12_pushes 110 = .ok (.aload_n 0, 1) := by decide +kernel
theorem dX12_pushes_111 : decode cX12_pushes 111 = .ok (.getfield 181, 3) := by decide +kernel
theorem dX12_pushes_114 : decode cX12_pushes 114 = .ok (.iload 4, 2) := by decide +kernel
theorem dX12_pushes_116 : decode cX12_pushes 116 = .ok (.iaload, 1) := by decide +kernel
theorem dX12_pushes_117 : decode cX12_pushes 117 = .ok (.istore_n 2, 1) := by decide +kernel
theorem dX12_pushes_118 : decode cX12_pushes 118 = .ok (.goto (-110), 3) := by decide +kernel
theorem dX12_pushes_121 : decode cX12_pushes 121 = .ok (.sipush 401, 3) := by decide +kernel
theorem dX12_pushes_124 : decode cX12_pushes 124 = .ok (.istore_n 2, 1) := by decide +kernel
theorem dX12_pushes_125 : decode cX12_pushes 125 = .ok (.iload_n 2, 1) := by decide +kernel
theorem dX12_pushes_126 : decode cX12_pushes 126 = .ok (.sipush 400, 3) := by decide +kernel
theorem dX12_pushes_129 : decode cX12_pushes 129 = .ok (.if_icmp .eq 113, 3) := by decide +kernel
theorem dX12_pushes_132 : decode cX12_pushes 132 = .ok (.aload_n 0, 1) := by decide +kernel
theorem dX12_pushes_133 : decode cX12_pushes 133 = .ok (.getfield 193, 3) := by decide +kernel
theorem dX12_pushes_136 : decode cX12_pushes 136 = .ok (.iload_n 2, 1) := by decide +kernel
theorem dX12_pushes_137 : decode cX12_pushes 137 = .ok (.iaload, 1) := by decide +kernel
theorem dX12_pushes_138 : decode cX12_pushes 138 = .ok (.ldc_w 467, 3) := by decide +kernel
theorem dX12_pushes_141 : decode cX12_pushes 141 = .ok (.if_icmp .le 7, 3) := by decide +kernel
theorem dX12_pushes_144 : decode cX12_pushes 144 = .ok (.iconst 1, 1) := by decide +kernel
theorem dX12_pushes_145 : decode cX12_pushes 145 = .ok (.goto 4, 3) := by decide +kernel
theorem dX12_pushes_148 : decode cX12_pushes 148 = .ok (.iconst 0, 1) := by decide +kernel
theorem dX12_pushes_149 : decode cX12_pushes 149 = .ok (.istore_n 3, 1) := by decide +kernel
theorem dX12_pushes_150 : decode cX12_pushes 150 = .ok (.iload_n 3, 1) := by decide +kernel
theorem dX12_pushes_151 : decode cX12_pushes 151 = .ok (.ifCond .eq 18, 3) := by decide +kernel
theorem dX12_pushes_154 : decode cX12_pushes 154 = .ok (.aload_n 0, 1) := by decide +kernel
theorem dX12_pushes_155 : decode cX12_pushes 155 = .ok (.getfield 193, 3) := by decide +kernel
theorem dX12_pushes_158 : decode cX12_pushes 158 = .ok (.iload_n 2, 1) := by decide +kernel
theorem dX12_pushes_159 : decode cX12_pushes 159 = .ok (.iaload, 1) := by decide +kernel
theorem dX12_pushes_160 : decode cX12_pushes 160 = .ok (.ldc_w 467, 3) := by decide +kernel
theorem dX12_pushes_163 : decode cX12_pushes 163 = .ok (.isub, 1) := by decide +kernel
theorem dX12_pushes_164 : decode cX12_pushes 164 = .ok (.iconst 1, 1) := by decide +kernel
theorem dX12_pushes_165 : decode cX12_pushes 165 = .ok (.isub, 1) := by decide +kernel
theorem dX12_pushes_166 : decode cX12_pushes 166 = .ok (.goto 9, 3) := by decide +kernel
theorem dX12_pushes_169 : decode cX12_pushes 169 = .ok (.aload_n 0, 1) := by decide +kernel
theorem dX12_pushes_170 : decode cX12_pushes 170 = .ok (.getfield 193, 3) := by decide +kernel
theorem dX12_pushes_173 : decode cX12_pushes 173 = .ok (.iload_n 2, 1) := by decide +kernel
theorem dX12_pushes_174 : decode cX12_pushes 174 = .ok (.iaload, 1) := by decide +kernel
theorem dX12_pushes_175 : decode cX12_pushes 175 = .ok (.istore 4, 2) := by decide +kernel
theorem dX12_pushes_177 : decode cX12_pushes 177 = .ok (.aload_n 0, 1) := by decide +kernel
theorem dX12_pushes_178 : decode cX12_pushes 178 = .ok (.getfield 187, 3) := by decide +kernel
theorem dX12_pushes_181 : decode cX12_pushes 181 = .ok (.iload 4, 2) := by decide +kernel
theorem dX12_pushes_183 : decode cX12_pushes 183 = .ok (.dup2, 1) := by decide +kernel
theorem dX12_pushes_184 : decode cX12_pushes 184 = .ok (.iaload, 1) := by decide +kernel
theorem dX12_pushes_185 : decode cX12_pushes 185 = .ok (.iload_n 3, 1) := by decide +kernel
theorem dX12_pushes_186 : decode cX12_pushes 186 = .ok (.ifCond .eq 7, 3) := by decide +kernel
theorem dX12_pushes_189 : decode cX12_pushes 189 = .ok (.iload_n 1, 1) := by decide +kernel
theorem dX12_pushes_190 : decode cX12_pushes 190 = .ok (.goto 5, 3) := by decide +kernel
theorem dX12_pushes_193 : decode cX12_pushes 193 = .ok (.iload_n 1, 1) := by decide +kernel
theorem dX12_pushes_194 : decode cX12_pushes 194 = .ok (.ineg, 1) := by decide +kernel
theorem dX12_pushes_195 : decode cX12_pushes 195 = .ok (.iadd, 1) := by decide +kernel
theorem dX12_pushes_196 : decode cX12_pushes 196 = .ok (.iastore, 1) := by decide +kernel
theorem dX12_pushes_197 : decode cX12_pushes 197 = .ok (.aload_n 0, 1) := by decide +kernel
theorem dX12_pushes_198 : decode cX12_pushes 198 = .ok (.getfield 190, 3) := by decide +kernel
theorem dX12_pushes_201 : decode cX12_pushes 201 = .ok (.iload 4, 2) := by decide +kernel
theorem dX12_pushes_203 : decode cX12_pushes 203 = .ok (.dup2, 1) := by decide +kernel
theorem dX12_pushes_204 : decode cX12_pushes 204 = .ok (.iaload, 1) := by decide +kernel
theorem dX12_pushes_205 : decode cX12_pushes 205 = .ok (.iload_n 3, 1) := by decide +kernel
theorem dX12_pushes_206 : decode cX12_pushes 206 = .ok (.ifCond .eq 8, 3) := by decide +kernel
theorem dX12_pushes_209 : decode cX12_pushes 209 = .ok (.iload_n 1, 1) := by decide +kernel
theorem dX12_pushes_210 : decode cX12_pushes 210 = .ok (.ineg, 1) := by decide +kernel
theorem dX12_pushes_211 : decode cX12_pushes 211 = .ok (.goto 4, 3) := by decide +kernel
theorem dX12_pushes_214 : decode cX12_pushes 214 = .ok (.iload_n 1, 1) := by decide +kernel
theorem dX12_pushes_215 : decode cX12_pushes 215 = .ok (.iadd, 1) := by decide +kernel
theorem dX12_pushes_216 : decode cX12_pushes 216 = .ok (.iastore, 1) := by decide +kernel
theorem dX12_pushes_217 : decode cX12_pushes 217 = .ok (.iload_n 3, 1) := by decide +kernel
theorem dX12_pushes_218 : decode cX12_pushes 218 = .ok (.ifCond .eq 13, 3) := by decide +kernel
theorem dX12_pushes_221 : decode cX12_pushes 221 = .ok (.aload_n 0, 1) := by decide +kernel
theorem dX12_pushes_222 : decode cX12_pushes 222 = .ok (.getfield 184, 3) := by decide +kernel
theorem dX12_pushes_225 : decode cX12_pushes 225 = .ok (.iload 4, 2) := by decide +kernel
theorem dX12_pushes_227 : decode cX12_pushes 227 = .ok (.iaload, 1) := by decide +kernel
theorem dX12_pushes_228 : decode cX12_pushes 228 = .ok (.goto 10, 3) := by decide +kernel
theorem dX12_pushes_231 : decode cX12_pushes 231 = .ok (.aload_n 0, 1) := by decide +kernel
theorem dX12_pushes_232 : decode cX12_pushes 232 = .ok (.getfield 181, 3) := by decide +kernel
theorem dX12_pushes_235 : decode cX12_pushes 235 = .ok (.iload 4, 2) := by decide +kernel
theorem dX12_pushes_237 : decode cX12_pushes 237 = .ok (.iaload, 1) := by decide +kernel
theorem dX12_pushes_238 : decode cX12_pushes 238 = .ok (.istore_n 2, 1) := by decide +kernel
theorem dX12_pushes_239 : decode cX12_pushes 239 = .ok (.goto (-114), 3) := by decide +kernel
theorem dX12_pushes_242 : decode cX12_pushes 242 = .ok (.iload_n 1, 1) := by decide +kernel
theorem dX12_pushes_243 : decode cX12_pushes 243 = .ok (.ireturn, 1) := by decide +kernel
theorem dX12_leads_0 : decode cX12_leads 0 = .ok (.aload_n 0, 1) := by decide +kernel
theorem dX12_leads_1 : decode cX12_leads 1 = .ok (.iload_n 1, 1) := by decide +kernel
theorem dX12_leads_2 : decode cX12_leads 2 = .ok (.invokevirtual 449, 3) := by decide +kernel
theorem dX12_leads_5 : decode cX12_leads 5 = .ok (.aload_n 0, 1) := by decide +kernel
theorem dX12_leads_6 : decode cX12_leads 6 = .ok (.iload_n 1, 1) := by decide +kernel
theorem dX12_leads_7 : decode cX12_leads 7 = .ok (.invokevirtual 494, 3) := by decide +kernel
theorem dX12_leads_10 : decode cX12_leads 10 = .ok (.aload_n 0, 1) := by decide +kernel
theorem dX12_leads_11 : decode cX12_leads 11 = .ok (.aload_n 0, 1) := by decide +kernel
theorem dX12_leads_12 : decode cX12_leads 12 = .ok (.getfield 474, 3) := by decide +kernel
theorem dX12_leads_15 : decode cX12_leads 15 = .ok (.putfield 497, 3) := by decide +kernel
theorem dX12_leads_18 : decode cX12_leads 18 = .ok (.aload_n 0, 1) := by decide +kernel
theorem dX12_leads_19 : decode cX12_leads 19 = .ok (.invokevirtual 500, 3) := by decide +kernel
theorem dX12_leads_22 : decode cX12_leads 22 = .ok (.ifCond .eq 19, 3) := by decide +kernel
theorem dX12_leads_25 : decode cX12_leads 25 = .ok (.aload_n 0, 1) := by decide +kernel
theorem dX12_leads_26 : decode cX12_leads 26 = .ok (.dup, 1) := by decide +kernel
theorem dX12_leads_27 : decode cX12_leads 27 = .ok (.getfield 497, 3) := by decide +kernel
theorem dX12_leads_30 : decode cX12_leads 30 = .ok (.aload_n 0, 1) := by decide +kernel
theorem dX12_leads_31 : decode cX12_leads 31 = .ok (.invokevirtual 503, 3) := by decide +kernel
theorem dX12_leads_34 : decode cX12_leads 34 = .ok (.iadd, 1) := by decide +kernel
theorem dX12_leads_35 : decode cX12_leads 35 = .ok (.putfield 497, 3) := by decide +kernel
theorem dX12_leads_38 : decode cX12_leads 38 = .ok (.goto (-20), 3) := by decide +kernel
theorem dX12_leads_41 : decode cX12_leads 41 = .ok (.return_, 1) := by decide +kernel
theorem dX12_allPeople_0 : decode cX12_allPeople 0 = .ok (.iconst 0, 1) := by decide +kernel
theorem dX12_allPeople_1 : decode cX12_allPeople 1 = .ok (.istore_n 1, 1) := by decide +kernel
theorem dX12_allPeople_2 : decode cX12_allPeople 2 = .ok (.iconst 0, 1) := by decide +kernel
theorem dX12_allPeople_3 : decode cX12_allPeople 3 = .ok (.istore_n 2, 1) := by decide +kernel
theorem dX12_allPeople_4 : decode cX12_allPeople 4 = .ok (.iload_n 2, 1) := by decide +kernel
theorem dX12_allPeople_5 : decode cX12_allPeople 5 = .ok (.aload_n 0, 1) := by decide +kernel
theorem dX12_allPeople_6 : decode cX12_allPeople 6 = .ok (.getfield 414, 3) := by decide +kernel
theorem dX12_allPeople_9 : decode cX12_allPeople 9 = .ok (.if_icmp .ge 31, 3) := by decide +kernel
theorem dX12_allPeople_12 : decode cX12_allPeople 12 = .ok (.iload_n 1, 1) := by decide +kernel
theorem dX12_allPeople_13 : decode cX12_allPeople 13 = .ok (.aload_n 0, 1) := by decide +kernel
theorem dX12_allPeople_14 : decode cX12_allPeople 14 = .ok (.getfield 139, 3) := by decide +kernel
theorem dX12_allPeople_17 : decode cX12_allPeople 17 = .ok (.iload_n 2, 1) := by decide +kernel
theorem dX12_allPeople_18 : decode cX12_allPeople 18 = .ok (.baload, 1) := by decide +kernel
theorem dX12_allPeople_19 : decode cX12_allPeople 19 = .ok (.ifCond .eq 12, 3) := by decide +kernel
theorem dX12_allPeople_22 : decode cX12_allPeople 22 = .ok (.aload_n 0, 1) := by decide +kernel
theorem dX12_allPeople_23 : decode cX12_allPeople 23 = .ok (.getfield 145, 3) := by decide +kernel
theorem dX12_allPeople_26 : decode cX12_allPeople 26 = .ok (.iload_n 2, 1) := by decide +kernel
theorem dX12_allPeople_27 : decode cX12_allPeople 27 = .ok (.iaload, 1) := by decide +kernel
theorem dX12_allPeople_28 : decode cX12_allPeople 28 = .ok (.goto 4, 3) := by decide +kernel
theorem dX12_allPeople_31 : decode cX12_allPeople 31 = .ok (.iconst 0, 1) := by decide +kernel
theorem dX12_allPeople_32 : decode cX12_allPeople 32 = .ok (.iadd, 1) := by decide +kernel
theorem dX12_allPeople_33 : decode cX12_allPeople 33 = .ok (.istore_n 1, 1) := by decide +kernel
theorem dX12_allPeople_34 : decode cX12_allPeople 34 = .ok (.iinc 2 1, 3) := by decide +kernel
theorem dX12_allPeople_37 : decode cX12_allPeople 37 = .ok (.goto (-33), 3) := by decide +kernel
theorem dX12_allPeople_40 : decode cX12_allPeople 40 = .ok (.iload_n 1, 1) := by decide +kernel
theorem dX12_allPeople_41 : decode cX12_allPeople 41 = .ok (.ireturn, 1) := by decide +kernel
theorem dX12_buried_0 : decode cX12_buried 0 = .ok (.iconst 0, 1) := by decide +kernel
theorem dX12_buried_1 : decode cX12_buried 1 = .ok (.istore_n 1, 1) := by decide +kernel
theorem dX12_buried_2 : decode cX12_buried 2 = .ok (.iconst 0, 1) := by decide +kernel
theorem dX12_buried_3 : decode cX12_buried 3 = .ok (.istore_n 2, 1) := by decide +kernel
theorem dX12_buried_4 : decode cX12_buried 4 = .ok (.iload_n 2, 1) := by decide +kernel
theorem dX12_buried_5 : decode cX12_buried 5 = .ok (.aload_n 0, 1) := by decide +kernel
theorem dX12_buried_6 : decode cX12_buried 6 = .ok (.getfield 91, 3) := by decide +kernel
theorem dX12_buried_9 : decode cX12_buried 9 = .ok (.aload_n 0, 1) := by decide +kernel
theorem dX12_buried_10 : decode cX12_buried 10 = .ok (.getfield 94, 3) := by decide +kernel
theorem dX12_buried_13 : decode cX12_buried 13 = .ok (.imul, 1) := by decide +kernel
theorem dX12_buried_14 : decode cX12_buried 14 = .ok (.if_icmp .ge 33, 3) := by decide +kernel
theorem dX12_buried_17 : decode cX12_buried 17 = .ok (.iload_n 1, 1) := by decide +kernel
theorem dX12_buried_18 : decode cX12_buried 18 = .ok (.aload_n 0, 1) := by decide +kernel
theorem dX12_buried_19 : decode cX12_buried 19 = .ok (.getfield 130, 3) := by decide +kernel
theorem dX12_buried_22 : decode cX12_buried 22 = .ok (.iload_n 2, 1) := by decide +kernel
theorem dX12_buried_23 : decode cX12_buried 23 = .ok (.iaload, 1) := by decide +kernel
theorem dX12_buried_24 : decode cX12_buried 24 = .ok (.bipush 12, 2) := by decide +kernel
theorem dX12_buried_26 : decode cX12_buried 26 = .ok (.if_icmp .gt 12, 3) := by decide +kernel
theorem dX12_buried_29 : decode cX12_buried 29 = .ok (.aload_n 0, 1) := by decide +kernel
theorem dX12_buried_30 : decode cX12_buried 30 = .ok (.getfield 100, 3) := by decide +kernel
theorem dX12_buried_33 : decode cX12_buried 33 = .ok (.iload_n 2, 1) := by decide +kernel
theorem dX12_buried_34 : decode cX12_buried 34 = .ok (.iaload, 1) := by decide +kernel
theorem dX12_buried_35 : decode cX12_buried 35 = .ok (.goto 4, 3) := by decide +kernel
theorem dX12_buried_38 : decode cX12_buried 38 = .ok (.iconst 0, 1) := by decide +kernel
theorem dX12_buried_39 : decode cX12_buried 39 = .ok (.iadd, 1) := by decide +kernel
theorem dX12_buried_40 : decode cX12_buried 40 = .ok (.istore_n 1, 1) := by decide +kernel
theorem dX12_buried_41 : decode cX12_buried 41 = .ok (.iinc 2 1, 3) := by decide +kernel
theorem dX12_buried_44 : decode cX12_buried 44 = .ok (.goto (-40), 3) := by decide +kernel
theorem dX12_buried_47 : decode cX12_buried 47 = .ok (.iload_n 1, 1) := by decide +kernel
theorem dX12_buried_48 : decode cX12_buried 48 = .ok (.ireturn, 1) := by decide +kernel
theorem dX12_ledOut_0 : decode cX12_ledOut 0 = .ok (.aload_n 0, 1) := by decide +kernel
theorem dX12_ledOut_1 : decode cX12_ledOut 1 = .ok (.iconst 0, 1) := by decide +kernel
theorem dX12_ledOut_2 : decode cX12_ledOut 2 = .ok (.putfield 208, 3) := by decide +kernel
theorem dX12_ledOut_5 : decode cX12_ledOut 5 = .ok (.aload_n 0, 1) := by decide +kernel
theorem dX12_ledOut_6 : decode cX12_ledOut 6 = .ok (.iload_n 1, 1) := by decide +kernel
theorem dX12_ledOut_7 : decode cX12_ledOut 7 = .ok (.invokevirtual 446, 3) := by decide +kernel
theorem dX12_ledOut_10 : decode cX12_ledOut 10 = .ok (.ifCond .eq 12, 3) := by decide +kernel
theorem dX12_ledOut_13 : decode cX12_ledOut 13 = .ok (.iload_n 2, 1) := by decide +kernel
theorem dX12_ledOut_14 : decode cX12_ledOut 14 = .ok (.iconst 0, 1) := by decide +kernel
theorem dX12_ledOut_15 : decode cX12_ledOut 15 = .ok (.iconst 2, 1) := by decide +kernel
theorem dX12_ledOut_16 : decode cX12_ledOut 16 = .ok (.invokestatic 214, 3) := by decide +kernel
theorem dX12_ledOut_19 : decode cX12_ledOut 19 = .ok (.ifCond .ne 5, 3) := by decide +kernel
theorem dX12_ledOut_22 : decode cX12_ledOut 22 = .ok (.iconst (-1), 1) := by decide +kernel
theorem dX12_ledOut_23 : decode cX12_ledOut 23 = .ok (.ireturn, 1) := by decide +kernel
theorem dX12_ledOut_24 : decode cX12_ledOut 24 = .ok (.aload_n 0, 1) := by decide +kernel
theorem dX12_ledOut_25 : decode cX12_ledOut 25 = .ok (.invokevirtual 455, 3) := by decide +kernel
theorem dX12_ledOut_28 : decode cX12_ledOut 28 = .ok (.aload_n 0, 1) := by decide +kernel
theorem dX12_ledOut_29 : decode cX12_ledOut 29 = .ok (.iload_n 1, 1) := by decide +kernel
theorem dX12_ledOut_30 : decode cX12_ledOut 30 = .ok (.invokevirtual 506, 3) := by decide +kernel
theorem dX12_ledOut_33 : decode cX12_ledOut 33 = .ok (.iload_n 2, 1) := by decide +kernel
theorem dX12_ledOut_34 : decode cX12_ledOut 34 = .ok (.ifCond .ne 10, 3) := by decide +kernel
theorem dX12_ledOut_37 : decode cX12_ledOut 37 = .ok (.aload_n 0, 1) := by decide +kernel
theorem dX12_ledOut_38 : decode cX12_ledOut 38 = .ok (.getfield 497, 3) := by decide +kernel
theorem dX12_ledOut_41 : decode cX12_ledOut 41 = .ok (.goto 24, 3) := by decide +kernel
theorem dX12_ledOut_44 : decode cX12_ledOut 44 = .ok (.iload_n 2, 1) := by decide +kernel
theorem dX12_ledOut_45 : decode cX12_ledOut 45 = .ok (.iconst 1, 1) := by decide +kernel
theorem dX12_ledOut_46 : decode cX12_ledOut 46 = .ok (.if_icmp .ne 15, 3) := by decide +kernel
theorem dX12_ledOut_49 : decode cX12_ledOut 49 = .ok (.aload_n 0, 1) := by decide +kernel
theorem dX12_ledOut_50 : decode cX12_ledOut 50 = .ok (.invokevirtual 509, 3) := by decide +kernel
theorem dX12_ledOut_53 : decode cX12_ledOut 53 = .ok (.aload_n 0, 1) := by decide +kernel
theorem dX12_ledOut_54 : decode cX12_ledOut 54 = .ok (.getfield 497, 3) := by decide +kernel
theorem dX12_ledOut_57 : decode cX12_ledOut 57 = .ok (.isub, 1) := by decide +kernel
theorem dX12_ledOut_58 : decode cX12_ledOut 58 = .ok (.goto 7, 3) := by decide +kernel
theorem dX12_ledOut_61 : decode cX12_ledOut 61 = .ok (.aload_n 0, 1) := by decide +kernel
theorem dX12_ledOut_62 : decode cX12_ledOut 62 = .ok (.invokevirtual 512, 3) := by decide +kernel
theorem dX12_ledOut_65 : decode cX12_ledOut 65 = .ok (.ireturn, 1) := by decide +kernel
theorem dX12_cut_0 : decode cX12_cut 0 = .ok (.aload_n 0, 1) := by decide +kernel
theorem dX12_cut_1 : decode cX12_cut 1 = .ok (.iconst 0, 1) := by decide +kernel
theorem dX12_cut_2 : decode cX12_cut 2 = .ok (.putfield 208, 3) := by decide +kernel
theorem dX12_cut_5 : decode cX12_cut 5 = .ok (.aload_n 0, 1) := by decide +kernel
theorem dX12_cut_6 : decode cX12_cut 6 = .ok (.iload_n 1, 1) := by decide +kernel
theorem dX12_cut_7 : decode cX12_cut 7 = .ok (.invokevirtual 446, 3) := by decide +kernel
theorem dX12_cut_10 : decode cX12_cut 10 = .ok (.ifCond .eq 11, 3) := by decide +kernel
theorem dX12_cut_13 : decode cX12_cut 13 = .ok (.aload_n 0, 1) := by decide +kernel
theorem dX12_cut_14 : decode cX12_cut 14 = .ok (.iload_n 2, 1) := by decide +kernel
theorem dX12_cut_15 : decode cX12_cut 15 = .ok (.invokevirtual 452, 3) := by decide +kernel
theorem dX12_cut_18 : decode cX12_cut 18 = .ok (.ifCond .ne 5, 3) := by decide +kernel
theorem dX12_cut_21 : decode cX12_cut 21 = .ok (.iconst (-1), 1) := by decide +kernel
theorem dX12_cut_22 : decode cX12_cut 22 = .ok (.ireturn, 1) := by decide +kernel
theorem dX12_cut_23 : decode cX12_cut 23 = .ok (.aload_n 0, 1) := by decide +kernel
theorem dX12_cut_24 : decode cX12_cut 24 = .ok (.invokevirtual 455, 3) := by decide +kernel
theorem dX12_cut_27 : decode cX12_cut 27 = .ok (.aload_n 0, 1) := by decide +kernel
theorem dX12_cut_28 : decode cX12_cut 28 = .ok (.iload_n 1, 1) := by decide +kernel
theorem dX12_cut_29 : decode cX12_cut 29 = .ok (.invokevirtual 506, 3) := by decide +kernel
theorem dX12_cut_32 : decode cX12_cut 32 = .ok (.iload_n 3, 1) := by decide +kernel
theorem dX12_cut_33 : decode cX12_cut 33 = .ok (.aload_n 0, 1) := by decide +kernel
theorem dX12_cut_34 : decode cX12_cut 34 = .ok (.getfield 464, 3) := by decide +kernel
theorem dX12_cut_37 : decode cX12_cut 37 = .ok (.if_icmp .lt 11, 3) := by decide +kernel
theorem dX12_cut_40 : decode cX12_cut 40 = .ok (.iload_n 3, 1) := by decide +kernel
theorem dX12_cut_41 : decode cX12_cut 41 = .ok (.aload_n 0, 1) := by decide +kernel
theorem dX12_cut_42 : decode cX12_cut 42 = .ok (.getfield 471, 3) := by decide +kernel
theorem dX12_cut_45 : decode cX12_cut 45 = .ok (.if_icmp .le 5, 3) := by decide +kernel
theorem dX12_cut_48 : decode cX12_cut 48 = .ok (.iconst (-1), 1) := by decide +kernel
theorem dX12_cut_49 : decode cX12_cut 49 = .ok (.ireturn, 1) := by decide +kernel
theorem dX12_cut_50 : decode cX12_cut 50 = .ok (.aload_n 0, 1) := by decide +kernel
theorem dX12_cut_51 : decode cX12_cut 51 = .ok (.getfield 193, 3) := by decide +kernel
theorem dX12_cut_54 : decode cX12_cut 54 = .ok (.aload_n 0, 1) := by decide +kernel
theorem dX12_cut_55 : decode cX12_cut 55 = .ok (.iload_n 2, 1) := by decide +kernel
theorem dX12_cut_56 : decode cX12_cut 56 = .ok (.iload_n 3, 1) := by decide +kernel
theorem dX12_cut_57 : decode cX12_cut 57 = .ok (.invokevirtual 486, 3) := by decide +kernel
theorem dX12_cut_60 : decode cX12_cut 60 = .ok (.iaload, 1) := by decide +kernel
theorem dX12_cut_61 : decode cX12_cut 61 = .ok (.iconst (-1), 1) := by decide +kernel
theorem dX12_cut_62 : decode cX12_cut 62 = .ok (.if_icmp .ne 7, 3) := by decide +kernel
theorem dX12_cut_65 : decode cX12_cut 65 = .ok (.iconst 0, 1) := by decide +kernel
theorem dX12_cut_66 : decode cX12_cut 66 = .ok (.goto 4, 3) := by decide +kernel
theorem dX12_cut_69 : decode cX12_cut 69 = .ok (.iconst 1, 1) := by decide +kernel
theorem dX12_cut_70 : decode cX12_cut 70 = .ok (.ireturn, 1) := by decide +kernel
theorem dX12_costs_0 : decode cX12_costs 0 = .ok (.aload_n 0, 1) := by decide +kernel
theorem dX12_costs_1 : decode cX12_costs 1 = .ok (.iconst 0, 1) := by decide +kernel
theorem dX12_costs_2 : decode cX12_costs 2 = .ok (.putfield 515, 3) := by decide +kernel
theorem dX12_costs_5 : decode cX12_costs 5 = .ok (.aload_n 0, 1) := by decide +kernel
theorem dX12_costs_6 : decode cX12_costs 6 = .ok (.iconst 0, 1) := by decide +kernel
theorem dX12_costs_7 : decode cX12_costs 7 = .ok (.putfield 518, 3) := by decide +kernel
theorem dX12_costs_10 : decode cX12_costs 10 = .ok (.iconst 0, 1) := by decide +kernel
theorem dX12_costs_11 : decode cX12_costs 11 = .ok (.istore_n 1, 1) := by decide +kernel
theorem dX12_costs_12 : decode cX12_costs 12 = .ok (.iload_n 1, 1) := by decide +kernel
theorem dX12_costs_13 : decode cX12_costs 13 = .ok (.aload_n 0, 1) := by decide +kernel
theorem dX12_costs_14 : decode cX12_costs 14 = .ok (.getfield 411, 3) := by decide +kernel
theorem dX12_costs_17 : decode cX12_costs 17 = .ok (.if_icmp .ge 59, 3) := by decide +kernel
theorem dX12_costs_20 : decode cX12_costs 20 = .ok (.aload_n 0, 1) := by decide +kernel
theorem dX12_costs_21 : decode cX12_costs 21 = .ok (.iload_n 1, 1) := by decide +kernel
theorem dX12_costs_22 : decode cX12_costs 22 = .ok (.invokevirtual 506, 3) := by decide +kernel
theorem dX12_costs_25 : decode cX12_costs 25 = .ok (.aload_n 0, 1) := by decide +kernel
theorem dX12_costs_26 : decode cX12_costs 26 = .ok (.dup, 1) := by decide +kernel
theorem dX12_costs_27 : decode cX12_costs 27 = .ok (.getfield 515, 3) := by decide +kernel
theorem dX12_costs_30 : decode cX12_costs 30 = .ok (.aload_n 0, 1) := by decide +kernel
theorem dX12_costs_31 : decode cX12_costs 31 = .ok (.getfield 121, 3) := by decide +kernel
theorem dX12_costs_34 : decode cX12_costs 34 = .ok (.iload_n 1, 1) := by decide +kernel
theorem dX12_costs_35 : decode cX12_costs 35 = .ok (.iaload, 1) := by decide +kernel
theorem dX12_costs_36 : decode cX12_costs 36 = .ok (.aload_n 0, 1) := by decide +kernel
theorem dX12_costs_37 : decode cX12_costs 37 = .ok (.invokevirtual 509, 3) := by decide +kernel
theorem dX12_costs_40 : decode cX12_costs 40 = .ok (.aload_n 0, 1) := by decide +kernel
theorem dX12_costs_41 : decode cX12_costs 41 = .ok (.getfield 497, 3) := by decide +kernel
theorem dX12_costs_44 : decode cX12_costs 44 = .ok (.isub, 1) := by decide +kernel
theorem dX12_costs_45 : decode cX12_costs 45 = .ok (.imul, 1) := by decide +kernel
theorem dX12_costs_46 : decode cX12_costs 46 = .ok (.iadd, 1) := by decide +kernel
theorem dX12_costs_47 : decode cX12_costs 47 = .ok (.putfield 515, 3) := by decide +kernel
theorem dX12_costs_50 : decode cX12_costs 50 = .ok (.aload_n 0, 1) := by decide +kernel
theorem dX12_costs_51 : decode cX12_costs 51 = .ok (.dup, 1) := by decide +kernel
theorem dX12_costs_52 : decode cX12_costs 52 = .ok (.getfield 518, 3) := by decide +kernel
theorem dX12_costs_55 : decode cX12_costs 55 = .ok (.aload_n 0, 1) := by decide +kernel
theorem dX12_costs_56 : decode cX12_costs 56 = .ok (.getfield 121, 3) := by decide +kernel
theorem dX12_costs_59 : decode cX12_costs 59 = .ok (.iload_n 1, 1) := by decide +kernel
theorem dX12_costs_60 : decode cX12_costs 60 = .ok (.iaload, 1) := by decide +kernel
theorem dX12_costs_61 : decode cX12_costs 61 = .ok (.aload_n 0, 1) := by decide +kernel
theorem dX12_costs_62 : decode cX12_costs 62 = .ok (.invokevirtual 512, 3) := by decide +kernel
theorem dX12_costs_65 : decode cX12_costs 65 = .ok (.imul, 1) := by decide +kernel
theorem dX12_costs_66 : decode cX12_costs 66 = .ok (.iadd, 1) := by decide +kernel
theorem dX12_costs_67 : decode cX12_costs 67 = .ok (.putfield 518, 3) := by decide +kernel
theorem dX12_costs_70 : decode cX12_costs 70 = .ok (.iinc 1 1, 3) := by decide +kernel
theorem dX12_costs_73 : decode cX12_costs 73 = .ok (.goto (-61), 3) := by decide +kernel
theorem dX12_costs_76 : decode cX12_costs 76 = .ok (.return_, 1) := by decide +kernel
theorem dX12_cost_0 : decode cX12_cost 0 = .ok (.aload_n 0, 1) := by decide +kernel
theorem dX12_cost_1 : decode cX12_cost 1 = .ok (.iconst 0, 1) := by decide +kernel
theorem dX12_cost_2 : decode cX12_cost 2 = .ok (.putfield 208, 3) := by decide +kernel
theorem dX12_cost_5 : decode cX12_cost 5 = .ok (.iload_n 1, 1) := by decide +kernel
theorem dX12_cost_6 : decode cX12_cost 6 = .ok (.iconst 0, 1) := by decide +kernel
theorem dX12_cost_7 : decode cX12_cost 7 = .ok (.iconst 1, 1) := by decide +kernel
theorem dX12_cost_8 : decode cX12_cost 8 = .ok (.invokestatic 214, 3) := by decide +kernel
theorem dX12_cost_11 : decode cX12_cost 11 = .ok (.ifCond .ne 5, 3) := by decide +kernel
theorem dX12_cost_14 : decode cX12_cost 14 = .ok (.iconst (-1), 1) := by decide +kernel
theorem dX12_cost_15 : decode cX12_cost 15 = .ok (.ireturn, 1) := by decide +kernel
theorem dX12_cost_16 : decode cX12_cost 16 = .ok (.aload_n 0, 1) := by decide +kernel
theorem dX12_cost_17 : decode cX12_cost 17 = .ok (.invokevirtual 455, 3) := by decide +kernel
theorem dX12_cost_20 : decode cX12_cost 20 = .ok (.aload_n 0, 1) := by decide +kernel
theorem dX12_cost_21 : decode cX12_cost 21 = .ok (.invokevirtual 521, 3) := by decide +kernel
theorem dX12_cost_24 : decode cX12_cost 24 = .ok (.iload_n 1, 1) := by decide +kernel
theorem dX12_cost_25 : decode cX12_cost 25 = .ok (.ifCond .ne 10, 3) := by decide +kernel
theorem dX12_cost_28 : decode cX12_cost 28 = .ok (.aload_n 0, 1) := by decide +kernel
theorem dX12_cost_29 : decode cX12_cost 29 = .ok (.getfield 515, 3) := by decide +kernel
theorem dX12_cost_32 : decode cX12_cost 32 = .ok (.goto 7, 3) := by decide +kernel
theorem dX12_cost_35 : decode cX12_cost 35 = .ok (.aload_n 0, 1) := by decide +kernel
theorem dX12_cost_36 : decode cX12_cost 36 = .ok (.getfield 518, 3) := by decide +kernel
theorem dX12_cost_39 : decode cX12_cost 39 = .ok (.ireturn, 1) := by decide +kernel
theorem dX12_candidate_0 : decode cX12_candidate 0 = .ok (.aload_n 0, 1) := by decide +kernel
theorem dX12_candidate_1 : decode cX12_candidate 1 = .ok (.iconst 0, 1) := by decide +kernel
theorem dX12_candidate_2 : decode cX12_candidate 2 = .ok (.putfield 208, 3) := by decide +kernel
theorem dX12_candidate_5 : decode cX12_candidate 5 = .ok (.aload_n 0, 1) := by decide +kernel
theorem dX12_candidate_6 : decode cX12_candidate 6 = .ok (.getfield 420, 3) := by decide +kernel
theorem dX12_candidate_9 : decode cX12_candidate 9 = .ok (.bipush 6, 2) := by decide +kernel
theorem dX12_candidate_11 : decode cX12_candidate 11 = .ok (.if_icmp .eq 11, 3) := by decide +kernel
theorem dX12_candidate_14 : decode cX12_candidate 14 = .ok (.aload_n 0, 1) := by decide +kernel
theorem dX12_candidate_15 : decode cX12_candidate 15 = .ok (.iload_n 1, 1) := by decide +kernel
theorem dX12_candidate_16 : decode cX12_candidate 16 = .ok (.invokevirtual 423, 3) := by decide +kernel
theorem dX12_candidate_19 : decode cX12_candidate 19 = .ok (.ifCond .ne 5, 3) := by decide +kernel
theorem dX12_candidate_22 : decode cX12_candidate 22 = .ok (.iconst (-1), 1) := by decide +kernel
theorem dX12_candidate_23 : decode cX12_candidate 23 = .ok (.ireturn, 1) := by decide +kernel
theorem dX12_candidate_24 : decode cX12_candidate 24 = .ok (.iconst 0, 1) := by decide +kernel
theorem dX12_candidate_25 : decode cX12_candidate 25 = .ok (.istore_n 2, 1) := by decide +kernel
theorem dX12_candidate_26 : decode cX12_candidate 26 = .ok (.iload_n 2, 1) := by decide +kernel
theorem dX12_candidate_27 : decode cX12_candidate 27 = .ok (.aload_n 0, 1) := by decide +kernel
theorem dX12_candidate_28 : decode cX12_candidate 28 = .ok (.getfield 420, 3) := by decide +kernel
theorem dX12_candidate_31 : decode cX12_candidate 31 = .ok (.if_icmp .ge 21, 3) := by decide +kernel
theorem dX12_candidate_34 : decode cX12_candidate 34 = .ok (.aload_n 0, 1) := by decide +kernel
theorem dX12_candidate_35 : decode cX12_candidate 35 = .ok (.getfield 199, 3) := by decide +kernel
theorem dX12_candidate_38 : decode cX12_candidate 38 = .ok (.iload_n 2, 1) := by decide +kernel
theorem dX12_candidate_39 : decode cX12_candidate 39 = .ok (.iaload, 1) := by decide +kernel
theorem dX12_candidate_40 : decode cX12_candidate 40 = .ok (.iload_n 1, 1) := by decide +kernel
theorem dX12_candidate_41 : decode cX12_candidate 41 = .ok (.if_icmp .ne 5, 3) := by decide +kernel
theorem dX12_candidate_44 : decode cX12_candidate 44 = .ok (.iconst (-1), 1) := by decide +kernel
theorem dX12_candidate_45 : decode cX12_candidate 45 = .ok (.ireturn, 1) := by decide +kernel
theorem dX12_candidate_46 : decode cX12_candidate 46 = .ok (.iinc 2 1, 3) := by decide +kernel
theorem dX12_candidate_49 : decode cX12_candidate 49 = .ok (.goto (-23), 3) := by decide +kernel
theorem dX12_candidate_52 : decode cX12_candidate 52 = .ok (.aload_n 0, 1) := by decide +kernel
theorem dX12_candidate_53 : decode cX12_candidate 53 = .ok (.getfield 199, 3) := by decide +kernel
theorem dX12_candidate_56 : decode cX12_candidate 56 = .ok (.aload_n 0, 1) := by decide +kernel
theorem dX12_candidate_57 : decode cX12_candidate 57 = .ok (.getfield 420, 3) := by decide +kernel
theorem dX12_candidate_60 : decode cX12_candidate 60 = .ok (.iload_n 1, 1) := by decide +kernel
theorem dX12_candidate_61 : decode cX12_candidate 61 = .ok (.iastore, 1) := by decide +kernel
theorem dX12_candidate_62 : decode cX12_candidate 62 = .ok (.aload_n 0, 1) := by decide +kernel
theorem dX12_candidate_63 : decode cX12_candidate 63 = .ok (.dup, 1) := by decide +kernel
theorem dX12_candidate_64 : decode cX12_candidate 64 = .ok (.getfield 420, 3) := by decide +kernel
theorem dX12_candidate_67 : decode cX12_candidate 67 = .ok (.iconst 1, 1) := by decide +kernel
theorem dX12_candidate_68 : decode cX12_candidate 68 = .ok (.iadd, 1) := by decide +kernel
theorem dX12_candidate_69 : decode cX12_candidate 69 = .ok (.putfield 420, 3) := by decide +kernel
theorem dX12_candidate_72 : decode cX12_candidate 72 = .ok (.aload_n 0, 1) := by decide +kernel
theorem dX12_candidate_73 : decode cX12_candidate 73 = .ok (.getfield 420, 3) := by decide +kernel
theorem dX12_candidate_76 : decode cX12_candidate 76 = .ok (.iconst 1, 1) := by decide +kernel
theorem dX12_candidate_77 : decode cX12_candidate 77 = .ok (.isub, 1) := by decide +kernel
theorem dX12_candidate_78 : decode cX12_candidate 78 = .ok (.ireturn, 1) := by decide +kernel
theorem dX12_tries1_0 : decode cX12_tries1 0 = .ok (.aload_n 0, 1) := by decide +kernel
theorem dX12_tries1_1 : decode cX12_tries1 1 = .ok (.invokevirtual 521, 3) := by decide +kernel
theorem dX12_tries1_4 : decode cX12_tries1 4 = .ok (.aload_n 0, 1) := by decide +kernel
theorem dX12_tries1_5 : decode cX12_tries1 5 = .ok (.getfield 524, 3) := by decide +kernel
theorem dX12_tries1_8 : decode cX12_tries1 8 = .ok (.ifCond .lt 36, 3) := by decide +kernel
theorem dX12_tries1_11 : decode cX12_tries1 11 = .ok (.aload_n 0, 1) := by decide +kernel
theorem dX12_tries1_12 : decode cX12_tries1 12 = .ok (.getfield 515, 3) := by decide +kernel
theorem dX12_tries1_15 : decode cX12_tries1 15 = .ok (.aload_n 0, 1) := by decide +kernel
theorem dX12_tries1_16 : decode cX12_tries1 16 = .ok (.getfield 527, 3) := by decide +kernel
theorem dX12_tries1_19 : decode cX12_tries1 19 = .ok (.if_icmp .lt 25, 3) := by decide +kernel
theorem dX12_tries1_22 : decode cX12_tries1 22 = .ok (.aload_n 0, 1) := by decide +kernel
theorem dX12_tries1_23 : decode cX12_tries1 23 = .ok (.getfield 515, 3) := by decide +kernel
theorem dX12_tries1_26 : decode cX12_tries1 26 = .ok (.aload_n 0, 1) := by decide +kernel
theorem dX12_tries1_27 : decode cX12_tries1 27 = .ok (.getfield 527, 3) := by decide +kernel
theorem dX12_tries1_30 : decode cX12_tries1 30 = .ok (.if_icmp .ne 18, 3) := by decide +kernel
theorem dX12_tries1_33 : decode cX12_tries1 33 = .ok (.aload_n 0, 1) := by decide +kernel
theorem dX12_tries1_34 : decode cX12_tries1 34 = .ok (.getfield 518, 3) := by decide +kernel
theorem dX12_tries1_37 : decode cX12_tries1 37 = .ok (.aload_n 0, 1) := by decide +kernel
theorem dX12_tries1_38 : decode cX12_tries1 38 = .ok (.getfield 530, 3) := by decide +kernel
theorem dX12_tries1_41 : decode cX12_tries1 41 = .ok (.if_icmp .ge 7, 3) := by decide +kernel
theorem dX12_tries1_44 : decode cX12_tries1 44 = .ok (.iconst 1, 1) := by decide +kernel
theorem dX12_tries1_45 : decode cX12_tries1 45 = .ok (.goto 4, 3) := by decide +kernel
theorem dX12_tries1_48 : decode cX12_tries1 48 = .ok (.iconst 0, 1) := by decide +kernel
theorem dX12_tries1_49 : decode cX12_tries1 49 = .ok (.istore 4, 2) := by decide +kernel
theorem dX12_tries1_51 : decode cX12_tries1 51 = .ok (.iload 4, 2) := by decide +kernel
theorem dX12_tries1_53 : decode cX12_tries1 53 = .ok (.ifCond .ne 4, 3) := by decide +kernel
theorem dX12_tries1_56 : decode cX12_tries1 56 = .ok (.return_, 1) := by decide +kernel
theorem dX12_tries1_57 : decode cX12_tries1 57 = .ok (.aload_n 0, 1) := by decide +kernel
theorem dX12_tries1_58 : decode cX12_tries1 58 = .ok (.iload_n 1, 1) := by decide +kernel
theorem dX12_tries1_59 : decode cX12_tries1 59 = .ok (.putfield 524, 3) := by decide +kernel
theorem dX12_tries1_62 : decode cX12_tries1 62 = .ok (.aload_n 0, 1) := by decide +kernel
theorem dX12_tries1_63 : decode cX12_tries1 63 = .ok (.iload_n 2, 1) := by decide +kernel
theorem dX12_tries1_64 : decode cX12_tries1 64 = .ok (.putfield 533, 3) := by decide +kernel
theorem dX12_tries1_67 : decode cX12_tries1 67 = .ok (.aload_n 0, 1) := by decide +kernel
theorem dX12_tries1_68 : decode cX12_tries1 68 = .ok (.iload_n 3, 1) := by decide +kernel
theorem dX12_tries1_69 : decode cX12_tries1 69 = .ok (.putfield 536, 3) := by decide +kernel
theorem dX12_tries1_72 : decode cX12_tries1 72 = .ok (.aload_n 0, 1) := by decide +kernel
theorem dX12_tries1_73 : decode cX12_tries1 73 = .ok (.aload_n 0, 1) := by decide +kernel
theorem dX12_tries1_74 : decode cX12_tries1 74 = .ok (.getfield 515, 3) := by decide +kernel
theorem dX12_tries1_77 : decode cX12_tries1 77 = .ok (.putfield 527, 3) := by decide +kernel
theorem dX12_tries1_80 : decode cX12_tries1 80 = .ok (.aload_n 0, 1) := by decide +kernel
theorem dX12_tries1_81 : decode cX12_tries1 81 = .ok (.aload_n 0, 1) := by decide +kernel
theorem dX12_tries1_82 : decode cX12_tries1 82 = .ok (.getfield 518, 3) := by decide +kernel
theorem dX12_tries1_85 : decode cX12_tries1 85 = .ok (.putfield 530, 3) := by decide +kernel
theorem dX12_tries1_88 : decode cX12_tries1 88 = .ok (.return_, 1) := by decide +kernel
theorem dX12_canBuild_0 : decode cX12_canBuild 0 = .ok (.aload_n 0, 1) := by decide +kernel
theorem dX12_canBuild_1 : decode cX12_canBuild 1 = .ok (.aload_n 0, 1) := by decide +kernel
theorem dX12_canBuild_2 : decode cX12_canBuild 2 = .ok (.getfield 199, 3) := by decide +kernel
theorem dX12_canBuild_5 : decode cX12_canBuild 5 = .ok (.iload_n 1, 1) := by decide +kernel
theorem dX12_canBuild_6 : decode cX12_canBuild 6 = .ok (.iconst 2, 1) := by decide +kernel
theorem dX12_canBuild_7 : decode cX12_canBuild 7 = .ok (.idiv, 1) := by decide +kernel
theorem dX12_canBuild_8 : decode cX12_canBuild 8 = .ok (.iaload, 1) := by decide +kernel
theorem dX12_canBuild_9 : decode cX12_canBuild 9 = .ok (.iload_n 1, 1) := by decide +kernel
theorem dX12_canBuild_10 : decode cX12_canBuild 10 = .ok (.iconst 2, 1) := by decide +kernel
theorem dX12_canBuild_11 : decode cX12_canBuild 11 = .ok (.irem, 1) := by decide +kernel
theorem dX12_canBuild_12 : decode cX12_canBuild 12 = .ok (.iconst 1, 1) := by decide +kernel
theorem dX12_canBuild_13 : decode cX12_canBuild 13 = .ok (.if_icmp .ne 7, 3) := by decide +kernel
theorem dX12_canBuild_16 : decode cX12_canBuild 16 = .ok (.iconst 1, 1) := by decide +kernel
theorem dX12_canBuild_17 : decode cX12_canBuild 17 = .ok (.goto 4, 3) := by decide +kernel
theorem dX12_canBuild_20 : decode cX12_canBuild 20 = .ok (.iconst 0, 1) := by decide +kernel
theorem dX12_canBuild_21 : decode cX12_canBuild 21 = .ok (.invokevirtual 430, 3) := by decide +kernel
theorem dX12_canBuild_24 : decode cX12_canBuild 24 = .ok (.ireturn, 1) := by decide +kernel
theorem dX12_build_0 : decode cX12_build 0 = .ok (.aload_n 0, 1) := by decide +kernel
theorem dX12_build_1 : decode cX12_build 1 = .ok (.aload_n 0, 1) := by decide +kernel
theorem dX12_build_2 : decode cX12_build 2 = .ok (.getfield 199, 3) := by decide +kernel
theorem dX12_build_5 : decode cX12_build 5 = .ok (.iload_n 1, 1) := by decide +kernel
theorem dX12_build_6 : decode cX12_build 6 = .ok (.iconst 2, 1) := by decide +kernel
theorem dX12_build_7 : decode cX12_build 7 = .ok (.idiv, 1) := by decide +kernel
theorem dX12_build_8 : decode cX12_build 8 = .ok (.iaload, 1) := by decide +kernel
theorem dX12_build_9 : decode cX12_build 9 = .ok (.iload_n 1, 1) := by decide +kernel
theorem dX12_build_10 : decode cX12_build 10 = .ok (.iconst 2, 1) := by decide +kernel
theorem dX12_build_11 : decode cX12_build 11 = .ok (.irem, 1) := by decide +kernel
theorem dX12_build_12 : decode cX12_build 12 = .ok (.iconst 1, 1) := by decide +kernel
theorem dX12_build_13 : decode cX12_build 13 = .ok (.if_icmp .ne 7, 3) := by decide +kernel
theorem dX12_build_16 : decode cX12_build 16 = .ok (.iconst 1, 1) := by decide +kernel
theorem dX12_build_17 : decode cX12_build 17 = .ok (.goto 4, 3) := by decide +kernel
theorem dX12_build_20 : decode cX12_build 20 = .ok (.iconst 0, 1) := by decide +kernel
theorem dX12_build_21 : decode cX12_build 21 = .ok (.iload_n 2, 1) := by decide +kernel
theorem dX12_build_22 : decode cX12_build 22 = .ok (.invokevirtual 433, 3) := by decide +kernel
theorem dX12_build_25 : decode cX12_build 25 = .ok (.return_, 1) := by decide +kernel
theorem dX12_best_0 : decode cX12_best 0 = .ok (.aload_n 0, 1) := by decide +kernel
theorem dX12_best_1 : decode cX12_best 1 = .ok (.iconst 0, 1) := by decide +kernel
theorem dX12_best_2 : decode cX12_best 2 = .ok (.putfield 208, 3) := by decide +kernel
theorem dX12_best_5 : decode cX12_best 5 = .ok (.iload_n 1, 1) := by decide +kernel
theorem dX12_best_6 : decode cX12_best 6 = .ok (.iconst 0, 1) := by decide +kernel
theorem dX12_best_7 : decode cX12_best 7 = .ok (.iconst 2, 1) := by decide +kernel
theorem dX12_best_8 : decode cX12_best 8 = .ok (.invokestatic 214, 3) := by decide +kernel
theorem dX12_best_11 : decode cX12_best 11 = .ok (.ifCond .eq 12, 3) := by decide +kernel
theorem dX12_best_14 : decode cX12_best 14 = .ok (.iload_n 2, 1) := by decide +kernel
theorem dX12_best_15 : decode cX12_best 15 = .ok (.iconst 0, 1) := by decide +kernel
theorem dX12_best_16 : decode cX12_best 16 = .ok (.iconst 4, 1) := by decide +kernel
theorem dX12_best_17 : decode cX12_best 17 = .ok (.invokestatic 214, 3) := by decide +kernel
theorem dX12_best_20 : decode cX12_best 20 = .ok (.ifCond .ne 5, 3) := by decide +kernel
theorem dX12_best_23 : decode cX12_best 23 = .ok (.iconst (-1), 1) := by decide +kernel
theorem dX12_best_24 : decode cX12_best 24 = .ok (.ireturn, 1) := by decide +kernel
theorem dX12_best_25 : decode cX12_best 25 = .ok (.aload_n 0, 1) := by decide +kernel
theorem dX12_best_26 : decode cX12_best 26 = .ok (.invokevirtual 455, 3) := by decide +kernel
theorem dX12_best_29 : decode cX12_best 29 = .ok (.aload_n 0, 1) := by decide +kernel
theorem dX12_best_30 : decode cX12_best 30 = .ok (.iconst (-1), 1) := by decide +kernel
theorem dX12_best_31 : decode cX12_best 31 = .ok (.putfield 524, 3) := by decide +kernel
theorem dX12_best_34 : decode cX12_best 34 = .ok (.aload_n 0, 1) := by decide +kernel
theorem dX12_best_35 : decode cX12_best 35 = .ok (.iconst 0, 1) := by decide +kernel
theorem dX12_best_36 : decode cX12_best 36 = .ok (.iconst (-1), 1) := by decide +kernel
theorem dX12_best_37 : decode cX12_best 37 = .ok (.iconst (-1), 1) := by decide +kernel
theorem dX12_best_38 : decode cX12_best 38 = .ok (.invokevirtual 539, 3) := by decide +kernel
theorem dX12_best_41 : decode cX12_best 41 = .ok (.iconst 0, 1) := by decide +kernel
theorem dX12_best_42 : decode cX12_best 42 = .ok (.istore_n 3, 1) := by decide +kernel
theorem dX12_best_43 : decode cX12_best 43 = .ok (.iload_n 3, 1) := by decide +kernel
theorem dX12_best_44 : decode cX12_best 44 = .ok (.iconst 2, 1) := by decide +kernel
theorem dX12_best_45 : decode cX12_best 45 = .ok (.aload_n 0, 1) := by decide +kernel
theorem dX12_best_46 : decode cX12_best 46 = .ok (.getfield 420, 3) := by decide +kernel
theorem dX12_best_49 : decode cX12_best 49 = .ok (.imul, 1) := by decide +kernel
theorem dX12_best_50 : decode cX12_best 50 = .ok (.if_icmp .ge 43, 3) := by decide +kernel
theorem dX12_best_53 : decode cX12_best 53 = .ok (.iload_n 1, 1) := by decide +kernel
theorem dX12_best_54 : decode cX12_best 54 = .ok (.ifCond .le 39, 3) := by decide +kernel
theorem dX12_best_57 : decode cX12_best 57 = .ok (.aload_n 0, 1) := by decide +kernel
theorem dX12_best_58 : decode cX12_best 58 = .ok (.iload_n 3, 1) := by decide +kernel
theorem dX12_best_59 : decode cX12_best 59 = .ok (.invokevirtual 542, 3) := by decide +kernel
theorem dX12_best_62 : decode cX12_best 62 = .ok (.ifCond .ne 6, 3) := by decide +kernel
theorem dX12_best_65 : decode cX12_best 65 = .ok (.goto 22, 3) := by decide +kernel
theorem dX12_best_68 : decode cX12_best 68 = .ok (.aload_n 0, 1) := by decide +kernel
theorem dX12_best_69 : decode cX12_best 69 = .ok (.iload_n 3, 1) := by decide +kernel
theorem dX12_best_70 : decode cX12_best 70 = .ok (.iconst 1, 1) := by decide +kernel
theorem dX12_best_71 : decode cX12_best 71 = .ok (.invokevirtual 545, 3) := by decide +kernel
theorem dX12_best_74 : decode cX12_best 74 = .ok (.aload_n 0, 1) := by decide +kernel
theorem dX12_best_75 : decode cX12_best 75 = .ok (.iconst 1, 1) := by decide +kernel
theorem dX12_best_76 : decode cX12_best 76 = .ok (.iload_n 3, 1) := by decide +kernel
theorem dX12_best_77 : decode cX12_best 77 = .ok (.iconst (-1), 1) := by decide +kernel
theorem dX12_best_78 : decode cX12_best 78 = .ok (.invokevirtual 539, 3) := by decide +kernel
theorem dX12_best_81 : decode cX12_best 81 = .ok (.aload_n 0, 1) := by decide +kernel
theorem dX12_best_82 : decode cX12_best 82 = .ok (.iload_n 3, 1) := by decide +kernel
theorem dX12_best_83 : decode cX12_best 83 = .ok (.iconst 0, 1) := by decide +kernel
theorem dX12_best_84 : decode cX12_best 84 = .ok (.invokevirtual 545, 3) := by decide +kernel
theorem dX12_best_87 : decode cX12_best 87 = .ok (.iinc 3 1, 3) := by decide +kernel
theorem dX12_best_90 : decode cX12_best 90 = .ok (.goto (-47), 3) := by decide +kernel
theorem dX12_best_93 : decode cX12_best 93 = .ok (.iconst 0, 1) := by decide +kernel
theorem dX12_best_94 : decode cX12_best 94 = .ok (.istore_n 3, 1) := by decide +kernel
theorem dX12_best_95 : decode cX12_best 95 = .ok (.iload_n 3, 1) := by decide +kernel
theorem dX12_best_96 : decode cX12_best 96 = .ok (.iconst 2, 1) := by decide +kernel
theorem dX12_best_97 : decode cX12_best 97 = .ok (.aload_n 0, 1) := by decide +kernel
theorem dX12_best_98 : decode cX12_best 98 = .ok (.getfield 420, 3) := by decide +kernel
theorem dX12_best_101 : decode cX12_best 101 = .ok (.imul, 1) := by decide +kernel
theorem dX12_best_102 : decode cX12_best 102 = .ok (.if_icmp .ge 97, 3) := by decide +kernel
theorem dX12_best_105 : decode cX12_best 105 = .ok (.iload_n 1, 1) := by decide +kernel
theorem dX12_best_106 : decode cX12_best 106 = .ok (.iconst 1, 1) := by decide +kernel
theorem dX12_best_107 : decode cX12_best 107 = .ok (.if_icmp .le 92, 3) := by decide +kernel
theorem dX12_best_110 : decode cX12_best 110 = .ok (.aload_n 0, 1) := by decide +kernel
theorem dX12_best_111 : decode cX12_best 111 = .ok (.iload_n 3, 1) := by decide +kernel
theorem dX12_best_112 : decode cX12_best 112 = .ok (.invokevirtual 542, 3) := by decide +kernel
theorem dX12_best_115 : decode cX12_best 115 = .ok (.ifCond .ne 6, 3) := by decide +kernel
theorem dX12_best_118 : decode cX12_best 118 = .ok (.goto 75, 3) := by decide +kernel
theorem dX12_best_121 : decode cX12_best 121 = .ok (.aload_n 0, 1) := by decide +kernel
theorem dX12_best_122 : decode cX12_best 122 = .ok (.iload_n 3, 1) := by decide +kernel
theorem dX12_best_123 : decode cX12_best 123 = .ok (.iconst 1, 1) := by decide +kernel
theorem dX12_best_124 : decode cX12_best 124 = .ok (.invokevirtual 545, 3) := by decide +kernel
theorem dX12_best_127 : decode cX12_best 127 = .ok (.iload_n 3, 1) := by decide +kernel
theorem dX12_best_128 : decode cX12_best 128 = .ok (.iconst 2, 1) := by decide +kernel
theorem dX12_best_129 : decode cX12_best 129 = .ok (.idiv, 1) := by decide +kernel
theorem dX12_best_130 : decode cX12_best 130 = .ok (.iconst 2, 1) := by decide +kernel
theorem dX12_best_131 : decode cX12_best 131 = .ok (.imul, 1) := by decide +kernel
theorem dX12_best_132 : decode cX12_best 132 = .ok (.iconst 2, 1) := by decide +kernel
theorem dX12_best_133 : decode cX12_best 133 = .ok (.iadd, 1) := by decide +kernel
theorem dX12_best_134 : decode cX12_best 134 = .ok (.istore 4, 2) := by decide +kernel
theorem dX12_best_136 : decode cX12_best 136 = .ok (.iload 4, 2) := by decide +kernel
theorem dX12_best_138 : decode cX12_best 138 = .ok (.iconst 2, 1) := by decide +kernel
theorem dX12_best_139 : decode cX12_best 139 = .ok (.aload_n 0, 1) := by decide +kernel
theorem dX12_best_140 : decode cX12_best 140 = .ok (.getfield 420, 3) := by decide +kernel
theorem dX12_best_143 : decode cX12_best 143 = .ok (.imul, 1) := by decide +kernel
theorem dX12_best_144 : decode cX12_best 144 = .ok (.if_icmp .ge 43, 3) := by decide +kernel
theorem dX12_best_147 : decode cX12_best 147 = .ok (.aload_n 0, 1) := by decide +kernel
theorem dX12_best_148 : decode cX12_best 148 = .ok (.iload 4, 2) := by decide +kernel
theorem dX12_best_150 : decode cX12_best 150 = .ok (.invokevirtual 542, 3) := by decide +kernel
theorem dX12_best_153 : decode cX12_best 153 = .ok (.ifCond .ne 6, 3) := by decide +kernel
theorem dX12_best_156 : decode cX12_best 156 = .ok (.goto 25, 3) := by decide +kernel
theorem dX12_best_159 : decode cX12_best 159 = .ok (.aload_n 0, 1) := by decide +kernel
theorem dX12_best_160 : decode cX12_best 160 = .ok (.iload 4, 2) := by decide +kernel
theorem dX12_best_162 : decode cX12_best 162 = .ok (.iconst 1, 1) := by decide +kernel
theorem dX12_best_163 : decode cX12_best 163 = .ok (.invokevirtual 545, 3) := by decide +kernel
theorem dX12_best_166 : decode cX12_best 166 = .ok (.aload_n 0, 1) := by decide +kernel
theorem dX12_best_167 : decode cX12_best 167 = .ok (.iconst 2, 1) := by decide +kernel
theorem dX12_best_168 : decode cX12_best 168 = .ok (.iload_n 3, 1) := by decide +kernel
theorem dX12_best_169 : decode cX12_best 169 = .ok (.iload 4, 2) := by decide +kernel
theorem dX12_best_171 : decode cX12_best 171 = .ok (.invokevirtual 539, 3) := by decide +kernel
theorem dX12_best_174 : decode cX12_best 174 = .ok (.aload_n 0, 1) := by decide +kernel
theorem dX12_best_175 : decode cX12_best 175 = .ok (.iload 4, 2) := by decide +kernel
theorem dX12_best_177 : decode cX12_best 177 = .ok (.iconst 0, 1) := by decide +kernel
theorem dX12_best_178 : decode cX12_best 178 = .ok (.invokevirtual 545, 3) := by decide +kernel
theorem dX12_best_181 : decode cX12_best 181 = .ok (.iinc 4 1, 3) := by decide +kernel
theorem dX12_best_184 : decode cX12_best 184 = .ok (.goto (-48), 3) := by decide +kernel
theorem dX12_best_187 : decode cX12_best 187 = .ok (.aload_n 0, 1) := by decide +kernel
theorem dX12_best_188 : decode cX12_best 188 = .ok (.iload_n 3, 1) := by decide +kernel
theorem dX12_best_189 : decode cX12_best 189 = .ok (.iconst 0, 1) := by decide +kernel
theorem dX12_best_190 : decode cX12_best 190 = .ok (.invokevirtual 545, 3) := by decide +kernel
theorem dX12_best_193 : decode cX12_best 193 = .ok (.iinc 3 1, 3) := by decide +kernel
theorem dX12_best_196 : decode cX12_best 196 = .ok (.goto (-101), 3) := by decide +kernel
theorem dX12_best_199 : decode cX12_best 199 = .ok (.iload_n 2, 1) := by decide +kernel
theorem dX12_best_200 : decode cX12_best 200 = .ok (.ifCond .ne 10, 3) := by decide +kernel
theorem dX12_best_203 : decode cX12_best 203 = .ok (.aload_n 0, 1) := by decide +kernel
theorem dX12_best_204 : decode cX12_best 204 = .ok (.getfield 524, 3) := by decide +kernel
theorem dX12_best_207 : decode cX12_best 207 = .ok (.goto 43, 3) := by decide +kernel
theorem dX12_best_210 : decode cX12_best 210 = .ok (.iload_n 2, 1) := by decide +kernel
theorem dX12_best_211 : decode cX12_best 211 = .ok (.iconst 1, 1) := by decide +kernel
theorem dX12_best_212 : decode cX12_best 212 = .ok (.if_icmp .ne 10, 3) := by decide +kernel
theorem dX12_best_215 : decode cX12_best 215 = .ok (.aload_n 0, 1) := by decide +kernel
theorem dX12_best_216 : decode cX12_best 216 = .ok (.getfield 533, 3) := by decide +kernel
theorem dX12_best_219 : decode cX12_best 219 = .ok (.goto 31, 3) := by decide +kernel
theorem dX12_best_222 : decode cX12_best 222 = .ok (.iload_n 2, 1) := by decide +kernel
theorem dX12_best_223 : decode cX12_best 223 = .ok (.iconst 2, 1) := by decide +kernel
theorem dX12_best_224 : decode cX12_best 224 = .ok (.if_icmp .ne 10, 3) := by decide +kernel
theorem dX12_best_227 : decode cX12_best 227 = .ok (.aload_n 0, 1) := by decide +kernel
theorem dX12_best_228 : decode cX12_best 228 = .ok (.getfield 536, 3) := by decide +kernel
theorem dX12_best_231 : decode cX12_best 231 = .ok (.goto 19, 3) := by decide +kernel
theorem dX12_best_234 : decode cX12_best 234 = .ok (.iload_n 2, 1) := by decide +kernel
theorem dX12_best_235 : decode cX12_best 235 = .ok (.iconst 3, 1) := by decide +kernel
theorem dX12_best_236 : decode cX12_best 236 = .ok (.if_icmp .ne 10, 3) := by decide +kernel
theorem dX12_best_239 : decode cX12_best 239 = .ok (.aload_n 0, 1) := by decide +kernel
theorem dX12_best_240 : decode cX12_best 240 = .ok (.getfield 527, 3) := by decide +kernel
theorem dX12_best_243 : decode cX12_best 243 = .ok (.goto 7, 3) := by decide +kernel
theorem dX12_best_246 : decode cX12_best 246 = .ok (.aload_n 0, 1) := by decide +kernel
theorem dX12_best_247 : decode cX12_best 247 = .ok (.getfield 530, 3) := by decide +kernel
theorem dX12_best_250 : decode cX12_best 250 = .ok (.ireturn, 1) := by decide +kernel
theorem dX12_wind_0 : decode cX12_wind 0 = .ok (.aload_n 0, 1) := by decide +kernel
theorem dX12_wind_1 : decode cX12_wind 1 = .ok (.iconst 0, 1) := by decide +kernel
theorem dX12_wind_2 : decode cX12_wind 2 = .ok (.putfield 208, 3) := by decide +kernel
theorem dX12_wind_5 : decode cX12_wind 5 = .ok (.iload_n 1, 1) := by decide +kernel
theorem dX12_wind_6 : decode cX12_wind 6 = .ok (.iconst 0, 1) := by decide +kernel
theorem dX12_wind_7 : decode cX12_wind 7 = .ok (.bipush 123, 2) := by decide +kernel
theorem dX12_wind_9 : decode cX12_wind 9 = .ok (.invokestatic 214, 3) := by decide +kernel
theorem dX12_wind_12 : decode cX12_wind 12 = .ok (.ifCond .eq 23, 3) := by decide +kernel
theorem dX12_wind_15 : decode cX12_wind 15 = .ok (.iload_n 2, 1) := by decide +kernel
theorem dX12_wind_16 : decode cX12_wind 16 = .ok (.iconst 0, 1) := by decide +kernel
theorem dX12_wind_17 : decode cX12_wind 17 = .ok (.bipush 7, 2) := by decide +kernel
theorem dX12_wind_19 : decode cX12_wind 19 = .ok (.invokestatic 214, 3) := by decide +kernel
theorem dX12_wind_22 : decode cX12_wind 22 = .ok (.ifCond .eq 13, 3) := by decide +kernel
theorem dX12_wind_25 : decode cX12_wind 25 = .ok (.iload_n 3, 1) := by decide +kernel
theorem dX12_wind_26 : decode cX12_wind 26 = .ok (.iconst 0, 1) := by decide +kernel
theorem dX12_wind_27 : decode cX12_wind 27 = .ok (.bipush 7, 2) := by decide +kernel
theorem dX12_wind_29 : decode cX12_wind 29 = .ok (.invokestatic 214, 3) := by decide +kernel
theorem dX12_wind_32 : decode cX12_wind 32 = .ok (.ifCond .ne 5, 3) := by decide +kernel
theorem dX12_wind_35 : decode cX12_wind 35 = .ok (.iconst 0, 1) := by decide +kernel
theorem dX12_wind_36 : decode cX12_wind 36 = .ok (.ireturn, 1) := by decide +kernel
theorem dX12_wind_37 : decode cX12_wind 37 = .ok (.aload_n 0, 1) := by decide +kernel
theorem dX12_wind_38 : decode cX12_wind 38 = .ok (.getfield 202, 3) := by decide +kernel
theorem dX12_wind_41 : decode cX12_wind 41 = .ok (.iload_n 1, 1) := by decide +kernel
theorem dX12_wind_42 : decode cX12_wind 42 = .ok (.iload_n 2, 1) := by decide +kernel
theorem dX12_wind_43 : decode cX12_wind 43 = .ok (.iastore, 1) := by decide +kernel
theorem dX12_wind_44 : decode cX12_wind 44 = .ok (.aload_n 0, 1) := by decide +kernel
theorem dX12_wind_45 : decode cX12_wind 45 = .ok (.getfield 205, 3) := by decide +kernel
theorem dX12_wind_48 : decode cX12_wind 48 = .ok (.iload_n 1, 1) := by decide +kernel
theorem dX12_wind_49 : decode cX12_wind 49 = .ok (.iload_n 3, 1) := by decide +kernel
theorem dX12_wind_50 : decode cX12_wind 50 = .ok (.iastore, 1) := by decide +kernel
theorem dX12_wind_51 : decode cX12_wind 51 = .ok (.iconst 1, 1) := by decide +kernel
theorem dX12_wind_52 : decode cX12_wind 52 = .ok (.ireturn, 1) := by decide +kernel
theorem dX12_stepX_0 : decode cX12_stepX 0 = .ok (.iload_n 0, 1) := by decide +kernel
theorem dX12_stepX_1 : decode cX12_stepX 1 = .ok (.ifCond .eq 14, 3) := by decide +kernel
theorem dX12_stepX_4 : decode cX12_stepX 4 = .ok (.iload_n 0, 1) := by decide +kernel
theorem dX12_stepX_5 : decode cX12_stepX 5 = .ok (.iconst 1, 1) := by decide +kernel
theorem dX12_stepX_6 : decode cX12_stepX 6 = .ok (.if_icmp .eq 9, 3) := by decide +kernel
theorem dX12_stepX_9 : decode cX12_stepX 9 = .ok (.iload_n 0, 1) := by decide +kernel
theorem dX12_stepX_10 : decode cX12_stepX 10 = .ok (.bipush 7, 2) := by decide +kernel
theorem dX12_stepX_12 : decode cX12_stepX 12 = .ok (.if_icmp .ne 7, 3) := by decide +kernel
theorem dX12_stepX_15 : decode cX12_stepX 15 = .ok (.iconst 1, 1) := by decide +kernel
theorem dX12_stepX_16 : decode cX12_stepX 16 = .ok (.goto 19, 3) := by decide +kernel
theorem dX12_stepX_19 : decode cX12_stepX 19 = .ok (.iload_n 0, 1) := by decide +kernel
theorem dX12_stepX_20 : decode cX12_stepX 20 = .ok (.iconst 2, 1) := by decide +kernel
theorem dX12_stepX_21 : decode cX12_stepX 21 = .ok (.if_icmp .eq 9, 3) := by decide +kernel
theorem dX12_stepX_24 : decode cX12_stepX 24 = .ok (.iload_n 0, 1) := by decide +kernel
theorem dX12_stepX_25 : decode cX12_stepX 25 = .ok (.bipush 6, 2) := by decide +kernel
theorem dX12_stepX_27 : decode cX12_stepX 27 = .ok (.if_icmp .ne 7, 3) := by decide +kernel
theorem dX12_stepX_30 : decode cX12_stepX 30 = .ok (.iconst 0, 1) := by decide +kernel
theorem dX12_stepX_31 : decode cX12_stepX 31 = .ok (.goto 4, 3) := by decide +kernel
theorem dX12_stepX_34 : decode cX12_stepX 34 = .ok (.iconst (-1), 1) := by decide +kernel
theorem dX12_stepX_35 : decode cX12_stepX 35 = .ok (.ireturn, 1) := by decide +kernel
theorem dX12_stepY_0 : decode cX12_stepY 0 = .ok (.iload_n 0, 1) := by decide +kernel
theorem dX12_stepY_1 : decode cX12_stepY 1 = .ok (.iconst 1, 1) := by decide +kernel
theorem dX12_stepY_2 : decode cX12_stepY 2 = .ok (.if_icmp .lt 12, 3) := by decide +kernel
theorem dX12_stepY_5 : decode cX12_stepY 5 = .ok (.iload_n 0, 1) := by decide +kernel
theorem dX12_stepY_6 : decode cX12_stepY 6 = .ok (.iconst 3, 1) := by decide +kernel
theorem dX12_stepY_7 : decode cX12_stepY 7 = .ok (.if_icmp .gt 7, 3) := by decide +kernel
theorem dX12_stepY_10 : decode cX12_stepY 10 = .ok (.iconst 1, 1) := by decide +kernel
theorem dX12_stepY_11 : decode cX12_stepY 11 = .ok (.goto 17, 3) := by decide +kernel
theorem dX12_stepY_14 : decode cX12_stepY 14 = .ok (.iload_n 0, 1) := by decide +kernel
theorem dX12_stepY_15 : decode cX12_stepY 15 = .ok (.ifCond .eq 8, 3) := by decide +kernel
theorem dX12_stepY_18 : decode cX12_stepY 18 = .ok (.iload_n 0, 1) := by decide +kernel
theorem dX12_stepY_19 : decode cX12_stepY 19 = .ok (.iconst 4, 1) := by decide +kernel
theorem dX12_stepY_20 : decode cX12_stepY 20 = .ok (.if_icmp .ne 7, 3) := by decide +kernel
theorem dX12_stepY_23 : decode cX12_stepY 23 = .ok (.iconst 0, 1) := by decide +kernel
theorem dX12_stepY_24 : decode cX12_stepY 24 = .ok (.goto 4, 3) := by decide +kernel
theorem dX12_stepY_27 : decode cX12_stepY 27 = .ok (.iconst (-1), 1) := by decide +kernel
theorem dX12_stepY_28 : decode cX12_stepY 28 = .ok (.ireturn, 1) := by decide +kernel
theorem dX12_ash_0 : decode cX12_ash 0 = .ok (.aload_n 0, 1) := by decide +kernel
theorem dX12_ash_1 : decode cX12_ash 1 = .ok (.iconst 0, 1) := by decide +kernel
theorem dX12_ash_2 : decode cX12_ash 2 = .ok (.putfield 208, 3) := by decide +kernel
theorem dX12_ash_5 : decode cX12_ash 5 = .ok (.aload_n 0, 1) := by decide +kernel
theorem dX12_ash_6 : decode cX12_ash 6 = .ok (.iload_n 1, 1) := by decide +kernel
theorem dX12_ash_7 : decode cX12_ash 7 = .ok (.invokevirtual 446, 3) := by decide +kernel
theorem dX12_ash_10 : decode cX12_ash 10 = .ok (.ifCond .eq 11, 3) := by decide +kernel
theorem dX12_ash_13 : decode cX12_ash 13 = .ok (.aload_n 0, 1) := by decide +kernel
theorem dX12_ash_14 : decode cX12_ash 14 = .ok (.iload_n 2, 1) := by decide +kernel
theorem dX12_ash_15 : decode cX12_ash 15 = .ok (.invokevirtual 423, 3) := by decide +kernel
theorem dX12_ash_18 : decode cX12_ash 18 = .ok (.ifCond .ne 5, 3) := by decide +kernel
theorem dX12_ash_21 : decode cX12_ash 21 = .ok (.iconst (-1), 1) := by decide +kernel
theorem dX12_ash_22 : decode cX12_ash 22 = .ok (.ireturn, 1) := by decide +kernel
theorem dX12_ash_23 : decode cX12_ash 23 = .ok (.iconst 0, 1) := by decide +kernel
theorem dX12_ash_24 : decode cX12_ash 24 = .ok (.istore_n 3, 1) := by decide +kernel
theorem dX12_ash_25 : decode cX12_ash 25 = .ok (.aload_n 0, 1) := by decide +kernel
theorem dX12_ash_26 : decode cX12_ash 26 = .ok (.getfield 109, 3) := by decide +kernel
theorem dX12_ash_29 : decode cX12_ash 29 = .ok (.iload_n 1, 1) := by decide +kernel
theorem dX12_ash_30 : decode cX12_ash 30 = .ok (.iaload, 1) := by decide +kernel
theorem dX12_ash_31 : decode cX12_ash 31 = .ok (.istore 4, 2) := by decide +kernel
theorem dX12_ash_33 : decode cX12_ash 33 = .ok (.iload 4, 2) := by decide +kernel
theorem dX12_ash_35 : decode cX12_ash 35 = .ok (.aload_n 0, 1) := by decide +kernel
theorem dX12_ash_36 : decode cX12_ash 36 = .ok (.getfield 109, 3) := by decide +kernel
theorem dX12_ash_39 : decode cX12_ash 39 = .ok (.iload_n 1, 1) := by decide +kernel
theorem dX12_ash_40 : decode cX12_ash 40 = .ok (.iaload, 1) := by decide +kernel
theorem dX12_ash_41 : decode cX12_ash 41 = .ok (.aload_n 0, 1) := by decide +kernel
theorem dX12_ash_42 : decode cX12_ash 42 = .ok (.getfield 118, 3) := by decide +kernel
theorem dX12_ash_45 : decode cX12_ash 45 = .ok (.iload_n 1, 1) := by decide +kernel
theorem dX12_ash_46 : decode cX12_ash 46 = .ok (.iaload, 1) := by decide +kernel
theorem dX12_ash_47 : decode cX12_ash 47 = .ok (.iadd, 1) := by decide +kernel
theorem dX12_ash_48 : decode cX12_ash 48 = .ok (.if_icmp .ge 122, 3) := by decide +kernel
theorem dX12_ash_51 : decode cX12_ash 51 = .ok (.iconst 0, 1) := by decide +kernel
theorem dX12_ash_52 : decode cX12_ash 52 = .ok (.istore 5, 2) := by decide +kernel
theorem dX12_ash_54 : decode cX12_ash 54 = .ok (.iload 5, 2) := by decide +kernel
theorem dX12_ash_56 : decode cX12_ash 56 = .ok (.aload_n 0, 1) := by decide +kernel
theorem dX12_ash_57 : decode cX12_ash 57 = .ok (.getfield 205, 3) := by decide +kernel
theorem dX12_ash_60 : decode cX12_ash 60 = .ok (.iload 4, 2) := by decide +kernel
theorem dX12_ash_62 : decode cX12_ash 62 = .ok (.iaload, 1) := by decide +kernel
theorem dX12_ash_63 : decode cX12_ash 63 = .ok (.if_icmp .gt 101, 3) := by decide +kernel
theorem dX12_ash_66 : decode cX12_ash 66 = .ok (.aload_n 0, 1) := by decide +kernel
theorem dX12_ash_67 : decode cX12_ash 67 = .ok (.getfield 112, 3) := by decide +kernel
theorem dX12_ash_70 : decode cX12_ash 70 = .ok (.iload_n 1, 1) := by decide +kernel
theorem dX12_ash_71 : decode cX12_ash 71 = .ok (.iaload, 1) := by decide +kernel
theorem dX12_ash_72 : decode cX12_ash 72 = .ok (.aload_n 0, 1) := by decide +kernel
theorem dX12_ash_73 : decode cX12_ash 73 = .ok (.getfield 91, 3) := by decide +kernel
theorem dX12_ash_76 : decode cX12_ash 76 = .ok (.irem, 1) := by decide +kernel
theorem dX12_ash_77 : decode cX12_ash 77 = .ok (.iload 5, 2) := by decide +kernel
theorem dX12_ash_79 : decode cX12_ash 79 = .ok (.aload_n 0, 1) := by decide +kernel
theorem dX12_ash_80 : decode cX12_ash 80 = .ok (.getfield 202, 3) := by decide +kernel
theorem dX12_ash_83 : decode cX12_ash 83 = .ok (.iload 4, 2) := by decide +kernel
theorem dX12_ash_85 : decode cX12_ash 85 = .ok (.iaload, 1) := by decide +kernel
theorem dX12_ash_86 : decode cX12_ash 86 = .ok (.invokestatic 549, 3) := by decide +kernel
theorem dX12_ash_89 : decode cX12_ash 89 = .ok (.imul, 1) := by decide +kernel
theorem dX12_ash_90 : decode cX12_ash 90 = .ok (.iadd, 1) := by decide +kernel
theorem dX12_ash_91 : decode cX12_ash 91 = .ok (.istore 6, 2) := by decide +kernel
theorem dX12_ash_93 : decode cX12_ash 93 = .ok (.aload_n 0, 1) := by decide +kernel
theorem dX12_ash_94 : decode cX12_ash 94 = .ok (.getfield 112, 3) := by decide +kernel
theorem dX12_ash_97 : decode cX12_ash 97 = .ok (.iload_n 1, 1) := by decide +kernel
theorem dX12_ash_98 : decode cX12_ash 98 = .ok (.iaload, 1) := by decide +kernel
theorem dX12_ash_99 : decode cX12_ash 99 = .ok (.aload_n 0, 1) := by decide +kernel
theorem dX12_ash_100 : decode cX12_ash 100 = .ok (.getfield 91, 3) := by decide +kernel
theorem dX12_ash_103 : decode cX12_ash 103 = .ok (.idiv, 1) := by decide +kernel
theorem dX12_ash_104 : decode cX12_ash 104 = .ok (.iload 5, 2) := by decide +kernel
theorem dX12_ash_106 : decode cX12_ash 106 = .ok (.aload_n 0, 1) := by decide +kernel
theorem dX12_ash_107 : decode cX12_ash 107 = .ok (.getfield 202, 3) := by decide +kernel
theorem dX12_ash_110 : decode cX12_ash 110 = .ok (.iload 4, 2) := by decide +kernel
theorem dX12_ash_112 : decode cX12_ash 112 = .ok (.iaload, 1) := by decide +kernel
theorem dX12_ash_113 : decode cX12_ash 113 = .ok (.invokestatic 552, 3) := by decide +kernel
theorem dX12_ash_116 : decode cX12_ash 116 = .ok (.imul, 1) := by decide +kernel
theorem dX12_ash_117 : decode cX12_ash 117 = .ok (.iadd, 1) := by decide +kernel
theorem dX12_ash_118 : decode cX12_ash 118 = .ok (.istore 7, 2) := by decide +kernel
theorem dX12_ash_120 : decode cX12_ash 120 = .ok (.iload_n 3, 1) := by decide +kernel
theorem dX12_ash_121 : decode cX12_ash 121 = .ok (.iload 6, 2) := by decide +kernel
theorem dX12_ash_123 : decode cX12_ash 123 = .ok (.iload_n 2, 1) := by decide +kernel
theorem dX12_ash_124 : decode cX12_ash 124 = .ok (.aload_n 0, 1) := by decide +kernel
theorem dX12_ash_125 : decode cX12_ash 125 = .ok (.getfield 91, 3) := by decide +kernel
theorem dX12_ash_128 : decode cX12_ash 128 = .ok (.irem, 1) := by decide +kernel
theorem dX12_ash_129 : decode cX12_ash 129 = .ok (.if_icmp .ne 26, 3) := by decide +kernel
theorem dX12_ash_132 : decode cX12_ash 132 = .ok (.iload 7, 2) := by decide +kernel
theorem dX12_ash_134 : decode cX12_ash 134 = .ok (.iload_n 2, 1) := by decide +kernel
theorem dX12_ash_135 : decode cX12_ash 135 = .ok (.aload_n 0, 1) := by decide +kernel
theorem dX12_ash_136 : decode cX12_ash 136 = .ok (.getfield 91, 3) := by decide +kernel
theorem dX12_ash_139 : decode cX12_ash 139 = .ok (.idiv, 1) := by decide +kernel
theorem dX12_ash_140 : decode cX12_ash 140 = .ok (.if_icmp .ne 15, 3) := by decide +kernel
theorem dX12_ash_143 : decode cX12_ash 143 = .ok (.aload_n 0, 1) := by decide +kernel
theorem dX12_ash_144 : decode cX12_ash 144 = .ok (.getfield 115, 3) := by decide +kernel
theorem dX12_ash_147 : decode cX12_ash 147 = .ok (.iload_n 1, 1) := by decide +kernel
theorem dX12_ash_148 : decode cX12_ash 148 = .ok (.iaload, 1) := by decide +kernel
theorem dX12_ash_149 : decode cX12_ash 149 = .ok (.iload 5, 2) := by decide +kernel
theorem dX12_ash_151 : decode cX12_ash 151 = .ok (.ishr, 1) := by decide +kernel
theorem dX12_ash_152 : decode cX12_ash 152 = .ok (.goto 4, 3) := by decide +kernel
theorem dX12_ash_155 : decode cX12_ash 155 = .ok (.iconst 0, 1) := by decide +kernel
theorem dX12_ash_156 : decode cX12_ash 156 = .ok (.iadd, 1) := by decide +kernel
theorem dX12_ash_157 : decode cX12_ash 157 = .ok (.istore_n 3, 1) := by decide +kernel
theorem dX12_ash_158 : decode cX12_ash 158 = .ok (.iinc 5 1, 3) := by decide +kernel
theorem dX12_ash_161 : decode cX12_ash 161 = .ok (.goto (-107), 3) := by decide +kernel
theorem dX12_ash_164 : decode cX12_ash 164 = .ok (.iinc 4 1, 3) := by decide +kernel
theorem dX12_ash_167 : decode cX12_ash 167 = .ok (.goto (-134), 3) := by decide +kernel
theorem dX12_ash_170 : decode cX12_ash 170 = .ok (.iload_n 3, 1) := by decide +kernel
theorem dX12_ash_171 : decode cX12_ash 171 = .ok (.ireturn, 1) := by decide +kernel
theorem dX12_throwsOut_0 : decode cX12_throwsOut 0 = .ok (.aload_n 0, 1) := by decide +kernel
theorem dX12_throwsOut_1 : decode cX12_throwsOut 1 = .ok (.iload_n 1, 1) := by decide +kernel
theorem dX12_throwsOut_2 : decode cX12_throwsOut 2 = .ok (.putfield 208, 3) := by decide +kernel
theorem dX12_throwsOut_5 : decode cX12_throwsOut 5 = .ok (.iconst 0, 1) := by decide +kernel
theorem dX12_throwsOut_6 : decode cX12_throwsOut 6 = .ok (.ireturn, 1) := by decide +kernel
theorem dX12_look_0 : decode cX12_look 0 = .ok (.aload_n 0, 1) := by decide +kernel
theorem dX12_look_1 : decode cX12_look 1 = .ok (.iconst 0, 1) := by decide +kernel
theorem dX12_look_2 : decode cX12_look 2 = .ok (.putfield 208, 3) := by decide +kernel
theorem dX12_look_5 : decode cX12_look 5 = .ok (.aload_n 0, 1) := by decide +kernel
theorem dX12_look_6 : decode cX12_look 6 = .ok (.iload_n 1, 1) := by decide +kernel
theorem dX12_look_7 : decode cX12_look 7 = .ok (.invokevirtual 423, 3) := by decide +kernel
theorem dX12_look_10 : decode cX12_look 10 = .ok (.ifCond .ne 9, 3) := by decide +kernel
theorem dX12_look_13 : decode cX12_look 13 = .ok (.aload_n 0, 1) := by decide +kernel
theorem dX12_look_14 : decode cX12_look 14 = .ok (.iconst 1, 1) := by decide +kernel
theorem dX12_look_15 : decode cX12_look 15 = .ok (.invokevirtual 555, 3) := by decide +kernel
theorem dX12_look_18 : decode cX12_look 18 = .ok (.ireturn, 1) := by decide +kernel
theorem dX12_look_19 : decode cX12_look 19 = .ok (.iload_n 2, 1) := by decide +kernel
theorem dX12_look_20 : decode cX12_look 20 = .ok (.ifCond .ne 12, 3) := by decide +kernel
theorem dX12_look_23 : decode cX12_look 23 = .ok (.aload_n 0, 1) := by decide +kernel
theorem dX12_look_24 : decode cX12_look 24 = .ok (.getfield 97, 3) := by decide +kernel
theorem dX12_look_27 : decode cX12_look 27 = .ok (.iload_n 1, 1) := by decide +kernel
theorem dX12_look_28 : decode cX12_look 28 = .ok (.iaload, 1) := by decide +kernel
theorem dX12_look_29 : decode cX12_look 29 = .ok (.goto 59, 3) := by decide +kernel
theorem dX12_look_32 : decode cX12_look 32 = .ok (.iload_n 2, 1) := by decide +kernel
theorem dX12_look_33 : decode cX12_look 33 = .ok (.iconst 1, 1) := by decide +kernel
theorem dX12_look_34 : decode cX12_look 34 = .ok (.if_icmp .ne 12, 3) := by decide +kernel
theorem dX12_look_37 : decode cX12_look 37 = .ok (.aload_n 0, 1) := by decide +kernel
theorem dX12_look_38 : decode cX12_look 38 = .ok (.getfield 100, 3) := by decide +kernel
theorem dX12_look_41 : decode cX12_look 41 = .ok (.iload_n 1, 1) := by decide +kernel
theorem dX12_look_42 : decode cX12_look 42 = .ok (.iaload, 1) := by decide +kernel
theorem dX12_look_43 : decode cX12_look 43 = .ok (.goto 45, 3) := by decide +kernel
theorem dX12_look_46 : decode cX12_look 46 = .ok (.iload_n 2, 1) := by decide +kernel
theorem dX12_look_47 : decode cX12_look 47 = .ok (.iconst 2, 1) := by decide +kernel
theorem dX12_look_48 : decode cX12_look 48 = .ok (.if_icmp .ne 35, 3) := by decide +kernel
theorem dX12_look_51 : decode cX12_look 51 = .ok (.aload_n 0, 1) := by decide +kernel
theorem dX12_look_52 : decode cX12_look 52 = .ok (.getfield 103, 3) := by decide +kernel
theorem dX12_look_55 : decode cX12_look 55 = .ok (.iload_n 1, 1) := by decide +kernel
theorem dX12_look_56 : decode cX12_look 56 = .ok (.baload, 1) := by decide +kernel
theorem dX12_look_57 : decode cX12_look 57 = .ok (.ifCond .eq 7, 3) := by decide +kernel
theorem dX12_look_60 : decode cX12_look 60 = .ok (.iconst 1, 1) := by decide +kernel
theorem dX12_look_61 : decode cX12_look 61 = .ok (.goto 4, 3) := by decide +kernel
theorem dX12_look_64 : decode cX12_look 64 = .ok (.iconst 0, 1) := by decide +kernel
theorem dX12_look_65 : decode cX12_look 65 = .ok (.aload_n 0, 1) := by decide +kernel
theorem dX12_look_66 : decode cX12_look 66 = .ok (.getfield 106, 3) := by decide +kernel
theorem dX12_look_69 : decode cX12_look 69 = .ok (.iload_n 1, 1) := by decide +kernel
theorem dX12_look_70 : decode cX12_look 70 = .ok (.baload, 1) := by decide +kernel
theorem dX12_look_71 : decode cX12_look 71 = .ok (.ifCond .eq 7, 3) := by decide +kernel
theorem dX12_look_74 : decode cX12_look 74 = .ok (.iconst 2, 1) := by decide +kernel
theorem dX12_look_75 : decode cX12_look 75 = .ok (.goto 4, 3) := by decide +kernel
theorem dX12_look_78 : decode cX12_look 78 = .ok (.iconst 0, 1) := by decide +kernel
theorem dX12_look_79 : decode cX12_look 79 = .ok (.iadd, 1) := by decide +kernel
theorem dX12_look_80 : decode cX12_look 80 = .ok (.goto 8, 3) := by decide +kernel
theorem dX12_look_83 : decode cX12_look 83 = .ok (.aload_n 0, 1) := by decide +kernel
theorem dX12_look_84 : decode cX12_look 84 = .ok (.iconst 2, 1) := by decide +kernel
theorem dX12_look_85 : decode cX12_look 85 = .ok (.invokevirtual 555, 3) := by decide +kernel
theorem dX12_look_88 : decode cX12_look 88 = .ok (.ireturn, 1) := by decide +kernel
theorem dX12_count_0 : decode cX12_count 0 = .ok (.aload_n 0, 1) := by decide +kernel
theorem dX12_count_1 : decode cX12_count 1 = .ok (.iconst 0, 1) := by decide +kernel
theorem dX12_count_2 : decode cX12_count 2 = .ok (.putfield 208, 3) := by decide +kernel
theorem dX12_count_5 : decode cX12_count 5 = .ok (.iload_n 1, 1) := by decide +kernel
theorem dX12_count_6 : decode cX12_count 6 = .ok (.tableswitch 113 0 10 #[58, 63, 68, 73, 78, 83, 88, 93, 98, 103, 108], 58) := by decide +kernel
theorem dX12_count_64 : decode cX12_count 64 = .ok (.aload_n 0, 1) := by decide +kernel
theorem dX12_count_65 : decode cX12_count 65 = .ok (.getfield 218, 3) := by decide +kernel
theorem dX12_count_68 : decode cX12_count 68 = .ok (.ireturn, 1) := by decide +kernel
theorem dX12_count_69 : decode cX12_count 69 = .ok (.aload_n 0, 1) := by decide +kernel
theorem dX12_count_70 : decode cX12_count 70 = .ok (.getfield 221, 3) := by decide +kernel
theorem dX12_count_73 : decode cX12_count 73 = .ok (.ireturn, 1) := by decide +kernel
theorem dX12_count_74 : decode cX12_count 74 = .ok (.aload_n 0, 1) := by decide +kernel
theorem dX12_count_75 : decode cX12_count 75 = .ok (.getfield 228, 3) := by decide +kernel
theorem dX12_count_78 : decode cX12_count 78 = .ok (.ireturn, 1) := by decide +kernel
theorem dX12_count_79 : decode cX12_count 79 = .ok (.aload_n 0, 1) := by decide +kernel
theorem dX12_count_80 : decode cX12_count 80 = .ok (.getfield 366, 3) := by decide +kernel
theorem dX12_count_83 : decode cX12_count 83 = .ok (.ireturn, 1) := by decide +kernel
theorem dX12_count_84 : decode cX12_count 84 = .ok (.aload_n 0, 1) := by decide +kernel
theorem dX12_count_85 : decode cX12_count 85 = .ok (.getfield 369, 3) := by decide +kernel
theorem dX12_count_88 : decode cX12_count 88 = .ok (.ireturn, 1) := by decide +kernel
theorem dX12_count_89 : decode cX12_count 89 = .ok (.aload_n 0, 1) := by decide +kernel
theorem dX12_count_90 : decode cX12_count 90 = .ok (.getfield 372, 3) := by decide +kernel
theorem dX12_count_93 : decode cX12_count 93 = .ok (.ireturn, 1) := by decide +kernel
theorem dX12_count_94 : decode cX12_count 94 = .ok (.aload_n 0, 1) := by decide +kernel
theorem dX12_count_95 : decode cX12_count 95 = .ok (.getfield 411, 3) := by decide +kernel
theorem dX12_count_98 : decode cX12_count 98 = .ok (.ireturn, 1) := by decide +kernel
theorem dX12_count_99 : decode cX12_count 99 = .ok (.aload_n 0, 1) := by decide +kernel
theorem dX12_count_100 : decode cX12_count 100 = .ok (.getfield 414, 3) := by decide +kernel
theorem dX12_count_103 : decode cX12_count 103 = .ok (.ireturn, 1) := by decide +kernel
theorem dX12_count_104 : decode cX12_count 104 = .ok (.aload_n 0, 1) := by decide +kernel
theorem dX12_count_105 : decode cX12_count 105 = .ok (.getfield 417, 3) := by decide +kernel
theorem dX12_count_108 : decode cX12_count 108 = .ok (.ireturn, 1) := by decide +kernel
theorem dX12_count_109 : decode cX12_count 109 = .ok (.aload_n 0, 1) := by decide +kernel
theorem dX12_count_110 : decode cX12_count 110 = .ok (.getfield 420, 3) := by decide +kernel
theorem dX12_count_113 : decode cX12_count 113 = .ok (.ireturn, 1) := by decide +kernel
theorem dX12_count_114 : decode cX12_count 114 = .ok (.aload_n 0, 1) := by decide +kernel
theorem dX12_count_115 : decode cX12_count 115 = .ok (.getfield 408, 3) := by decide +kernel
theorem dX12_count_118 : decode cX12_count 118 = .ok (.ireturn, 1) := by decide +kernel
theorem dX12_count_119 : decode cX12_count 119 = .ok (.iconst (-1), 1) := by decide +kernel
theorem dX12_count_120 : decode cX12_count 120 = .ok (.ireturn, 1) := by decide +kernel
