theorem dX12_thrown_0 : decode cX12_thrown 0 = .ok (.aload_n 0, 1) := by decide +kernel
theorem dX12_thrown_1 : decode cX12_thrown 1 = .ok (.getfield 208, 3) := by decide +kernel
theorem dX12_thrown_4 : decode cX12_thrown 4 = .ok (.ireturn, 1) := by decide +kernel
theorem dX12_feed_0 : decode cX12_feed 0 = .ok (.aload_n 0, 1) := by decide +kernel
theorem dX12_feed_1 : decode cX12_feed 1 = .ok (.iconst 0, 1) := by decide +kernel
theorem dX12_feed_2 : decode cX12_feed 2 = .ok (.putfield 208, 3) := by decide +kernel
theorem dX12_feed_5 : decode cX12_feed 5 = .ok (.aload_n 0, 1) := by decide +kernel
theorem dX12_feed_6 : decode cX12_feed 6 = .ok (.getfield 211, 3) := by decide +kernel
theorem dX12_feed_9 : decode cX12_feed 9 = .ok (.bipush 20, 2) := by decide +kernel
theorem dX12_feed_11 : decode cX12_feed 11 = .ok (.iadd, 1) := by decide +kernel
theorem dX12_feed_12 : decode cX12_feed 12 = .ok (.sipush 500, 3) := by decide +kernel
theorem dX12_feed_15 : decode cX12_feed 15 = .ok (.if_icmp .le 5, 3) := by decide +kernel
theorem dX12_feed_18 : decode cX12_feed 18 = .ok (.iconst (-1), 1) := by decide +kernel
theorem dX12_feed_19 : decode cX12_feed 19 = .ok (.ireturn, 1) := by decide +kernel
theorem dX12_feed_20 : decode cX12_feed 20 = .ok (.iconst 0, 1) := by decide +kernel
theorem dX12_feed_21 : decode cX12_feed 21 = .ok (.istore 6, 2) := by decide +kernel
theorem dX12_feed_23 : decode cX12_feed 23 = .ok (.iload 6, 2) := by decide +kernel
theorem dX12_feed_25 : decode cX12_feed 25 = .ok (.bipush 20, 2) := by decide +kernel
theorem dX12_feed_27 : decode cX12_feed 27 = .ok (.if_icmp .ge 86, 3) := by decide +kernel
theorem dX12_feed_30 : decode cX12_feed 30 = .ok (.iload 6, 2) := by decide +kernel
theorem dX12_feed_32 : decode cX12_feed 32 = .ok (.iconst 4, 1) := by decide +kernel
theorem dX12_feed_33 : decode cX12_feed 33 = .ok (.if_icmp .ge 7, 3) := by decide +kernel
theorem dX12_feed_36 : decode cX12_feed 36 = .ok (.iload_n 1, 1) := by decide +kernel
theorem dX12_feed_37 : decode cX12_feed 37 = .ok (.goto 39, 3) := by decide +kernel
theorem dX12_feed_40 : decode cX12_feed 40 = .ok (.iload 6, 2) := by decide +kernel
theorem dX12_feed_42 : decode cX12_feed 42 = .ok (.bipush 8, 2) := by decide +kernel
theorem dX12_feed_44 : decode cX12_feed 44 = .ok (.if_icmp .ge 7, 3) := by decide +kernel
theorem dX12_feed_47 : decode cX12_feed 47 = .ok (.iload_n 2, 1) := by decide +kernel
theorem dX12_feed_48 : decode cX12_feed 48 = .ok (.goto 28, 3) := by decide +kernel
theorem dX12_feed_51 : decode cX12_feed 51 = .ok (.iload 6, 2) := by decide +kernel
theorem dX12_feed_53 : decode cX12_feed 53 = .ok (.bipush 12, 2) := by decide +kernel
theorem dX12_feed_55 : decode cX12_feed 55 = .ok (.if_icmp .ge 7, 3) := by decide +kernel
theorem dX12_feed_58 : decode cX12_feed 58 = .ok (.iload_n 3, 1) := by decide +kernel
theorem dX12_feed_59 : decode cX12_feed 59 = .ok (.goto 17, 3) := by decide +kernel
theorem dX12_feed_62 : decode cX12_feed 62 = .ok (.iload 6, 2) := by decide +kernel
theorem dX12_feed_64 : decode cX12_feed 64 = .ok (.bipush 16, 2) := by decide +kernel
theorem dX12_feed_66 : decode cX12_feed 66 = .ok (.if_icmp .ge 8, 3) := by decide +kernel
theorem dX12_feed_69 : decode cX12_feed 69 = .ok (.iload 4, 2) := by decide +kernel
theorem dX12_feed_71 : decode cX12_feed 71 = .ok (.goto 5, 3) := by decide +kernel
theorem dX12_feed_74 : decode cX12_feed 74 = .ok (.iload 5, 2) := by decide +kernel
theorem dX12_feed_76 : decode cX12_feed 76 = .ok (.istore 7, 2) := by decide +kernel
theorem dX12_feed_78 : decode cX12_feed 78 = .ok (.aload_n 0, 1) := by decide +kernel
theorem dX12_feed_79 : decode cX12_feed 79 = .ok (.getfield 7, 3) := by decide +kernel
theorem dX12_feed_82 : decode cX12_feed 82 = .ok (.aload_n 0, 1) := by decide +kernel
theorem dX12_feed_83 : decode cX12_feed 83 = .ok (.getfield 211, 3) := by decide +kernel
theorem dX12_feed_86 : decode cX12_feed 86 = .ok (.iload 6, 2) := by decide +kernel
theorem dX12_feed_88 : decode cX12_feed 88 = .ok (.iadd, 1) := by decide +kernel
theorem dX12_feed_89 : decode cX12_feed 89 = .ok (.iload 7, 2) := by decide +kernel
theorem dX12_feed_91 : decode cX12_feed 91 = .ok (.bipush 24, 2) := by decide +kernel
theorem dX12_feed_93 : decode cX12_feed 93 = .ok (.bipush 8, 2) := by decide +kernel
theorem dX12_feed_95 : decode cX12_feed 95 = .ok (.iload 6, 2) := by decide +kernel
theorem dX12_feed_97 : decode cX12_feed 97 = .ok (.iconst 4, 1) := by decide +kernel
theorem dX12_feed_98 : decode cX12_feed 98 = .ok (.irem, 1) := by decide +kernel
theorem dX12_feed_99 : decode cX12_feed 99 = .ok (.imul, 1) := by decide +kernel
theorem dX12_feed_100 : decode cX12_feed 100 = .ok (.isub, 1) := by decide +kernel
theorem dX12_feed_101 : decode cX12_feed 101 = .ok (.ishr, 1) := by decide +kernel
theorem dX12_feed_102 : decode cX12_feed 102 = .ok (.sipush 255, 3) := by decide +kernel
theorem dX12_feed_105 : decode cX12_feed 105 = .ok (.iand, 1) := by decide +kernel
theorem dX12_feed_106 : decode cX12_feed 106 = .ok (.iastore, 1) := by decide +kernel
theorem dX12_feed_107 : decode cX12_feed 107 = .ok (.iinc 6 1, 3) := by decide +kernel
theorem dX12_feed_110 : decode cX12_feed 110 = .ok (.goto (-87), 3) := by decide +kernel
theorem dX12_feed_113 : decode cX12_feed 113 = .ok (.aload_n 0, 1) := by decide +kernel
theorem dX12_feed_114 : decode cX12_feed 114 = .ok (.dup, 1) := by decide +kernel
theorem dX12_feed_115 : decode cX12_feed 115 = .ok (.getfield 211, 3) := by decide +kernel
theorem dX12_feed_118 : decode cX12_feed 118 = .ok (.bipush 20, 2) := by decide +kernel
theorem dX12_feed_120 : decode cX12_feed 120 = .ok (.iadd, 1) := by decide +kernel
theorem dX12_feed_121 : decode cX12_feed 121 = .ok (.putfield 211, 3) := by decide +kernel
theorem dX12_feed_124 : decode cX12_feed 124 = .ok (.aload_n 0, 1) := by decide +kernel
theorem dX12_feed_125 : decode cX12_feed 125 = .ok (.getfield 211, 3) := by decide +kernel
theorem dX12_feed_128 : decode cX12_feed 128 = .ok (.ireturn, 1) := by decide +kernel
theorem dX12_isIn_0 : decode cX12_isIn 0 = .ok (.iload_n 0, 1) := by decide +kernel
theorem dX12_isIn_1 : decode cX12_isIn 1 = .ok (.iload_n 1, 1) := by decide +kernel
theorem dX12_isIn_2 : decode cX12_isIn 2 = .ok (.if_icmp .lt 12, 3) := by decide +kernel
theorem dX12_isIn_5 : decode cX12_isIn 5 = .ok (.iload_n 0, 1) := by decide +kernel
theorem dX12_isIn_6 : decode cX12_isIn 6 = .ok (.iload_n 2, 1) := by decide +kernel
theorem dX12_isIn_7 : decode cX12_isIn 7 = .ok (.if_icmp .gt 7, 3) := by decide +kernel
theorem dX12_isIn_10 : decode cX12_isIn 10 = .ok (.iconst 1, 1) := by decide +kernel
theorem dX12_isIn_11 : decode cX12_isIn 11 = .ok (.goto 4, 3) := by decide +kernel
theorem dX12_isIn_14 : decode cX12_isIn 14 = .ok (.iconst 0, 1) := by decide +kernel
theorem dX12_isIn_15 : decode cX12_isIn 15 = .ok (.ireturn, 1) := by decide +kernel
theorem dX12_isHour_0 : decode cX12_isHour 0 = .ok (.iload_n 0, 1) := by decide +kernel
theorem dX12_isHour_1 : decode cX12_isHour 1 = .ok (.ifCond .lt 13, 3) := by decide +kernel
theorem dX12_isHour_4 : decode cX12_isHour 4 = .ok (.iload_n 0, 1) := by decide +kernel
theorem dX12_isHour_5 : decode cX12_isHour 5 = .ok (.bipush 99, 2) := by decide +kernel
theorem dX12_isHour_7 : decode cX12_isHour 7 = .ok (.if_icmp .gt 7, 3) := by decide +kernel
theorem dX12_isHour_10 : decode cX12_isHour 10 = .ok (.iconst 1, 1) := by decide +kernel
theorem dX12_isHour_11 : decode cX12_isHour 11 = .ok (.goto 4, 3) := by decide +kernel
theorem dX12_isHour_14 : decode cX12_isHour 14 = .ok (.iconst 0, 1) := by decide +kernel
theorem dX12_isHour_15 : decode cX12_isHour 15 = .ok (.ireturn, 1) := by decide +kernel
theorem dX12_hours_0 : decode cX12_hours 0 = .ok (.aload_n 0, 1) := by decide +kernel
theorem dX12_hours_1 : decode cX12_hours 1 = .ok (.iconst 0, 1) := by decide +kernel
theorem dX12_hours_2 : decode cX12_hours 2 = .ok (.putfield 208, 3) := by decide +kernel
theorem dX12_hours_5 : decode cX12_hours 5 = .ok (.iload_n 1, 1) := by decide +kernel
theorem dX12_hours_6 : decode cX12_hours 6 = .ok (.iconst 0, 1) := by decide +kernel
theorem dX12_hours_7 : decode cX12_hours 7 = .ok (.bipush 99, 2) := by decide +kernel
theorem dX12_hours_9 : decode cX12_hours 9 = .ok (.invokestatic 214, 3) := by decide +kernel
theorem dX12_hours_12 : decode cX12_hours 12 = .ok (.ifCond .eq 14, 3) := by decide +kernel
theorem dX12_hours_15 : decode cX12_hours 15 = .ok (.aload_n 0, 1) := by decide +kernel
theorem dX12_hours_16 : decode cX12_hours 16 = .ok (.getfield 218, 3) := by decide +kernel
theorem dX12_hours_19 : decode cX12_hours 19 = .ok (.iload_n 1, 1) := by decide +kernel
theorem dX12_hours_20 : decode cX12_hours 20 = .ok (.iadd, 1) := by decide +kernel
theorem dX12_hours_21 : decode cX12_hours 21 = .ok (.bipush 99, 2) := by decide +kernel
theorem dX12_hours_23 : decode cX12_hours 23 = .ok (.if_icmp .le 5, 3) := by decide +kernel
theorem dX12_hours_26 : decode cX12_hours 26 = .ok (.iconst (-1), 1) := by decide +kernel
theorem dX12_hours_27 : decode cX12_hours 27 = .ok (.ireturn, 1) := by decide +kernel
theorem dX12_hours_28 : decode cX12_hours 28 = .ok (.aload_n 0, 1) := by decide +kernel
theorem dX12_hours_29 : decode cX12_hours 29 = .ok (.dup, 1) := by decide +kernel
theorem dX12_hours_30 : decode cX12_hours 30 = .ok (.getfield 218, 3) := by decide +kernel
theorem dX12_hours_33 : decode cX12_hours 33 = .ok (.iload_n 1, 1) := by decide +kernel
theorem dX12_hours_34 : decode cX12_hours 34 = .ok (.iadd, 1) := by decide +kernel
theorem dX12_hours_35 : decode cX12_hours 35 = .ok (.putfield 218, 3) := by decide +kernel
theorem dX12_hours_38 : decode cX12_hours 38 = .ok (.aload_n 0, 1) := by decide +kernel
theorem dX12_hours_39 : decode cX12_hours 39 = .ok (.getfield 218, 3) := by decide +kernel
theorem dX12_hours_42 : decode cX12_hours 42 = .ok (.ireturn, 1) := by decide +kernel
theorem dX12_post_0 : decode cX12_post 0 = .ok (.aload_n 0, 1) := by decide +kernel
theorem dX12_post_1 : decode cX12_post 1 = .ok (.iconst 0, 1) := by decide +kernel
theorem dX12_post_2 : decode cX12_post 2 = .ok (.putfield 208, 3) := by decide +kernel
theorem dX12_post_5 : decode cX12_post 5 = .ok (.aload_n 0, 1) := by decide +kernel
theorem dX12_post_6 : decode cX12_post 6 = .ok (.getfield 221, 3) := by decide +kernel
theorem dX12_post_9 : decode cX12_post 9 = .ok (.bipush 8, 2) := by decide +kernel
theorem dX12_post_11 : decode cX12_post 11 = .ok (.if_icmp .eq 12, 3) := by decide +kernel
theorem dX12_post_14 : decode cX12_post 14 = .ok (.iload_n 1, 1) := by decide +kernel
theorem dX12_post_15 : decode cX12_post 15 = .ok (.iconst 0, 1) := by decide +kernel
theorem dX12_post_16 : decode cX12_post 16 = .ok (.iconst 3, 1) := by decide +kernel
theorem dX12_post_17 : decode cX12_post 17 = .ok (.invokestatic 214, 3) := by decide +kernel
theorem dX12_post_20 : decode cX12_post 20 = .ok (.ifCond .ne 5, 3) := by decide +kernel
theorem dX12_post_23 : decode cX12_post 23 = .ok (.iconst (-1), 1) := by decide +kernel
theorem dX12_post_24 : decode cX12_post 24 = .ok (.ireturn, 1) := by decide +kernel
theorem dX12_post_25 : decode cX12_post 25 = .ok (.aload_n 0, 1) := by decide +kernel
theorem dX12_post_26 : decode cX12_post 26 = .ok (.getfield 13, 3) := by decide +kernel
theorem dX12_post_29 : decode cX12_post 29 = .ok (.aload_n 0, 1) := by decide +kernel
theorem dX12_post_30 : decode cX12_post 30 = .ok (.getfield 221, 3) := by decide +kernel
theorem dX12_post_33 : decode cX12_post 33 = .ok (.iload_n 1, 1) := by decide +kernel
theorem dX12_post_34 : decode cX12_post 34 = .ok (.iastore, 1) := by decide +kernel
theorem dX12_post_35 : decode cX12_post 35 = .ok (.aload_n 0, 1) := by decide +kernel
theorem dX12_post_36 : decode cX12_post 36 = .ok (.dup, 1) := by decide +kernel
theorem dX12_post_37 : decode cX12_post 37 = .ok (.getfield 221, 3) := by decide +kernel
theorem dX12_post_40 : decode cX12_post 40 = .ok (.iconst 1, 1) := by decide +kernel
theorem dX12_post_41 : decode cX12_post 41 = .ok (.iadd, 1) := by decide +kernel
theorem dX12_post_42 : decode cX12_post 42 = .ok (.putfield 221, 3) := by decide +kernel
theorem dX12_post_45 : decode cX12_post 45 = .ok (.aload_n 0, 1) := by decide +kernel
theorem dX12_post_46 : decode cX12_post 46 = .ok (.getfield 221, 3) := by decide +kernel
theorem dX12_post_49 : decode cX12_post 49 = .ok (.iconst 1, 1) := by decide +kernel
theorem dX12_post_50 : decode cX12_post 50 = .ok (.isub, 1) := by decide +kernel
theorem dX12_post_51 : decode cX12_post 51 = .ok (.ireturn, 1) := by decide +kernel
theorem dX12_isPost_0 : decode cX12_isPost 0 = .ok (.iload_n 1, 1) := by decide +kernel
theorem dX12_isPost_1 : decode cX12_isPost 1 = .ok (.ifCond .lt 15, 3) := by decide +kernel
theorem dX12_isPost_4 : decode cX12_isPost 4 = .ok (.iload_n 1, 1) := by decide +kernel
theorem dX12_isPost_5 : decode cX12_isPost 5 = .ok (.aload_n 0, 1) := by decide +kernel
theorem dX12_isPost_6 : decode cX12_isPost 6 = .ok (.getfield 221, 3) := by decide +kernel
theorem dX12_isPost_9 : decode cX12_isPost 9 = .ok (.if_icmp .ge 7, 3) := by decide +kernel
theorem dX12_isPost_12 : decode cX12_isPost 12 = .ok (.iconst 1, 1) := by decide +kernel
theorem dX12_isPost_13 : decode cX12_isPost 13 = .ok (.goto 4, 3) := by decide +kernel
theorem dX12_isPost_16 : decode cX12_isPost 16 = .ok (.iconst 0, 1) := by decide +kernel
theorem dX12_isPost_17 : decode cX12_isPost 17 = .ok (.ireturn, 1) := by decide +kernel
theorem dX12_read_0 : decode cX12_read 0 = .ok (.aload_n 0, 1) := by decide +kernel
theorem dX12_read_1 : decode cX12_read 1 = .ok (.iconst 0, 1) := by decide +kernel
theorem dX12_read_2 : decode cX12_read 2 = .ok (.putfield 208, 3) := by decide +kernel
theorem dX12_read_5 : decode cX12_read 5 = .ok (.aload_n 0, 1) := by decide +kernel
theorem dX12_read_6 : decode cX12_read 6 = .ok (.iload_n 1, 1) := by decide +kernel
theorem dX12_read_7 : decode cX12_read 7 = .ok (.invokevirtual 224, 3) := by decide +kernel
theorem dX12_read_10 : decode cX12_read 10 = .ok (.ifCond .eq 43, 3) := by decide +kernel
theorem dX12_read_13 : decode cX12_read 13 = .ok (.iload_n 2, 1) := by decide +kernel
theorem dX12_read_14 : decode cX12_read 14 = .ok (.iconst 0, 1) := by decide +kernel
theorem dX12_read_15 : decode cX12_read 15 = .ok (.aload_n 0, 1) := by decide +kernel
theorem dX12_read_16 : decode cX12_read 16 = .ok (.getfield 218, 3) := by decide +kernel
theorem dX12_read_19 : decode cX12_read 19 = .ok (.invokestatic 214, 3) := by decide +kernel
theorem dX12_read_22 : decode cX12_read 22 = .ok (.ifCond .eq 31, 3) := by decide +kernel
theorem dX12_read_25 : decode cX12_read 25 = .ok (.iload 4, 2) := by decide +kernel
theorem dX12_read_27 : decode cX12_read 27 = .ok (.ifCond .ne 16, 3) := by decide +kernel
theorem dX12_read_30 : decode cX12_read 30 = .ok (.iload_n 3, 1) := by decide +kernel
theorem dX12_read_31 : decode cX12_read 31 = .ok (.sipush (-9999), 3) := by decide +kernel
theorem dX12_read_34 : decode cX12_read 34 = .ok (.sipush 9999, 3) := by decide +kernel
theorem dX12_read_37 : decode cX12_read 37 = .ok (.invokestatic 214, 3) := by decide +kernel
theorem dX12_read_40 : decode cX12_read 40 = .ok (.ifCond .eq 13, 3) := by decide +kernel
theorem dX12_read_43 : decode cX12_read 43 = .ok (.aload_n 0, 1) := by decide +kernel
theorem dX12_read_44 : decode cX12_read 44 = .ok (.getfield 228, 3) := by decide +kernel
theorem dX12_read_47 : decode cX12_read 47 = .ok (.sipush 400, 3) := by decide +kernel
theorem dX12_read_50 : decode cX12_read 50 = .ok (.if_icmp .ne 5, 3) := by decide +kernel
theorem dX12_read_53 : decode cX12_read 53 = .ok (.iconst (-1), 1) := by decide +kernel
theorem dX12_read_54 : decode cX12_read 54 = .ok (.ireturn, 1) := by decide +kernel
theorem dX12_read_55 : decode cX12_read 55 = .ok (.aload_n 0, 1) := by decide +kernel
theorem dX12_read_56 : decode cX12_read 56 = .ok (.getfield 16, 3) := by decide +kernel
theorem dX12_read_59 : decode cX12_read 59 = .ok (.aload_n 0, 1) := by decide +kernel
theorem dX12_read_60 : decode cX12_read 60 = .ok (.getfield 228, 3) := by decide +kernel
theorem dX12_read_63 : decode cX12_read 63 = .ok (.iload_n 1, 1) := by decide +kernel
theorem dX12_read_64 : decode cX12_read 64 = .ok (.iastore, 1) := by decide +kernel
theorem dX12_read_65 : decode cX12_read 65 = .ok (.aload_n 0, 1) := by decide +kernel
theorem dX12_read_66 : decode cX12_read 66 = .ok (.getfield 19, 3) := by decide +kernel
theorem dX12_read_69 : decode cX12_read 69 = .ok (.aload_n 0, 1) := by decide +kernel
theorem dX12_read_70 : decode cX12_read 70 = .ok (.getfield 228, 3) := by decide +kernel
theorem dX12_read_73 : decode cX12_read 73 = .ok (.iload_n 2, 1) := by decide +kernel
theorem dX12_read_74 : decode cX12_read 74 = .ok (.iastore, 1) := by decide +kernel
theorem dX12_read_75 : decode cX12_read 75 = .ok (.aload_n 0, 1) := by decide +kernel
theorem dX12_read_76 : decode cX12_read 76 = .ok (.getfield 22, 3) := by decide +kernel
theorem dX12_read_79 : decode cX12_read 79 = .ok (.aload_n 0, 1) := by decide +kernel
theorem dX12_read_80 : decode cX12_read 80 = .ok (.getfield 228, 3) := by decide +kernel
theorem dX12_read_83 : decode cX12_read 83 = .ok (.iload 4, 2) := by decide +kernel
theorem dX12_read_85 : decode cX12_read 85 = .ok (.ifCond .eq 7, 3) := by decide +kernel
theorem dX12_read_88 : decode cX12_read 88 = .ok (.iconst 0, 1) := by decide +kernel
theorem dX12_read_89 : decode cX12_read 89 = .ok (.goto 4, 3) := by decide +kernel
theorem dX12_read_92 : decode cX12_read 92 = .ok (.iload_n 3, 1) := by decide +kernel
theorem dX12_read_93 : decode cX12_read 93 = .ok (.iastore, 1) := by decide +kernel
theorem dX12_read_94 : decode cX12_read 94 = .ok (.aload_n 0, 1) := by decide +kernel
theorem dX12_read_95 : decode cX12_read 95 = .ok (.getfield 28, 3) := by decide +kernel
theorem dX12_read_98 : decode cX12_read 98 = .ok (.aload_n 0, 1) := by decide +kernel
theorem dX12_read_99 : decode cX12_read 99 = .ok (.getfield 228, 3) := by decide +kernel
theorem dX12_read_102 : decode cX12_read 102 = .ok (.iload 4, 2) := by decide +kernel
theorem dX12_read_104 : decode cX12_read 104 = .ok (.bastore, 1) := by decide +kernel
theorem dX12_read_105 : decode cX12_read 105 = .ok (.aload_n 0, 1) := by decide +kernel
theorem dX12_read_106 : decode cX12_read 106 = .ok (.getfield 25, 3) := by decide +kernel
theorem dX12_read_109 : decode cX12_read 109 = .ok (.aload_n 0, 1) := by decide +kernel
theorem dX12_read_110 : decode cX12_read 110 = .ok (.getfield 228, 3) := by decide +kernel
theorem dX12_read_113 : decode cX12_read 113 = .ok (.aload_n 0, 1) := by decide +kernel
theorem dX12_read_114 : decode cX12_read 114 = .ok (.getfield 218, 3) := by decide +kernel
theorem dX12_read_117 : decode cX12_read 117 = .ok (.iastore, 1) := by decide +kernel
theorem dX12_read_118 : decode cX12_read 118 = .ok (.aload_n 0, 1) := by decide +kernel
theorem dX12_read_119 : decode cX12_read 119 = .ok (.dup, 1) := by decide +kernel
theorem dX12_read_120 : decode cX12_read 120 = .ok (.getfield 228, 3) := by decide +kernel
theorem dX12_read_123 : decode cX12_read 123 = .ok (.iconst 1, 1) := by decide +kernel
theorem dX12_read_124 : decode cX12_read 124 = .ok (.iadd, 1) := by decide +kernel
theorem dX12_read_125 : decode cX12_read 125 = .ok (.putfield 228, 3) := by decide +kernel
theorem dX12_read_128 : decode cX12_read 128 = .ok (.aload_n 0, 1) := by decide +kernel
theorem dX12_read_129 : decode cX12_read 129 = .ok (.getfield 228, 3) := by decide +kernel
theorem dX12_read_132 : decode cX12_read 132 = .ok (.ireturn, 1) := by decide +kernel
theorem dX12_know_0 : decode cX12_know 0 = .ok (.iconst 0, 1) := by decide +kernel
theorem dX12_know_1 : decode cX12_know 1 = .ok (.istore_n 2, 1) := by decide +kernel
theorem dX12_know_2 : decode cX12_know 2 = .ok (.iload_n 2, 1) := by decide +kernel
theorem dX12_know_3 : decode cX12_know 3 = .ok (.sipush 800, 3) := by decide +kernel
theorem dX12_know_6 : decode cX12_know 6 = .ok (.if_icmp .ge 16, 3) := by decide +kernel
theorem dX12_know_9 : decode cX12_know 9 = .ok (.aload_n 0, 1) := by decide +kernel
theorem dX12_know_10 : decode cX12_know 10 = .ok (.getfield 32, 3) := by decide +kernel
theorem dX12_know_13 : decode cX12_know 13 = .ok (.iload_n 2, 1) := by decide +kernel
theorem dX12_know_14 : decode cX12_know 14 = .ok (.iconst 0, 1) := by decide +kernel
theorem dX12_know_15 : decode cX12_know 15 = .ok (.bastore, 1) := by decide +kernel
theorem dX12_know_16 : decode cX12_know 16 = .ok (.iinc 2 1, 3) := by decide +kernel
theorem dX12_know_19 : decode cX12_know 19 = .ok (.goto (-17), 3) := by decide +kernel
theorem dX12_know_22 : decode cX12_know 22 = .ok (.iconst 0, 1) := by decide +kernel
theorem dX12_know_23 : decode cX12_know 23 = .ok (.istore_n 2, 1) := by decide +kernel
theorem dX12_know_24 : decode cX12_know 24 = .ok (.iload_n 2, 1) := by decide +kernel
theorem dX12_know_25 : decode cX12_know 25 = .ok (.aload_n 0, 1) := by decide +kernel
theorem dX12_know_26 : decode cX12_know 26 = .ok (.getfield 228, 3) := by decide +kernel
theorem dX12_know_29 : decode cX12_know 29 = .ok (.if_icmp .ge 71, 3) := by decide +kernel
theorem dX12_know_32 : decode cX12_know 32 = .ok (.aload_n 0, 1) := by decide +kernel
theorem dX12_know_33 : decode cX12_know 33 = .ok (.getfield 25, 3) := by decide +kernel
theorem dX12_know_36 : decode cX12_know 36 = .ok (.iload_n 2, 1) := by decide +kernel
theorem dX12_know_37 : decode cX12_know 37 = .ok (.iaload, 1) := by decide +kernel
theorem dX12_know_38 : decode cX12_know 38 = .ok (.iload_n 1, 1) := by decide +kernel
theorem dX12_know_39 : decode cX12_know 39 = .ok (.if_icmp .le 6, 3) := by decide +kernel
theorem dX12_know_42 : decode cX12_know 42 = .ok (.goto 52, 3) := by decide +kernel
theorem dX12_know_45 : decode cX12_know 45 = .ok (.bipush 100, 2) := by decide +kernel
theorem dX12_know_47 : decode cX12_know 47 = .ok (.aload_n 0, 1) := by decide +kernel
theorem dX12_know_48 : decode cX12_know 48 = .ok (.getfield 16, 3) := by decide +kernel
theorem dX12_know_51 : decode cX12_know 51 = .ok (.iload_n 2, 1) := by decide +kernel
theorem dX12_know_52 : decode cX12_know 52 = .ok (.iaload, 1) := by decide +kernel
theorem dX12_know_53 : decode cX12_know 53 = .ok (.imul, 1) := by decide +kernel
theorem dX12_know_54 : decode cX12_know 54 = .ok (.aload_n 0, 1) := by decide +kernel
theorem dX12_know_55 : decode cX12_know 55 = .ok (.getfield 19, 3) := by decide +kernel
theorem dX12_know_58 : decode cX12_know 58 = .ok (.iload_n 2, 1) := by decide +kernel
theorem dX12_know_59 : decode cX12_know 59 = .ok (.iaload, 1) := by decide +kernel
theorem dX12_know_60 : decode cX12_know 60 = .ok (.iadd, 1) := by decide +kernel
theorem dX12_know_61 : decode cX12_know 61 = .ok (.istore_n 3, 1) := by decide +kernel
theorem dX12_know_62 : decode cX12_know 62 = .ok (.aload_n 0, 1) := by decide +kernel
theorem dX12_know_63 : decode cX12_know 63 = .ok (.getfield 32, 3) := by decide +kernel
theorem dX12_know_66 : decode cX12_know 66 = .ok (.iload_n 3, 1) := by decide +kernel
theorem dX12_know_67 : decode cX12_know 67 = .ok (.aload_n 0, 1) := by decide +kernel
theorem dX12_know_68 : decode cX12_know 68 = .ok (.getfield 28, 3) := by decide +kernel
theorem dX12_know_71 : decode cX12_know 71 = .ok (.iload_n 2, 1) := by decide +kernel
theorem dX12_know_72 : decode cX12_know 72 = .ok (.baload, 1) := by decide +kernel
theorem dX12_know_73 : decode cX12_know 73 = .ok (.ifCond .ne 7, 3) := by decide +kernel
theorem dX12_know_76 : decode cX12_know 76 = .ok (.iconst 1, 1) := by decide +kernel
theorem dX12_know_77 : decode cX12_know 77 = .ok (.goto 4, 3) := by decide +kernel
theorem dX12_know_80 : decode cX12_know 80 = .ok (.iconst 0, 1) := by decide +kernel
theorem dX12_know_81 : decode cX12_know 81 = .ok (.bastore, 1) := by decide +kernel
theorem dX12_know_82 : decode cX12_know 82 = .ok (.aload_n 0, 1) := by decide +kernel
theorem dX12_know_83 : decode cX12_know 83 = .ok (.getfield 35, 3) := by decide +kernel
theorem dX12_know_86 : decode cX12_know 86 = .ok (.iload_n 3, 1) := by decide +kernel
theorem dX12_know_87 : decode cX12_know 87 = .ok (.aload_n 0, 1) := by decide +kernel
theorem dX12_know_88 : decode cX12_know 88 = .ok (.getfield 22, 3) := by decide +kernel
theorem dX12_know_91 : decode cX12_know 91 = .ok (.iload_n 2, 1) := by decide +kernel
theorem dX12_know_92 : decode cX12_know 92 = .ok (.iaload, 1) := by decide +kernel
theorem dX12_know_93 : decode cX12_know 93 = .ok (.iastore, 1) := by decide +kernel
theorem dX12_know_94 : decode cX12_know 94 = .ok (.iinc 2 1, 3) := by decide +kernel
theorem dX12_know_97 : decode cX12_know 97 = .ok (.goto (-73), 3) := by decide +kernel
theorem dX12_know_100 : decode cX12_know 100 = .ok (.return_, 1) := by decide +kernel
theorem dX12_reading_0 : decode cX12_reading 0 = .ok (.aload_n 0, 1) := by decide +kernel
theorem dX12_reading_1 : decode cX12_reading 1 = .ok (.iconst 0, 1) := by decide +kernel
theorem dX12_reading_2 : decode cX12_reading 2 = .ok (.putfield 208, 3) := by decide +kernel
theorem dX12_reading_5 : decode cX12_reading 5 = .ok (.aload_n 0, 1) := by decide +kernel
theorem dX12_reading_6 : decode cX12_reading 6 = .ok (.iload_n 1, 1) := by decide +kernel
theorem dX12_reading_7 : decode cX12_reading 7 = .ok (.invokevirtual 224, 3) := by decide +kernel
theorem dX12_reading_10 : decode cX12_reading 10 = .ok (.ifCond .eq 17, 3) := by decide +kernel
theorem dX12_reading_13 : decode cX12_reading 13 = .ok (.iload_n 2, 1) := by decide +kernel
theorem dX12_reading_14 : decode cX12_reading 14 = .ok (.invokestatic 231, 3) := by decide +kernel
theorem dX12_reading_17 : decode cX12_reading 17 = .ok (.ifCond .eq 10, 3) := by decide +kernel
theorem dX12_reading_20 : decode cX12_reading 20 = .ok (.iload_n 3, 1) := by decide +kernel
theorem dX12_reading_21 : decode cX12_reading 21 = .ok (.invokestatic 231, 3) := by decide +kernel
theorem dX12_reading_24 : decode cX12_reading 24 = .ok (.ifCond .ne 7, 3) := by decide +kernel
theorem dX12_reading_27 : decode cX12_reading 27 = .ok (.sipush (-20000), 3) := by decide +kernel
theorem dX12_reading_30 : decode cX12_reading 30 = .ok (.ireturn, 1) := by decide +kernel
theorem dX12_reading_31 : decode cX12_reading 31 = .ok (.aload_n 0, 1) := by decide +kernel
theorem dX12_reading_32 : decode cX12_reading 32 = .ok (.iload_n 3, 1) := by decide +kernel
theorem dX12_reading_33 : decode cX12_reading 33 = .ok (.invokevirtual 234, 3) := by decide +kernel
theorem dX12_reading_36 : decode cX12_reading 36 = .ok (.aload_n 0, 1) := by decide +kernel
theorem dX12_reading_37 : decode cX12_reading 37 = .ok (.getfield 32, 3) := by decide +kernel
theorem dX12_reading_40 : decode cX12_reading 40 = .ok (.bipush 100, 2) := by decide +kernel
theorem dX12_reading_42 : decode cX12_reading 42 = .ok (.iload_n 1, 1) := by decide +kernel
theorem dX12_reading_43 : decode cX12_reading 43 = .ok (.imul, 1) := by decide +kernel
theorem dX12_reading_44 : decode cX12_reading 44 = .ok (.iload_n 2, 1) := by decide +kernel
theorem dX12_reading_45 : decode cX12_reading 45 = .ok (.iadd, 1) := by decide +kernel
theorem dX12_reading_46 : decode cX12_reading 46 = .ok (.baload, 1) := by decide +kernel
theorem dX12_reading_47 : decode cX12_reading 47 = .ok (.ifCond .eq 17, 3) := by decide +kernel
theorem dX12_reading_50 : decode cX12_reading 50 = .ok (.aload_n 0, 1) := by decide +kernel
theorem dX12_reading_51 : decode cX12_reading 51 = .ok (.getfield 35, 3) := by decide +kernel
theorem dX12_reading_54 : decode cX12_reading 54 = .ok (.bipush 100, 2) := by decide +kernel
theorem dX12_reading_56 : decode cX12_reading 56 = .ok (.iload_n 1, 1) := by decide +kernel
theorem dX12_reading_57 : decode cX12_reading 57 = .ok (.imul, 1) := by decide +kernel
theorem dX12_reading_58 : decode cX12_reading 58 = .ok (.iload_n 2, 1) := by decide +kernel
theorem dX12_reading_59 : decode cX12_reading 59 = .ok (.iadd, 1) := by decide +kernel
theorem dX12_reading_60 : decode cX12_reading 60 = .ok (.iaload, 1) := by decide +kernel
theorem dX12_reading_61 : decode cX12_reading 61 = .ok (.goto 6, 3) := by decide +kernel
theorem dX12_reading_64 : decode cX12_reading 64 = .ok (.sipush (-10000), 3) := by decide +kernel
theorem dX12_reading_67 : decode cX12_reading 67 = .ok (.ireturn, 1) := by decide +kernel
theorem dX12_wrong_0 : decode cX12_wrong 0 = .ok (.aload_n 0, 1) := by decide +kernel
theorem dX12_wrong_1 : decode cX12_wrong 1 = .ok (.iload_n 1, 1) := by decide +kernel
theorem dX12_wrong_2 : decode cX12_wrong 2 = .ok (.putfield 238, 3) := by decide +kernel
theorem dX12_wrong_5 : decode cX12_wrong 5 = .ok (.aload_n 0, 1) := by decide +kernel
theorem dX12_wrong_6 : decode cX12_wrong 6 = .ok (.aload_n 0, 1) := by decide +kernel
theorem dX12_wrong_7 : decode cX12_wrong 7 = .ok (.getfield 241, 3) := by decide +kernel
theorem dX12_wrong_10 : decode cX12_wrong 10 = .ok (.putfield 41, 3) := by decide +kernel
theorem dX12_wrong_13 : decode cX12_wrong 13 = .ok (.iconst 0, 1) := by decide +kernel
theorem dX12_wrong_14 : decode cX12_wrong 14 = .ok (.ireturn, 1) := by decide +kernel
theorem dX12_wordAt_0 : decode cX12_wordAt 0 = .ok (.iconst 0, 1) := by decide +kernel
theorem dX12_wordAt_1 : decode cX12_wordAt 1 = .ok (.istore_n 3, 1) := by decide +kernel
theorem dX12_wordAt_2 : decode cX12_wordAt 2 = .ok (.iconst 0, 1) := by decide +kernel
theorem dX12_wordAt_3 : decode cX12_wordAt 3 = .ok (.istore 4, 2) := by decide +kernel
theorem dX12_wordAt_5 : decode cX12_wordAt 5 = .ok (.iload 4, 2) := by decide +kernel
theorem dX12_wordAt_7 : decode cX12_wordAt 7 = .ok (.aload_n 0, 1) := by decide +kernel
theorem dX12_wordAt_8 : decode cX12_wordAt 8 = .ok (.getfield 38, 3) := by decide +kernel
theorem dX12_wordAt_11 : decode cX12_wordAt 11 = .ok (.arraylength, 1) := by decide +kernel
theorem dX12_wordAt_12 : decode cX12_wordAt 12 = .ok (.if_icmp .ge 114, 3) := by decide +kernel
theorem dX12_wordAt_15 : decode cX12_wordAt 15 = .ok (.iconst 0, 1) := by decide +kernel
theorem dX12_wordAt_16 : decode cX12_wordAt 16 = .ok (.istore 5, 2) := by decide +kernel
theorem dX12_wordAt_18 : decode cX12_wordAt 18 = .ok (.aload_n 0, 1) := by decide +kernel
theorem dX12_wordAt_19 : decode cX12_wordAt 19 = .ok (.getfield 38, 3) := by decide +kernel
theorem dX12_wordAt_22 : decode cX12_wordAt 22 = .ok (.iload 4, 2) := by decide +kernel
theorem dX12_wordAt_24 : decode cX12_wordAt 24 = .ok (.iload 5, 2) := by decide +kernel
theorem dX12_wordAt_26 : decode cX12_wordAt 26 = .ok (.iadd, 1) := by decide +kernel
theorem dX12_wordAt_27 : decode cX12_wordAt 27 = .ok (.iaload, 1) := by decide +kernel
theorem dX12_wordAt_28 : decode cX12_wordAt 28 = .ok (.bipush 32, 2) := by decide +kernel
theorem dX12_wordAt_30 : decode cX12_wordAt 30 = .ok (.if_icmp .eq 9, 3) := by decide +kernel
theorem dX12_wordAt_33 : decode cX12_wordAt 33 = .ok (.iinc 5 1, 3) := by decide +kernel
theorem dX12_wordAt_36 : decode cX12_wordAt 36 = .ok (.goto (-18), 3) := by decide +kernel
theorem dX12_wordAt_39 : decode cX12_wordAt 39 = .ok (.iload 5, 2) := by decide +kernel
theorem dX12_wordAt_41 : decode cX12_wordAt 41 = .ok (.iload_n 2, 1) := by decide +kernel
theorem dX12_wordAt_42 : decode cX12_wordAt 42 = .ok (.iload_n 1, 1) := by decide +kernel
theorem dX12_wordAt_43 : decode cX12_wordAt 43 = .ok (.isub, 1) := by decide +kernel
theorem dX12_wordAt_44 : decode cX12_wordAt 44 = .ok (.if_icmp .ne 7, 3) := by decide +kernel
theorem dX12_wordAt_47 : decode cX12_wordAt 47 = .ok (.iconst 1, 1) := by decide +kernel
theorem dX12_wordAt_48 : decode cX12_wordAt 48 = .ok (.goto 4, 3) := by decide +kernel
theorem dX12_wordAt_51 : decode cX12_wordAt 51 = .ok (.iconst 0, 1) := by decide +kernel
theorem dX12_wordAt_52 : decode cX12_wordAt 52 = .ok (.istore 6, 2) := by decide +kernel
theorem dX12_wordAt_54 : decode cX12_wordAt 54 = .ok (.iconst 0, 1) := by decide +kernel
theorem dX12_wordAt_55 : decode cX12_wordAt 55 = .ok (.istore 7, 2) := by decide +kernel
theorem dX12_wordAt_57 : decode cX12_wordAt 57 = .ok (.iload 7, 2) := by decide +kernel
theorem dX12_wordAt_59 : decode cX12_wordAt 59 = .ok (.iload 5, 2) := by decide +kernel
theorem dX12_wordAt_61 : decode cX12_wordAt 61 = .ok (.if_icmp .ge 43, 3) := by decide +kernel
theorem dX12_wordAt_64 : decode cX12_wordAt 64 = .ok (.iload 6, 2) := by decide +kernel
theorem dX12_wordAt_66 : decode cX12_wordAt 66 = .ok (.ifCond .eq 38, 3) := by decide +kernel
theorem dX12_wordAt_69 : decode cX12_wordAt 69 = .ok (.aload_n 0, 1) := by decide +kernel
theorem dX12_wordAt_70 : decode cX12_wordAt 70 = .ok (.getfield 38, 3) := by decide +kernel
theorem dX12_wordAt_73 : decode cX12_wordAt 73 = .ok (.iload 4, 2) := by decide +kernel
theorem dX12_wordAt_75 : decode cX12_wordAt 75 = .ok (.iload 7, 2) := by decide +kernel
theorem dX12_wordAt_77 : decode cX12_wordAt 77 = .ok (.iadd, 1) := by decide +kernel
theorem dX12_wordAt_78 : decode cX12_wordAt 78 = .ok (.iaload, 1) := by decide +kernel
theorem dX12_wordAt_79 : decode cX12_wordAt 79 = .ok (.aload_n 0, 1) := by decide +kernel
theorem dX12_wordAt_80 : decode cX12_wordAt 80 = .ok (.getfield 7, 3) := by decide +kernel
theorem dX12_wordAt_83 : decode cX12_wordAt 83 = .ok (.iload_n 1, 1) := by decide +kernel
theorem dX12_wordAt_84 : decode cX12_wordAt 84 = .ok (.iload 7, 2) := by decide +kernel
theorem dX12_wordAt_86 : decode cX12_wordAt 86 = .ok (.iadd, 1) := by decide +kernel
theorem dX12_wordAt_87 : decode cX12_wordAt 87 = .ok (.iaload, 1) := by decide +kernel
theorem dX12_wordAt_88 : decode cX12_wordAt 88 = .ok (.if_icmp .ne 7, 3) := by decide +kernel
theorem dX12_wordAt_91 : decode cX12_wordAt 91 = .ok (.iconst 1, 1) := by decide +kernel
theorem dX12_wordAt_92 : decode cX12_wordAt 92 = .ok (.goto 4, 3) := by decide +kernel
theorem dX12_wordAt_95 : decode cX12_wordAt 95 = .ok (.iconst 0, 1) := by decide +kernel
theorem dX12_wordAt_96 : decode cX12_wordAt 96 = .ok (.istore 6, 2) := by decide +kernel
theorem dX12_wordAt_98 : decode cX12_wordAt 98 = .ok (.iinc 7 1, 3) := by decide +kernel
theorem dX12_wordAt_101 : decode cX12_wordAt 101 = .ok (.goto (-44), 3) := by decide +kernel
theorem dX12_wordAt_104 : decode cX12_wordAt 104 = .ok (.iload 6, 2) := by decide +kernel
theorem dX12_wordAt_106 : decode cX12_wordAt 106 = .ok (.ifCond .eq 5, 3) := by decide +kernel
theorem dX12_wordAt_109 : decode cX12_wordAt 109 = .ok (.iload_n 3, 1) := by decide +kernel
theorem dX12_wordAt_110 : decode cX12_wordAt 110 = .ok (.ireturn, 1) := by decide +kernel
theorem dX12_wordAt_111 : decode cX12_wordAt 111 = .ok (.iload 4, 2) := by decide +kernel
theorem dX12_wordAt_113 : decode cX12_wordAt 113 = .ok (.iload 5, 2) := by decide +kernel
theorem dX12_wordAt_115 : decode cX12_wordAt 115 = .ok (.iconst 1, 1) := by decide +kernel
theorem dX12_wordAt_116 : decode cX12_wordAt 116 = .ok (.iadd, 1) := by decide +kernel
theorem dX12_wordAt_117 : decode cX12_wordAt 117 = .ok (.iadd, 1) := by decide +kernel
theorem dX12_wordAt_118 : decode cX12_wordAt 118 = .ok (.istore 4, 2) := by decide +kernel
theorem dX12_wordAt_120 : decode cX12_wordAt 120 = .ok (.iinc 3 1, 3) := by decide +kernel
theorem dX12_wordAt_123 : decode cX12_wordAt 123 = .ok (.goto (-118), 3) := by decide +kernel
theorem dX12_wordAt_126 : decode cX12_wordAt 126 = .ok (.iconst (-1), 1) := by decide +kernel
theorem dX12_wordAt_127 : decode cX12_wordAt 127 = .ok (.ireturn, 1) := by decide +kernel
theorem dX12_isSmall_0 : decode cX12_isSmall 0 = .ok (.iload_n 1, 1) := by decide +kernel
theorem dX12_isSmall_1 : decode cX12_isSmall 1 = .ok (.aload_n 0, 1) := by decide +kernel
theorem dX12_isSmall_2 : decode cX12_isSmall 2 = .ok (.getfield 244, 3) := by decide +kernel
theorem dX12_isSmall_5 : decode cX12_isSmall 5 = .ok (.if_icmp .ge 29, 3) := by decide +kernel
theorem dX12_isSmall_8 : decode cX12_isSmall 8 = .ok (.aload_n 0, 1) := by decide +kernel
theorem dX12_isSmall_9 : decode cX12_isSmall 9 = .ok (.getfield 7, 3) := by decide +kernel
theorem dX12_isSmall_12 : decode cX12_isSmall 12 = .ok (.iload_n 1, 1) := by decide +kernel
theorem dX12_isSmall_13 : decode cX12_isSmall 13 = .ok (.iaload, 1) := by decide +kernel
theorem dX12_isSmall_14 : decode cX12_isSmall 14 = .ok (.bipush 97, 2) := by decide +kernel
theorem dX12_isSmall_16 : decode cX12_isSmall 16 = .ok (.if_icmp .lt 18, 3) := by decide +kernel
theorem dX12_isSmall_19 : decode cX12_isSmall 19 = .ok (.aload_n 0, 1) := by decide +kernel
theorem dX12_isSmall_20 : decode cX12_isSmall 20 = .ok (.getfield 7, 3) := by decide +kernel
theorem dX12_isSmall_23 : decode cX12_isSmall 23 = .ok (.iload_n 1, 1) := by decide +kernel
theorem dX12_isSmall_24 : decode cX12_isSmall 24 = .ok (.iaload, 1) := by decide +kernel
theorem dX12_isSmall_25 : decode cX12_isSmall 25 = .ok (.bipush 122, 2) := by decide +kernel
theorem dX12_isSmall_27 : decode cX12_isSmall 27 = .ok (.if_icmp .gt 7, 3) := by decide +kernel
theorem dX12_isSmall_30 : decode cX12_isSmall 30 = .ok (.iconst 1, 1) := by decide +kernel
theorem dX12_isSmall_31 : decode cX12_isSmall 31 = .ok (.goto 4, 3) := by decide +kernel
theorem dX12_isSmall_34 : decode cX12_isSmall 34 = .ok (.iconst 0, 1) := by decide +kernel
theorem dX12_isSmall_35 : decode cX12_isSmall 35 = .ok (.ireturn, 1) := by decide +kernel
theorem dX12_isDigit_0 : decode cX12_isDigit 0 = .ok (.iload_n 1, 1) := by decide +kernel
theorem dX12_isDigit_1 : decode cX12_isDigit 1 = .ok (.aload_n 0, 1) := by decide +kernel
theorem dX12_isDigit_2 : decode cX12_isDigit 2 = .ok (.getfield 244, 3) := by decide +kernel
theorem dX12_isDigit_5 : decode cX12_isDigit 5 = .ok (.if_icmp .ge 29, 3) := by decide +kernel
theorem dX12_isDigit_8 : decode cX12_isDigit 8 = .ok (.aload_n 0, 1) := by decide +kernel
theorem dX12_isDigit_9 : decode cX12_isDigit 9 = .ok (.getfield 7, 3) := by decide +kernel
theorem dX12_isDigit_12 : decode cX12_isDigit 12 = .ok (.iload_n 1, 1) := by decide +kernel
theorem dX12_isDigit_13 : decode cX12_isDigit 13 = .ok (.iaload, 1) := by decide +kernel
theorem dX12_isDigit_14 : decode cX12_isDigit 14 = .ok (.bipush 48, 2) := by decide +kernel
theorem dX12_isDigit_16 : decode cX12_isDigit 16 = .ok (.if_icmp .lt 18, 3) := by decide +kernel
theorem dX12_isDigit_19 : decode cX12_isDigit 19 = .ok (.aload_n 0, 1) := by decide +kernel
theorem dX12_isDigit_20 : decode cX12_isDigit 20 = .ok (.getfield 7, 3) := by decide +kernel
theorem dX12_isDigit_23 : decode cX12_isDigit 23 = .ok (.iload_n 1, 1) := by decide +kernel
theorem dX12_isDigit_24 : decode cX12_isDigit 24 = .ok (.iaload, 1) := by decide +kernel
theorem dX12_isDigit_25 : decode cX12_isDigit 25 = .ok (.bipush 57, 2) := by decide +kernel
theorem dX12_isDigit_27 : decode cX12_isDigit 27 = .ok (.if_icmp .gt 7, 3) := by decide +kernel
theorem dX12_isDigit_30 : decode cX12_isDigit 30 = .ok (.iconst 1, 1) := by decide +kernel
theorem dX12_isDigit_31 : decode cX12_isDigit 31 = .ok (.goto 4, 3) := by decide +kernel
theorem dX12_isDigit_34 : decode cX12_isDigit 34 = .ok (.iconst 0, 1) := by decide +kernel
theorem dX12_isDigit_35 : decode cX12_isDigit 35 = .ok (.ireturn, 1) := by decide +kernel
theorem dX12_isAt_0 : decode cX12_isAt 0 = .ok (.iload_n 1, 1) := by decide +kernel
theorem dX12_isAt_1 : decode cX12_isAt 1 = .ok (.aload_n 0, 1) := by decide +kernel
theorem dX12_isAt_2 : decode cX12_isAt 2 = .ok (.getfield 244, 3) := by decide +kernel
theorem dX12_isAt_5 : decode cX12_isAt 5 = .ok (.if_icmp .ge 17, 3) := by decide +kernel
theorem dX12_isAt_8 : decode cX12_isAt 8 = .ok (.aload_n 0, 1) := by decide +kernel
theorem dX12_isAt_9 : decode cX12_isAt 9 = .ok (.getfield 7, 3) := by decide +kernel
theorem dX12_isAt_12 : decode cX12_isAt 12 = .ok (.iload_n 1, 1) := by decide +kernel
theorem dX12_isAt_13 : decode cX12_isAt 13 = .ok (.iaload, 1) := by decide +kernel
theorem dX12_isAt_14 : decode cX12_isAt 14 = .ok (.iload_n 2, 1) := by decide +kernel
theorem dX12_isAt_15 : decode cX12_isAt 15 = .ok (.if_icmp .ne 7, 3) := by decide +kernel
theorem dX12_isAt_18 : decode cX12_isAt 18 = .ok (.iconst 1, 1) := by decide +kernel
theorem dX12_isAt_19 : decode cX12_isAt 19 = .ok (.goto 4, 3) := by decide +kernel
theorem dX12_isAt_22 : decode cX12_isAt 22 = .ok (.iconst 0, 1) := by decide +kernel
theorem dX12_isAt_23 : decode cX12_isAt 23 = .ok (.ireturn, 1) := by decide +kernel
theorem dX12_signOf_0 : decode cX12_signOf 0 = .ok (.iload_n 1, 1) := by decide +kernel
theorem dX12_signOf_1 : decode cX12_signOf 1 = .ok (.bipush 60, 2) := by decide +kernel
theorem dX12_signOf_3 : decode cX12_signOf 3 = .ok (.if_icmp .ne 39, 3) := by decide +kernel
theorem dX12_signOf_6 : decode cX12_signOf 6 = .ok (.aload_n 0, 1) := by decide +kernel
theorem dX12_signOf_7 : decode cX12_signOf 7 = .ok (.aload_n 0, 1) := by decide +kernel
theorem dX12_signOf_8 : decode cX12_signOf 8 = .ok (.getfield 247, 3) := by decide +kernel
theorem dX12_signOf_11 : decode cX12_signOf 11 = .ok (.bipush 61, 2) := by decide +kernel
theorem dX12_signOf_13 : decode cX12_signOf 13 = .ok (.invokevirtual 250, 3) := by decide +kernel
theorem dX12_signOf_16 : decode cX12_signOf 16 = .ok (.ifCond .eq 7, 3) := by decide +kernel
theorem dX12_signOf_19 : decode cX12_signOf 19 = .ok (.iconst 2, 1) := by decide +kernel
theorem dX12_signOf_20 : decode cX12_signOf 20 = .ok (.goto 21, 3) := by decide +kernel
theorem dX12_signOf_23 : decode cX12_signOf 23 = .ok (.aload_n 0, 1) := by decide +kernel
theorem dX12_signOf_24 : decode cX12_signOf 24 = .ok (.aload_n 0, 1) := by decide +kernel
theorem dX12_signOf_25 : decode cX12_signOf 25 = .ok (.getfield 247, 3) := by decide +kernel
theorem dX12_signOf_28 : decode cX12_signOf 28 = .ok (.bipush 62, 2) := by decide +kernel
theorem dX12_signOf_30 : decode cX12_signOf 30 = .ok (.invokevirtual 250, 3) := by decide +kernel
theorem dX12_signOf_33 : decode cX12_signOf 33 = .ok (.ifCond .eq 7, 3) := by decide +kernel
theorem dX12_signOf_36 : decode cX12_signOf 36 = .ok (.iconst 4, 1) := by decide +kernel
theorem dX12_signOf_37 : decode cX12_signOf 37 = .ok (.goto 4, 3) := by decide +kernel
theorem dX12_signOf_40 : decode cX12_signOf 40 = .ok (.iconst 1, 1) := by decide +kernel
theorem dX12_signOf_41 : decode cX12_signOf 41 = .ok (.ireturn, 1) := by decide +kernel
theorem dX12_signOf_42 : decode cX12_signOf 42 = .ok (.iload_n 1, 1) := by decide +kernel
theorem dX12_signOf_43 : decode cX12_signOf 43 = .ok (.bipush 62, 2) := by decide +kernel
theorem dX12_signOf_45 : decode cX12_signOf 45 = .ok (.if_icmp .ne 23, 3) := by decide +kernel
theorem dX12_signOf_48 : decode cX12_signOf 48 = .ok (.aload_n 0, 1) := by decide +kernel
theorem dX12_signOf_49 : decode cX12_signOf 49 = .ok (.aload_n 0, 1) := by decide +kernel
theorem dX12_signOf_50 : decode cX12_signOf 50 = .ok (.getfield 247, 3) := by decide +kernel
theorem dX12_signOf_53 : decode cX12_signOf 53 = .ok (.bipush 61, 2) := by decide +kernel
theorem dX12_signOf_55 : decode cX12_signOf 55 = .ok (.invokevirtual 250, 3) := by decide +kernel
theorem dX12_signOf_58 : decode cX12_signOf 58 = .ok (.ifCond .eq 7, 3) := by decide +kernel
theorem dX12_signOf_61 : decode cX12_signOf 61 = .ok (.iconst 5, 1) := by decide +kernel
theorem dX12_signOf_62 : decode cX12_signOf 62 = .ok (.goto 5, 3) := by decide +kernel
theorem dX12_signOf_65 : decode cX12_signOf 65 = .ok (.bipush 6, 2) := by decide +kernel
theorem dX12_signOf_67 : decode cX12_signOf 67 = .ok (.ireturn, 1) := by decide +kernel
theorem dX12_signOf_68 : decode cX12_signOf 68 = .ok (.iload_n 1, 1) := by decide +kernel
theorem dX12_signOf_69 : decode cX12_signOf 69 = .ok (.bipush 61, 2) := by decide +kernel
theorem dX12_signOf_71 : decode cX12_signOf 71 = .ok (.if_icmp .ne 7, 3) := by decide +kernel
theorem dX12_signOf_74 : decode cX12_signOf 74 = .ok (.iconst 3, 1) := by decide +kernel
theorem dX12_signOf_75 : decode cX12_signOf 75 = .ok (.goto 76, 3) := by decide +kernel
theorem dX12_signOf_78 : decode cX12_signOf 78 = .ok (.iload_n 1, 1) := by decide +kernel
theorem dX12_signOf_79 : decode cX12_signOf 79 = .ok (.bipush 43, 2) := by decide +kernel
theorem dX12_signOf_81 : decode cX12_signOf 81 = .ok (.if_icmp .ne 8, 3) := by decide +kernel
theorem dX12_signOf_84 : decode cX12_signOf 84 = .ok (.bipush 7, 2) := by decide +kernel
theorem dX12_signOf_86 : decode cX12_signOf 86 = .ok (.goto 65, 3) := by decide +kernel
theorem dX12_signOf_89 : decode cX12_signOf 89 = .ok (.iload_n 1, 1) := by decide +kernel
theorem dX12_signOf_90 : decode cX12_signOf 90 = .ok (.bipush 45, 2) := by decide +kernel
theorem dX12_signOf_92 : decode cX12_signOf 92 = .ok (.if_icmp .ne 8, 3) := by decide +kernel
theorem dX12_signOf_95 : decode cX12_signOf 95 = .ok (.bipush 8, 2) := by decide +kernel
theorem dX12_signOf_97 : decode cX12_signOf 97 = .ok (.goto 54, 3) := by decide +kernel
theorem dX12_signOf_100 : decode cX12_signOf 100 = .ok (.iload_n 1, 1) := by decide +kernel
theorem dX12_signOf_101 : decode cX12_signOf 101 = .ok (.bipush 42, 2) := by decide +kernel
theorem dX12_signOf_103 : decode cX12_signOf 103 = .ok (.if_icmp .ne 8, 3) := by decide +kernel
theorem dX12_signOf_106 : decode cX12_signOf 106 = .ok (.bipush 9, 2) := by decide +kernel
theorem dX12_signOf_108 : decode cX12_signOf 108 = .ok (.goto 43, 3) := by decide +kernel
theorem dX12_signOf_111 : decode cX12_signOf 111 = .ok (.iload_n 1, 1) := by decide +kernel
theorem dX12_signOf_112 : decode cX12_signOf 112 = .ok (.bipush 47, 2) := by decide +kernel
theorem dX12_signOf_114 : decode cX12_signOf 114 = .ok (.if_icmp .ne 8, 3) := by decide +kernel
theorem dX12_signOf_117 : decode cX12_signOf 117 = .ok (.bipush 10, 2) := by decide +kernel
theorem dX12_signOf_119 : decode cX12_signOf 119 = .ok (.goto 32, 3) := by decide +kernel
theorem dX12_signOf_122 : decode cX12_signOf 122 = .ok (.iload_n 1, 1) := by decide +kernel
theorem dX12_signOf_123 : decode cX12_signOf 123 = .ok (.bipush 59, 2) := by decide +kernel
theorem dX12_signOf_125 : decode cX12_signOf 125 = .ok (.if_icmp .eq 21, 3) := by decide +kernel
theorem dX12_signOf_128 : decode cX12_signOf 128 = .ok (.iload_n 1, 1) := by decide +kernel
theorem dX12_signOf_129 : decode cX12_signOf 129 = .ok (.bipush 44, 2) := by decide +kernel
theorem dX12_signOf_131 : decode cX12_signOf 131 = .ok (.if_icmp .eq 15, 3) := by decide +kernel
theorem dX12_signOf_134 : decode cX12_signOf 134 = .ok (.iload_n 1, 1) := by decide +kernel
theorem dX12_signOf_135 : decode cX12_signOf 135 = .ok (.bipush 40, 2) := by decide +kernel
theorem dX12_signOf_137 : decode cX12_signOf 137 = .ok (.if_icmp .eq 9, 3) := by decide +kernel
theorem dX12_signOf_140 : decode cX12_signOf 140 = .ok (.iload_n 1, 1) := by decide +kernel
theorem dX12_signOf_141 : decode cX12_signOf 141 = .ok (.bipush 41, 2) := by decide +kernel
theorem dX12_signOf_143 : decode cX12_signOf 143 = .ok (.if_icmp .ne 7, 3) := by decide +kernel
theorem dX12_signOf_146 : decode cX12_signOf 146 = .ok (.iload_n 1, 1) := by decide +kernel
theorem dX12_signOf_147 : decode cX12_signOf 147 = .ok (.goto 4, 3) := by decide +kernel
theorem dX12_signOf_150 : decode cX12_signOf 150 = .ok (.iconst (-1), 1) := by decide +kernel
theorem dX12_signOf_151 : decode cX12_signOf 151 = .ok (.ireturn, 1) := by decide +kernel
theorem dX12_take_0 : decode cX12_take 0 = .ok (.aload_n 0, 1) := by decide +kernel
theorem dX12_take_1 : decode cX12_take 1 = .ok (.getfield 247, 3) := by decide +kernel
theorem dX12_take_4 : decode cX12_take 4 = .ok (.aload_n 0, 1) := by decide +kernel
theorem dX12_take_5 : decode cX12_take 5 = .ok (.getfield 244, 3) := by decide +kernel
theorem dX12_take_8 : decode cX12_take 8 = .ok (.if_icmp .ge 44, 3) := by decide +kernel
theorem dX12_take_11 : decode cX12_take 11 = .ok (.aload_n 0, 1) := by decide +kernel
theorem dX12_take_12 : decode cX12_take 12 = .ok (.getfield 7, 3) := by decide +kernel
theorem dX12_take_15 : decode cX12_take 15 = .ok (.aload_n 0, 1) := by decide +kernel
theorem dX12_take_16 : decode cX12_take 16 = .ok (.getfield 247, 3) := by decide +kernel
theorem dX12_take_19 : decode cX12_take 19 = .ok (.iaload, 1) := by decide +kernel
theorem dX12_take_20 : decode cX12_take 20 = .ok (.bipush 10, 2) := by decide +kernel
theorem dX12_take_22 : decode cX12_take 22 = .ok (.if_icmp .eq 17, 3) := by decide +kernel
theorem dX12_take_25 : decode cX12_take 25 = .ok (.aload_n 0, 1) := by decide +kernel
theorem dX12_take_26 : decode cX12_take 26 = .ok (.getfield 7, 3) := by decide +kernel
theorem dX12_take_29 : decode cX12_take 29 = .ok (.aload_n 0, 1) := by decide +kernel
theorem dX12_take_30 : decode cX12_take 30 = .ok (.getfield 247, 3) := by decide +kernel
theorem dX12_take_33 : decode cX12_take 33 = .ok (.iaload, 1) := by decide +kernel
theorem dX12_take_34 : decode cX12_take 34 = .ok (.bipush 32, 2) := by decide +kernel
theorem dX12_take_36 : decode cX12_take 36 = .ok (.if_icmp .ne 16, 3) := by decide +kernel
theorem dX12_take_39 : decode cX12_take 39 = .ok (.aload_n 0, 1) := by decide +kernel
theorem dX12_take_40 : decode cX12_take 40 = .ok (.dup, 1) := by decide +kernel
theorem dX12_take_41 : decode cX12_take 41 = .ok (.getfield 247, 3) := by decide +kernel
theorem dX12_take_44 : decode cX12_take 44 = .ok (.iconst 1, 1) := by decide +kernel
theorem dX12_take_45 : decode cX12_take 45 = .ok (.iadd, 1) := by decide +kernel
theorem dX12_take_46 : decode cX12_take 46 = .ok (.putfield 247, 3) := by decide +kernel
theorem dX12_take_49 : decode cX12_take 49 = .ok (.goto (-49), 3) := by decide +kernel
theorem dX12_take_52 : decode cX12_take 52 = .ok (.aload_n 0, 1) := by decide +kernel
theorem dX12_take_53 : decode cX12_take 53 = .ok (.aload_n 0, 1) := by decide +kernel
theorem dX12_take_54 : decode cX12_take 54 = .ok (.getfield 247, 3) := by decide +kernel
theorem dX12_take_57 : decode cX12_take 57 = .ok (.putfield 241, 3) := by decide +kernel
theorem dX12_take_60 : decode cX12_take 60 = .ok (.aload_n 0, 1) := by decide +kernel
theorem dX12_take_61 : decode cX12_take 61 = .ok (.getfield 247, 3) := by decide +kernel
theorem dX12_take_64 : decode cX12_take 64 = .ok (.aload_n 0, 1) := by decide +kernel
theorem dX12_take_65 : decode cX12_take 65 = .ok (.getfield 244, 3) := by decide +kernel
theorem dX12_take_68 : decode cX12_take 68 = .ok (.if_icmp .ne 11, 3) := by decide +kernel
theorem dX12_take_71 : decode cX12_take 71 = .ok (.aload_n 0, 1) := by decide +kernel
theorem dX12_take_72 : decode cX12_take 72 = .ok (.iconst 0, 1) := by decide +kernel
theorem dX12_take_73 : decode cX12_take 73 = .ok (.putfield 254, 3) := by decide +kernel
theorem dX12_take_76 : decode cX12_take 76 = .ok (.goto 238, 3) := by decide +kernel
theorem dX12_take_79 : decode cX12_take 79 = .ok (.aload_n 0, 1) := by decide +kernel
theorem dX12_take_80 : decode cX12_take 80 = .ok (.aload_n 0, 1) := by decide +kernel
theorem dX12_take_81 : decode cX12_take 81 = .ok (.getfield 247, 3) := by decide +kernel
theorem dX12_take_84 : decode cX12_take 84 = .ok (.invokevirtual 257, 3) := by decide +kernel
theorem dX12_take_87 : decode cX12_take 87 = .ok (.ifCond .eq 62, 3) := by decide +kernel
theorem dX12_take_90 : decode cX12_take 90 = .ok (.aload_n 0, 1) := by decide +kernel
theorem dX12_take_91 : decode cX12_take 91 = .ok (.aload_n 0, 1) := by decide +kernel
theorem dX12_take_92 : decode cX12_take 92 = .ok (.getfield 247, 3) := by decide +kernel
theorem dX12_take_95 : decode cX12_take 95 = .ok (.invokevirtual 257, 3) := by decide +kernel
theorem dX12_take_98 : decode cX12_take 98 = .ok (.ifCond .eq 16, 3) := by decide +kernel
theorem dX12_take_101 : decode cX12_take 101 = .ok (.aload_n 0, 1) := by decide +kernel
theorem dX12_take_102 : decode cX12_take 102 = .ok (.dup, 1) := by decide +kernel
theorem dX12_take_103 : decode cX12_take 103 = .ok (.getfield 247, 3) := by decide +kernel
theorem dX12_take_106 : decode cX12_take 106 = .ok (.iconst 1, 1) := by decide +kernel
theorem dX12_take_107 : decode cX12_take 107 = .ok (.iadd, 1) := by decide +kernel
theorem dX12_take_108 : decode cX12_take 108 = .ok (.putfield 247, 3) := by decide +kernel
theorem dX12_take_111 : decode cX12_take 111 = .ok (.goto (-21), 3) := by decide +kernel
theorem dX12_take_114 : decode cX12_take 114 = .ok (.aload_n 0, 1) := by decide +kernel
theorem dX12_take_115 : decode cX12_take 115 = .ok (.aload_n 0, 1) := by decide +kernel
theorem dX12_take_116 : decode cX12_take 116 = .ok (.aload_n 0, 1) := by decide +kernel
theorem dX12_take_117 : decode cX12_take 117 = .ok (.getfield 241, 3) := by decide +kernel
theorem dX12_take_120 : decode cX12_take 120 = .ok (.aload_n 0, 1) := by decide +kernel
theorem dX12_take_121 : decode cX12_take 121 = .ok (.getfield 247, 3) := by decide +kernel
theorem dX12_take_124 : decode cX12_take 124 = .ok (.invokevirtual 260, 3) := by decide +kernel
theorem dX12_take_127 : decode cX12_take 127 = .ok (.putfield 264, 3) := by decide +kernel
theorem dX12_take_130 : decode cX12_take 130 = .ok (.aload_n 0, 1) := by decide +kernel
theorem dX12_take_131 : decode cX12_take 131 = .ok (.aload_n 0, 1) := by decide +kernel
theorem dX12_take_132 : decode cX12_take 132 = .ok (.getfield 264, 3) := by decide +kernel
theorem dX12_take_135 : decode cX12_take 135 = .ok (.ifCond .ge 7, 3) := by decide +kernel
theorem dX12_take_138 : decode cX12_take 138 = .ok (.iconst 4, 1) := by decide +kernel
theorem dX12_take_139 : decode cX12_take 139 = .ok (.goto 4, 3) := by decide +kernel
theorem dX12_take_142 : decode cX12_take 142 = .ok (.iconst 1, 1) := by decide +kernel
theorem dX12_take_143 : decode cX12_take 143 = .ok (.putfield 254, 3) := by decide +kernel
theorem dX12_take_146 : decode cX12_take 146 = .ok (.goto 168, 3) := by decide +kernel
theorem dX12_take_149 : decode cX12_take 149 = .ok (.aload_n 0, 1) := by decide +kernel
theorem dX12_take_150 : decode cX12_take 150 = .ok (.aload_n 0, 1) := by decide +kernel
theorem dX12_take_151 : decode cX12_take 151 = .ok (.getfield 247, 3) := by decide +kernel
theorem dX12_take_154 : decode cX12_take 154 = .ok (.invokevirtual 267, 3) := by decide +kernel
theorem dX12_take_157 : decode cX12_take 157 = .ok (.ifCond .eq 78, 3) := by decide +kernel
theorem dX12_take_160 : decode cX12_take 160 = .ok (.aload_n 0, 1) := by decide +kernel
theorem dX12_take_161 : decode cX12_take 161 = .ok (.iconst 2, 1) := by decide +kernel
theorem dX12_take_162 : decode cX12_take 162 = .ok (.putfield 254, 3) := by decide +kernel
theorem dX12_take_165 : decode cX12_take 165 = .ok (.aload_n 0, 1) := by decide +kernel
theorem dX12_take_166 : decode cX12_take 166 = .ok (.iconst 0, 1) := by decide +kernel
theorem dX12_take_167 : decode cX12_take 167 = .ok (.putfield 264, 3) := by decide +kernel
theorem dX12_take_170 : decode cX12_take 170 = .ok (.aload_n 0, 1) := by decide +kernel
theorem dX12_take_171 : decode cX12_take 171 = .ok (.aload_n 0, 1) := by decide +kernel
theorem dX12_take_172 : decode cX12_take 172 = .ok (.getfield 247, 3) := by decide +kernel
theorem dX12_take_175 : decode cX12_take 175 = .ok (.invokevirtual 267, 3) := by decide +kernel
theorem dX12_take_178 : decode cX12_take 178 = .ok (.ifCond .eq 136, 3) := by decide +kernel
theorem dX12_take_181 : decode cX12_take 181 = .ok (.aload_n 0, 1) := by decide +kernel
theorem dX12_take_182 : decode cX12_take 182 = .ok (.aload_n 0, 1) := by decide +kernel
theorem dX12_take_183 : decode cX12_take 183 = .ok (.getfield 264, 3) := by decide +kernel
theorem dX12_take_186 : decode cX12_take 186 = .ok (.ldc_w 270, 3) := by decide +kernel
theorem dX12_take_189 : decode cX12_take 189 = .ok (.if_icmp .le 10, 3) := by decide +kernel
theorem dX12_take_192 : decode cX12_take 192 = .ok (.aload_n 0, 1) := by decide +kernel
theorem dX12_take_193 : decode cX12_take 193 = .ok (.getfield 264, 3) := by decide +kernel
theorem dX12_take_196 : decode cX12_take 196 = .ok (.goto 23, 3) := by decide +kernel
theorem dX12_take_199 : decode cX12_take 199 = .ok (.bipush 10, 2) := by decide +kernel
theorem dX12_take_201 : decode cX12_take 201 = .ok (.aload_n 0, 1) := by decide +kernel
theorem dX12_take_202 : decode cX12_take 202 = .ok (.getfield 264, 3) := by decide +kernel
theorem dX12_take_205 : decode cX12_take 205 = .ok (.imul, 1) := by decide +kernel
theorem dX12_take_206 : decode cX12_take 206 = .ok (.aload_n 0, 1) := by decide +kernel
theorem dX12_take_207 : decode cX12_take 207 = .ok (.getfield 7, 3) := by decide +kernel
theorem dX12_take_210 : decode cX12_take 210 = .ok (.aload_n 0, 1) := by decide +kernel
theorem dX12_take_211 : decode cX12_take 211 = .ok (.getfield 247, 3) := by decide +kernel
theorem dX12_take_214 : decode cX12_take 214 = .ok (.iaload, 1) := by decide +kernel
theorem dX12_take_215 : decode cX12_take 215 = .ok (.iadd, 1) := by decide +kernel
theorem dX12_take_216 : decode cX12_take 216 = .ok (.bipush 48, 2) := by decide +kernel
theorem dX12_take_218 : decode cX12_take 218 = .ok (.isub, 1) := by decide +kernel
theorem dX12_take_219 : decode cX12_take 219 = .ok (.putfield 264, 3) := by decide +kernel
theorem dX12_take_222 : decode cX12_take 222 = .ok (.aload_n 0, 1) := by decide +kernel
theorem dX12_take_223 : decode cX12_take 223 = .ok (.dup, 1) := by decide +kernel
theorem dX12_take_224 : decode cX12_take 224 = .ok (.getfield 247, 3) := by decide +kernel
theorem dX12_take_227 : decode cX12_take 227 = .ok (.iconst 1, 1) := by decide +kernel
theorem dX12_take_228 : decode cX12_take 228 = .ok (.iadd, 1) := by decide +kernel
theorem dX12_take_229 : decode cX12_take 229 = .ok (.putfield 247, 3) := by decide +kernel
theorem dX12_take_232 : decode cX12_take 232 = .ok (.goto (-62), 3) := by decide +kernel
theorem dX12_take_235 : decode cX12_take 235 = .ok (.aload_n 0, 1) := by decide +kernel
theorem dX12_take_236 : decode cX12_take 236 = .ok (.getfield 7, 3) := by decide +kernel
theorem dX12_take_239 : decode cX12_take 239 = .ok (.aload_n 0, 1) := by decide +kernel
theorem dX12_take_240 : decode cX12_take 240 = .ok (.getfield 247, 3) := by decide +kernel
theorem dX12_take_243 : decode cX12_take 243 = .ok (.iaload, 1) := by decide +kernel
theorem dX12_take_244 : decode cX12_take 244 = .ok (.istore_n 1, 1) := by decide +kernel
theorem dX12_take_245 : decode cX12_take 245 = .ok (.aload_n 0, 1) := by decide +kernel
theorem dX12_take_246 : decode cX12_take 246 = .ok (.dup, 1) := by decide +kernel
theorem dX12_take_247 : decode cX12_take 247 = .ok (.getfield 247, 3) := by decide +kernel
theorem dX12_take_250 : decode cX12_take 250 = .ok (.iconst 1, 1) := by decide +kernel
theorem dX12_take_251 : decode cX12_take 251 = .ok (.iadd, 1) := by decide +kernel
theorem dX12_take_252 : decode cX12_take 252 = .ok (.putfield 247, 3) := by decide +kernel
theorem dX12_take_255 : decode cX12_take 255 = .ok (.aload_n 0, 1) := by decide +kernel
theorem dX12_take_256 : decode cX12_take 256 = .ok (.aload_n 0, 1) := by decide +kernel
theorem dX12_take_257 : decode cX12_take 257 = .ok (.iload_n 1, 1) := by decide +kernel
theorem dX12_take_258 : decode cX12_take 258 = .ok (.invokevirtual 271, 3) := by decide +kernel
theorem dX12_take_261 : decode cX12_take 261 = .ok (.putfield 264, 3) := by decide +kernel
theorem dX12_take_264 : decode cX12_take 264 = .ok (.aload_n 0, 1) := by decide +kernel
theorem dX12_take_265 : decode cX12_take 265 = .ok (.aload_n 0, 1) := by decide +kernel
theorem dX12_take_266 : decode cX12_take 266 = .ok (.getfield 264, 3) := by decide +kernel
theorem dX12_take_269 : decode cX12_take 269 = .ok (.ifCond .ge 7, 3) := by decide +kernel
theorem dX12_take_272 : decode cX12_take 272 = .ok (.iconst 4, 1) := by decide +kernel
theorem dX12_take_273 : decode cX12_take 273 = .ok (.goto 4, 3) := by decide +kernel
theorem dX12_take_276 : decode cX12_take 276 = .ok (.iconst 3, 1) := by decide +kernel
theorem dX12_take_277 : decode cX12_take 277 = .ok (.putfield 254, 3) := by decide +kernel
theorem dX12_take_280 : decode cX12_take 280 = .ok (.aload_n 0, 1) := by decide +kernel
theorem dX12_take_281 : decode cX12_take 281 = .ok (.getfield 264, 3) := by decide +kernel
theorem dX12_take_284 : decode cX12_take 284 = .ok (.iconst 2, 1) := by decide +kernel
theorem dX12_take_285 : decode cX12_take 285 = .ok (.if_icmp .eq 19, 3) := by decide +kernel
theorem dX12_take_288 : decode cX12_take 288 = .ok (.aload_n 0, 1) := by decide +kernel
theorem dX12_take_289 : decode cX12_take 289 = .ok (.getfield 264, 3) := by decide +kernel
theorem dX12_take_292 : decode cX12_take 292 = .ok (.iconst 4, 1) := by decide +kernel
theorem dX12_take_293 : decode cX12_take 293 = .ok (.if_icmp .eq 11, 3) := by decide +kernel
theorem dX12_take_296 : decode cX12_take 296 = .ok (.aload_n 0, 1) := by decide +kernel
theorem dX12_take_297 : decode cX12_take 297 = .ok (.getfield 264, 3) := by decide +kernel
theorem dX12_take_300 : decode cX12_take 300 = .ok (.iconst 5, 1) := by decide +kernel
theorem dX12_take_301 : decode cX12_take 301 = .ok (.if_icmp .ne 13, 3) := by decide +kernel
theorem dX12_take_304 : decode cX12_take 304 = .ok (.aload_n 0, 1) := by decide +kernel
theorem dX12_take_305 : decode cX12_take 305 = .ok (.dup, 1) := by decide +kernel
theorem dX12_take_306 : decode cX12_take 306 = .ok (.getfield 247, 3) := by decide +kernel
theorem dX12_take_309 : decode cX12_take 309 = .ok (.iconst 1, 1) := by decide +kernel
theorem dX12_take_310 : decode cX12_take 310 = .ok (.iadd, 1) := by decide +kernel
theorem dX12_take_311 : decode cX12_take 311 = .ok (.putfield 247, 3) := by decide +kernel
theorem dX12_take_314 : decode cX12_take 314 = .ok (.return_, 1) := by decide +kernel
theorem dX12_isSign_0 : decode cX12_isSign 0 = .ok (.aload_n 0, 1) := by decide +kernel
theorem dX12_isSign_1 : decode cX12_isSign 1 = .ok (.getfield 254, 3) := by decide +kernel
theorem dX12_isSign_4 : decode cX12_isSign 4 = .ok (.iconst 3, 1) := by decide +kernel
theorem dX12_isSign_5 : decode cX12_isSign 5 = .ok (.if_icmp .ne 15, 3) := by decide +kernel
theorem dX12_isSign_8 : decode cX12_isSign 8 = .ok (.aload_n 0, 1) := by decide +kernel
theorem dX12_isSign_9 : decode cX12_isSign 9 = .ok (.getfield 264, 3) := by decide +kernel
theorem dX12_isSign_12 : decode cX12_isSign 12 = .ok (.iload_n 1, 1) := by decide +kernel
theorem dX12_isSign_13 : decode cX12_isSign 13 = .ok (.if_icmp .ne 7, 3) := by decide +kernel
theorem dX12_isSign_16 : decode cX12_isSign 16 = .ok (.iconst 1, 1) := by decide +kernel
theorem dX12_isSign_17 : decode cX12_isSign 17 = .ok (.goto 4, 3) := by decide +kernel
theorem dX12_isSign_20 : decode cX12_isSign 20 = .ok (.iconst 0, 1) := by decide +kernel
theorem dX12_isSign_21 : decode cX12_isSign 21 = .ok (.ireturn, 1) := by decide +kernel
theorem dX12_weight_0 : decode cX12_weight 0 = .ok (.iload_n 0, 1) := by decide +kernel
theorem dX12_weight_1 : decode cX12_weight 1 = .ok (.bipush 100, 2) := by decide +kernel
theorem dX12_weight_3 : decode cX12_weight 3 = .ok (.if_icmp .ne 7, 3) := by decide +kernel
theorem dX12_weight_6 : decode cX12_weight 6 = .ok (.iconst 0, 1) := by decide +kernel
theorem dX12_weight_7 : decode cX12_weight 7 = .ok (.goto 66, 3) := by decide +kernel
theorem dX12_weight_10 : decode cX12_weight 10 = .ok (.iload_n 0, 1) := by decide +kernel
theorem dX12_weight_11 : decode cX12_weight 11 = .ok (.bipush 14, 2) := by decide +kernel
theorem dX12_weight_13 : decode cX12_weight 13 = .ok (.if_icmp .ne 7, 3) := by decide +kernel
theorem dX12_weight_16 : decode cX12_weight 16 = .ok (.iconst 1, 1) := by decide +kernel
theorem dX12_weight_17 : decode cX12_weight 17 = .ok (.goto 56, 3) := by decide +kernel
theorem dX12_weight_20 : decode cX12_weight 20 = .ok (.iload_n 0, 1) := by decide +kernel
theorem dX12_weight_21 : decode cX12_weight 21 = .ok (.bipush 13, 2) := by decide +kernel
theorem dX12_weight_23 : decode cX12_weight 23 = .ok (.if_icmp .ne 7, 3) := by decide +kernel
theorem dX12_weight_26 : decode cX12_weight 26 = .ok (.iconst 2, 1) := by decide +kernel
theorem dX12_weight_27 : decode cX12_weight 27 = .ok (.goto 46, 3) := by decide +kernel
theorem dX12_weight_30 : decode cX12_weight 30 = .ok (.iload_n 0, 1) := by decide +kernel
theorem dX12_weight_31 : decode cX12_weight 31 = .ok (.bipush 12, 2) := by decide +kernel
theorem dX12_weight_33 : decode cX12_weight 33 = .ok (.if_icmp .ne 7, 3) := by decide +kernel
theorem dX12_weight_36 : decode cX12_weight 36 = .ok (.iconst 3, 1) := by decide +kernel
theorem dX12_weight_37 : decode cX12_weight 37 = .ok (.goto 36, 3) := by decide +kernel
theorem dX12_weight_40 : decode cX12_weight 40 = .ok (.iload_n 0, 1) := by decide +kernel
theorem dX12_weight_41 : decode cX12_weight 41 = .ok (.bipush 7, 2) := by decide +kernel
theorem dX12_weight_43 : decode cX12_weight 43 = .ok (.if_icmp .ge 7, 3) := by decide +kernel
theorem dX12_weight_46 : decode cX12_weight 46 = .ok (.iconst 4, 1) := by decide +kernel
theorem dX12_weight_47 : decode cX12_weight 47 = .ok (.goto 26, 3) := by decide +kernel
theorem dX12_weight_50 : decode cX12_weight 50 = .ok (.iload_n 0, 1) := by decide +kernel
theorem dX12_weight_51 : decode cX12_weight 51 = .ok (.bipush 9, 2) := by decide +kernel
theorem dX12_weight_53 : decode cX12_weight 53 = .ok (.if_icmp .ge 7, 3) := by decide +kernel
theorem dX12_weight_56 : decode cX12_weight 56 = .ok (.iconst 5, 1) := by decide +kernel
theorem dX12_weight_57 : decode cX12_weight 57 = .ok (.goto 16, 3) := by decide +kernel
theorem dX12_weight_60 : decode cX12_weight 60 = .ok (.iload_n 0, 1) := by decide +kernel
theorem dX12_weight_61 : decode cX12_weight 61 = .ok (.bipush 11, 2) := by decide +kernel
theorem dX12_weight_63 : decode cX12_weight 63 = .ok (.if_icmp .ge 8, 3) := by decide +kernel
theorem dX12_weight_66 : decode cX12_weight 66 = .ok (.bipush 6, 2) := by decide +kernel
theorem dX12_weight_68 : decode cX12_weight 68 = .ok (.goto 5, 3) := by decide +kernel
theorem dX12_weight_71 : decode cX12_weight 71 = .ok (.bipush 7, 2) := by decide +kernel
theorem dX12_weight_73 : decode cX12_weight 73 = .ok (.ireturn, 1) := by decide +kernel
theorem dX12_grown_0 : decode cX12_grown 0 = .ok (.aload_n 0, 1) := by decide +kernel
theorem dX12_grown_1 : decode cX12_grown 1 = .ok (.getfield 275, 3) := by decide +kernel
theorem dX12_grown_4 : decode cX12_grown 4 = .ok (.bipush 64, 2) := by decide +kernel
theorem dX12_grown_6 : decode cX12_grown 6 = .ok (.if_icmp .ne 11, 3) := by decide +kernel
theorem dX12_grown_9 : decode cX12_grown 9 = .ok (.aload_n 0, 1) := by decide +kernel
theorem dX12_grown_10 : decode cX12_grown 10 = .ok (.iconst 2, 1) := by decide +kernel
theorem dX12_grown_11 : decode cX12_grown 11 = .ok (.invokevirtual 278, 3) := by decide +kernel
theorem dX12_grown_14 : decode cX12_grown 14 = .ok (.istore_n 3, 1) := by decide +kernel
theorem dX12_grown_15 : decode cX12_grown 15 = .ok (.iconst (-1), 1) := by decide +kernel
theorem dX12_grown_16 : decode cX12_grown 16 = .ok (.ireturn, 1) := by decide +kernel
theorem dX12_grown_17 : decode cX12_grown 17 = .ok (.bipush 64, 2) := by decide +kernel
theorem dX12_grown_19 : decode cX12_grown 19 = .ok (.aload_n 0, 1) := by decide +kernel
theorem dX12_grown_20 : decode cX12_grown 20 = .ok (.getfield 275, 3) := by decide +kernel
theorem dX12_grown_23 : decode cX12_grown 23 = .ok (.iadd, 1) := by decide +kernel
theorem dX12_grown_24 : decode cX12_grown 24 = .ok (.istore_n 3, 1) := by decide +kernel
theorem dX12_grown_25 : decode cX12_grown 25 = .ok (.aload_n 0, 1) := by decide +kernel
theorem dX12_grown_26 : decode cX12_grown 26 = .ok (.dup, 1) := by decide +kernel
theorem dX12_grown_27 : decode cX12_grown 27 = .ok (.getfield 275, 3) := by decide +kernel
theorem dX12_grown_30 : decode cX12_grown 30 = .ok (.iconst 1, 1) := by decide +kernel
theorem dX12_grown_31 : decode cX12_grown 31 = .ok (.iadd, 1) := by decide +kernel
theorem dX12_grown_32 : decode cX12_grown 32 = .ok (.putfield 275, 3) := by decide +kernel
theorem dX12_grown_35 : decode cX12_grown 35 = .ok (.aload_n 0, 1) := by decide +kernel
theorem dX12_grown_36 : decode cX12_grown 36 = .ok (.getfield 45, 3) := by decide +kernel
theorem dX12_grown_39 : decode cX12_grown 39 = .ok (.iload_n 3, 1) := by decide +kernel
theorem dX12_grown_40 : decode cX12_grown 40 = .ok (.iload_n 1, 1) := by decide +kernel
theorem dX12_grown_41 : decode cX12_grown 41 = .ok (.iastore, 1) := by decide +kernel
theorem dX12_grown_42 : decode cX12_grown 42 = .ok (.aload_n 0, 1) := by decide +kernel
theorem dX12_grown_43 : decode cX12_grown 43 = .ok (.getfield 48, 3) := by decide +kernel
theorem dX12_grown_46 : decode cX12_grown 46 = .ok (.iload_n 3, 1) := by decide +kernel
theorem dX12_grown_47 : decode cX12_grown 47 = .ok (.iconst (-1), 1) := by decide +kernel
theorem dX12_grown_48 : decode cX12_grown 48 = .ok (.iastore, 1) := by decide +kernel
theorem dX12_grown_49 : decode cX12_grown 49 = .ok (.aload_n 0, 1) := by decide +kernel
theorem dX12_grown_50 : decode cX12_grown 50 = .ok (.getfield 51, 3) := by decide +kernel
theorem dX12_grown_53 : decode cX12_grown 53 = .ok (.iload_n 3, 1) := by decide +kernel
theorem dX12_grown_54 : decode cX12_grown 54 = .ok (.iconst (-1), 1) := by decide +kernel
theorem dX12_grown_55 : decode cX12_grown 55 = .ok (.iastore, 1) := by decide +kernel
theorem dX12_grown_56 : decode cX12_grown 56 = .ok (.aload_n 0, 1) := by decide +kernel
theorem dX12_grown_57 : decode cX12_grown 57 = .ok (.getfield 54, 3) := by decide +kernel
theorem dX12_grown_60 : decode cX12_grown 60 = .ok (.iload_n 3, 1) := by decide +kernel
theorem dX12_grown_61 : decode cX12_grown 61 = .ok (.iload_n 2, 1) := by decide +kernel
theorem dX12_grown_62 : decode cX12_grown 62 = .ok (.iastore, 1) := by decide +kernel
theorem dX12_grown_63 : decode cX12_grown 63 = .ok (.iload_n 3, 1) := by decide +kernel
theorem dX12_grown_64 : decode cX12_grown 64 = .ok (.ireturn, 1) := by decide +kernel
theorem dX12_done_0 : decode cX12_done 0 = .ok (.aload_n 0, 1) := by decide +kernel
theorem dX12_done_1 : decode cX12_done 1 = .ok (.getfield 63, 3) := by decide +kernel
theorem dX12_done_4 : decode cX12_done 4 = .ok (.bipush 64, 2) := by decide +kernel
theorem dX12_done_6 : decode cX12_done 6 = .ok (.aload_n 0, 1) := by decide +kernel
theorem dX12_done_7 : decode cX12_done 7 = .ok (.getfield 281, 3) := by decide +kernel
theorem dX12_done_10 : decode cX12_done 10 = .ok (.iadd, 1) := by decide +kernel
theorem dX12_done_11 : decode cX12_done 11 = .ok (.iload_n 1, 1) := by decide +kernel
theorem dX12_done_12 : decode cX12_done 12 = .ok (.iastore, 1) := by decide +kernel
theorem dX12_done_13 : decode cX12_done 13 = .ok (.aload_n 0, 1) := by decide +kernel
theorem dX12_done_14 : decode cX12_done 14 = .ok (.dup, 1) := by decide +kernel
theorem dX12_done_15 : decode cX12_done 15 = .ok (.getfield 281, 3) := by decide +kernel
theorem dX12_done_18 : decode cX12_done 18 = .ok (.iconst 1, 1) := by decide +kernel
theorem dX12_done_19 : decode cX12_done 19 = .ok (.iadd, 1) := by decide +kernel
theorem dX12_done_20 : decode cX12_done 20 = .ok (.putfield 281, 3) := by decide +kernel
theorem dX12_done_23 : decode cX12_done 23 = .ok (.aload_n 0, 1) := by decide +kernel
theorem dX12_done_24 : decode cX12_done 24 = .ok (.getfield 81, 3) := by decide +kernel
theorem dX12_done_27 : decode cX12_done 27 = .ok (.aload_n 0, 1) := by decide +kernel
theorem dX12_done_28 : decode cX12_done 28 = .ok (.getfield 284, 3) := by decide +kernel
theorem dX12_done_31 : decode cX12_done 31 = .ok (.iload_n 1, 1) := by decide +kernel
theorem dX12_done_32 : decode cX12_done 32 = .ok (.iastore, 1) := by decide +kernel
theorem dX12_done_33 : decode cX12_done 33 = .ok (.aload_n 0, 1) := by decide +kernel
theorem dX12_done_34 : decode cX12_done 34 = .ok (.dup, 1) := by decide +kernel
theorem dX12_done_35 : decode cX12_done 35 = .ok (.getfield 284, 3) := by decide +kernel
theorem dX12_done_38 : decode cX12_done 38 = .ok (.iconst 1, 1) := by decide +kernel
theorem dX12_done_39 : decode cX12_done 39 = .ok (.iadd, 1) := by decide +kernel
theorem dX12_done_40 : decode cX12_done 40 = .ok (.putfield 284, 3) := by decide +kernel
theorem dX12_done_43 : decode cX12_done 43 = .ok (.return_, 1) := by decide +kernel
theorem dX12_drop_0 : decode cX12_drop 0 = .ok (.aload_n 0, 1) := by decide +kernel
theorem dX12_drop_1 : decode cX12_drop 1 = .ok (.dup, 1) := by decide +kernel
theorem dX12_drop_2 : decode cX12_drop 2 = .ok (.getfield 284, 3) := by decide +kernel
theorem dX12_drop_5 : decode cX12_drop 5 = .ok (.iconst 1, 1) := by decide +kernel
theorem dX12_drop_6 : decode cX12_drop 6 = .ok (.isub, 1) := by decide +kernel
theorem dX12_drop_7 : decode cX12_drop 7 = .ok (.putfield 284, 3) := by decide +kernel
theorem dX12_drop_10 : decode cX12_drop 10 = .ok (.aload_n 0, 1) := by decide +kernel
theorem dX12_drop_11 : decode cX12_drop 11 = .ok (.getfield 81, 3) := by decide +kernel
theorem dX12_drop_14 : decode cX12_drop 14 = .ok (.aload_n 0, 1) := by decide +kernel
theorem dX12_drop_15 : decode cX12_drop 15 = .ok (.getfield 284, 3) := by decide +kernel
theorem dX12_drop_18 : decode cX12_drop 18 = .ok (.iaload, 1) := by decide +kernel
theorem dX12_drop_19 : decode cX12_drop 19 = .ok (.ireturn, 1) := by decide +kernel
theorem dX12_bind_0 : decode cX12_bind 0 = .ok (.aload_n 0, 1) := by decide +kernel
theorem dX12_bind_1 : decode cX12_bind 1 = .ok (.getfield 287, 3) := by decide +kernel
theorem dX12_bind_4 : decode cX12_bind 4 = .ok (.ifCond .le 97, 3) := by decide +kernel
theorem dX12_bind_7 : decode cX12_bind 7 = .ok (.aload_n 0, 1) := by decide +kernel
theorem dX12_bind_8 : decode cX12_bind 8 = .ok (.getfield 75, 3) := by decide +kernel
theorem dX12_bind_11 : decode cX12_bind 11 = .ok (.aload_n 0, 1) := by decide +kernel
theorem dX12_bind_12 : decode cX12_bind 12 = .ok (.getfield 287, 3) := by decide +kernel
theorem dX12_bind_15 : decode cX12_bind 15 = .ok (.iconst 1, 1) := by decide +kernel
theorem dX12_bind_16 : decode cX12_bind 16 = .ok (.isub, 1) := by decide +kernel
theorem dX12_bind_17 : decode cX12_bind 17 = .ok (.iaload, 1) := by decide +kernel
theorem dX12_bind_18 : decode cX12_bind 18 = .ok (.invokestatic 290, 3) := by decide +kernel
theorem dX12_bind_21 : decode cX12_bind 21 = .ok (.iload_n 1, 1) := by decide +kernel
theorem dX12_bind_22 : decode cX12_bind 22 = .ok (.if_icmp .lt 79, 3) := by decide +kernel
theorem dX12_bind_25 : decode cX12_bind 25 = .ok (.aload_n 0, 1) := by decide +kernel
theorem dX12_bind_26 : decode cX12_bind 26 = .ok (.dup, 1) := by decide +kernel
theorem dX12_bind_27 : decode cX12_bind 27 = .ok (.getfield 287, 3) := by decide +kernel
theorem dX12_bind_30 : decode cX12_bind 30 = .ok (.iconst 1, 1) := by decide +kernel
theorem dX12_bind_31 : decode cX12_bind 31 = .ok (.isub, 1) := by decide +kernel
theorem dX12_bind_32 : decode cX12_bind 32 = .ok (.putfield 287, 3) := by decide +kernel
theorem dX12_bind_35 : decode cX12_bind 35 = .ok (.aload_n 0, 1) := by decide +kernel
theorem dX12_bind_36 : decode cX12_bind 36 = .ok (.getfield 78, 3) := by decide +kernel
theorem dX12_bind_39 : decode cX12_bind 39 = .ok (.aload_n 0, 1) := by decide +kernel
theorem dX12_bind_40 : decode cX12_bind 40 = .ok (.getfield 287, 3) := by decide +kernel
theorem dX12_bind_43 : decode cX12_bind 43 = .ok (.iaload, 1) := by decide +kernel
theorem dX12_bind_44 : decode cX12_bind 44 = .ok (.istore_n 2, 1) := by decide +kernel
theorem dX12_bind_45 : decode cX12_bind 45 = .ok (.aload_n 0, 1) := by decide +kernel
theorem dX12_bind_46 : decode cX12_bind 46 = .ok (.getfield 75, 3) := by decide +kernel
theorem dX12_bind_49 : decode cX12_bind 49 = .ok (.aload_n 0, 1) := by decide +kernel
theorem dX12_bind_50 : decode cX12_bind 50 = .ok (.getfield 287, 3) := by decide +kernel
theorem dX12_bind_53 : decode cX12_bind 53 = .ok (.iaload, 1) := by decide +kernel
theorem dX12_bind_54 : decode cX12_bind 54 = .ok (.bipush 11, 2) := by decide +kernel
theorem dX12_bind_56 : decode cX12_bind 56 = .ok (.if_icmp .eq 27, 3) := by decide +kernel
theorem dX12_bind_59 : decode cX12_bind 59 = .ok (.aload_n 0, 1) := by decide +kernel
theorem dX12_bind_60 : decode cX12_bind 60 = .ok (.getfield 75, 3) := by decide +kernel
theorem dX12_bind_63 : decode cX12_bind 63 = .ok (.aload_n 0, 1) := by decide +kernel
theorem dX12_bind_64 : decode cX12_bind 64 = .ok (.getfield 287, 3) := by decide +kernel
theorem dX12_bind_67 : decode cX12_bind 67 = .ok (.iaload, 1) := by decide +kernel
theorem dX12_bind_68 : decode cX12_bind 68 = .ok (.bipush 12, 2) := by decide +kernel
theorem dX12_bind_70 : decode cX12_bind 70 = .ok (.if_icmp .eq 13, 3) := by decide +kernel
theorem dX12_bind_73 : decode cX12_bind 73 = .ok (.aload_n 0, 1) := by decide +kernel
theorem dX12_bind_74 : decode cX12_bind 74 = .ok (.getfield 51, 3) := by decide +kernel
theorem dX12_bind_77 : decode cX12_bind 77 = .ok (.iload_n 2, 1) := by decide +kernel
theorem dX12_bind_78 : decode cX12_bind 78 = .ok (.aload_n 0, 1) := by decide +kernel
theorem dX12_bind_79 : decode cX12_bind 79 = .ok (.invokevirtual 293, 3) := by decide +kernel
theorem dX12_bind_82 : decode cX12_bind 82 = .ok (.iastore, 1) := by decide +kernel
theorem dX12_bind_83 : decode cX12_bind 83 = .ok (.aload_n 0, 1) := by decide +kernel
theorem dX12_bind_84 : decode cX12_bind 84 = .ok (.getfield 48, 3) := by decide +kernel
theorem dX12_bind_87 : decode cX12_bind 87 = .ok (.iload_n 2, 1) := by decide +kernel
theorem dX12_bind_88 : decode cX12_bind 88 = .ok (.aload_n 0, 1) := by decide +kernel
theorem dX12_bind_89 : decode cX12_bind 89 = .ok (.invokevirtual 293, 3) := by decide +kernel
theorem dX12_bind_92 : decode cX12_bind 92 = .ok (.iastore, 1) := by decide +kernel
theorem dX12_bind_93 : decode cX12_bind 93 = .ok (.aload_n 0, 1) := by decide +kernel
theorem dX12_bind_94 : decode cX12_bind 94 = .ok (.iload_n 2, 1) := by decide +kernel
theorem dX12_bind_95 : decode cX12_bind 95 = .ok (.invokevirtual 297, 3) := by decide +kernel
theorem dX12_bind_98 : decode cX12_bind 98 = .ok (.goto (-98), 3) := by decide +kernel
theorem dX12_bind_101 : decode cX12_bind 101 = .ok (.return_, 1) := by decide +kernel
theorem dX12_waitFor_0 : decode cX12_waitFor 0 = .ok (.aload_n 0, 1) := by decide +kernel
theorem dX12_waitFor_1 : decode cX12_waitFor 1 = .ok (.getfield 75, 3) := by decide +kernel
theorem dX12_waitFor_4 : decode cX12_waitFor 4 = .ok (.aload_n 0, 1) := by decide +kernel
theorem dX12_waitFor_5 : decode cX12_waitFor 5 = .ok (.getfield 287, 3) := by decide +kernel
theorem dX12_waitFor_8 : decode cX12_waitFor 8 = .ok (.iload_n 1, 1) := by decide +kernel
theorem dX12_waitFor_9 : decode cX12_waitFor 9 = .ok (.iastore, 1) := by decide +kernel
theorem dX12_waitFor_10 : decode cX12_waitFor 10 = .ok (.aload_n 0, 1) := by decide +kernel
theorem dX12_waitFor_11 : decode cX12_waitFor 11 = .ok (.getfield 78, 3) := by decide +kernel
theorem dX12_waitFor_14 : decode cX12_waitFor 14 = .ok (.aload_n 0, 1) := by decide +kernel
theorem dX12_waitFor_15 : decode cX12_waitFor 15 = .ok (.getfield 287, 3) := by decide +kernel
theorem dX12_waitFor_18 : decode cX12_waitFor 18 = .ok (.iload_n 2, 1) := by decide +kernel
theorem dX12_waitFor_19 : decode cX12_waitFor 19 = .ok (.iastore, 1) := by decide +kernel
theorem dX12_waitFor_20 : decode cX12_waitFor 20 = .ok (.aload_n 0, 1) := by decide +kernel
theorem dX12_waitFor_21 : decode cX12_waitFor 21 = .ok (.dup, 1) := by decide +kernel
theorem dX12_waitFor_22 : decode cX12_waitFor 22 = .ok (.getfield 287, 3) := by decide +kernel
theorem dX12_waitFor_25 : decode cX12_waitFor 25 = .ok (.iconst 1, 1) := by decide +kernel
theorem dX12_waitFor_26 : decode cX12_waitFor 26 = .ok (.iadd, 1) := by decide +kernel
theorem dX12_waitFor_27 : decode cX12_waitFor 27 = .ok (.putfield 287, 3) := by decide +kernel
theorem dX12_waitFor_30 : decode cX12_waitFor 30 = .ok (.return_, 1) := by decide +kernel
theorem dX12_ofOne_0 : decode cX12_ofOne 0 = .ok (.aload_n 0, 1) := by decide +kernel
theorem dX12_ofOne_1 : decode cX12_ofOne 1 = .ok (.iload_n 1, 1) := by decide +kernel
theorem dX12_ofOne_2 : decode cX12_ofOne 2 = .ok (.iconst 0, 1) := by decide +kernel
theorem dX12_ofOne_3 : decode cX12_ofOne 3 = .ok (.invokevirtual 300, 3) := by decide +kernel
theorem dX12_ofOne_6 : decode cX12_ofOne 6 = .ok (.istore_n 2, 1) := by decide +kernel
theorem dX12_ofOne_7 : decode cX12_ofOne 7 = .ok (.iload_n 2, 1) := by decide +kernel
theorem dX12_ofOne_8 : decode cX12_ofOne 8 = .ok (.ifCond .ge 5, 3) := by decide +kernel
theorem dX12_ofOne_11 : decode cX12_ofOne 11 = .ok (.iconst 0, 1) := by decide +kernel
theorem dX12_ofOne_12 : decode cX12_ofOne 12 = .ok (.ireturn, 1) := by decide +kernel
theorem dX12_ofOne_13 : decode cX12_ofOne 13 = .ok (.aload_n 0, 1) := by decide +kernel
theorem dX12_ofOne_14 : decode cX12_ofOne 14 = .ok (.iload_n 1, 1) := by decide +kernel
theorem dX12_ofOne_15 : decode cX12_ofOne 15 = .ok (.iload_n 2, 1) := by decide +kernel
theorem dX12_ofOne_16 : decode cX12_ofOne 16 = .ok (.invokevirtual 303, 3) := by decide +kernel
theorem dX12_ofOne_19 : decode cX12_ofOne 19 = .ok (.iload_n 1, 1) := by decide +kernel
theorem dX12_ofOne_20 : decode cX12_ofOne 20 = .ok (.bipush 11, 2) := by decide +kernel
theorem dX12_ofOne_22 : decode cX12_ofOne 22 = .ok (.if_icmp .ne 8, 3) := by decide +kernel
theorem dX12_ofOne_25 : decode cX12_ofOne 25 = .ok (.aload_n 0, 1) := by decide +kernel
theorem dX12_ofOne_26 : decode cX12_ofOne 26 = .ok (.iconst 0, 1) := by decide +kernel
theorem dX12_ofOne_27 : decode cX12_ofOne 27 = .ok (.putfield 307, 3) := by decide +kernel
theorem dX12_ofOne_30 : decode cX12_ofOne 30 = .ok (.aload_n 0, 1) := by decide +kernel
theorem dX12_ofOne_31 : decode cX12_ofOne 31 = .ok (.invokevirtual 311, 3) := by decide +kernel
theorem dX12_ofOne_34 : decode cX12_ofOne 34 = .ok (.iconst 1, 1) := by decide +kernel
theorem dX12_ofOne_35 : decode cX12_ofOne 35 = .ok (.ireturn, 1) := by decide +kernel
theorem dX12_number_0 : decode cX12_number 0 = .ok (.aload_n 0, 1) := by decide +kernel
theorem dX12_number_1 : decode cX12_number 1 = .ok (.getfield 254, 3) := by decide +kernel
theorem dX12_number_4 : decode cX12_number 4 = .ok (.iconst 2, 1) := by decide +kernel
theorem dX12_number_5 : decode cX12_number 5 = .ok (.if_icmp .eq 9, 3) := by decide +kernel
theorem dX12_number_8 : decode cX12_number 8 = .ok (.aload_n 0, 1) := by decide +kernel
theorem dX12_number_9 : decode cX12_number 9 = .ok (.iconst 1, 1) := by decide +kernel
theorem dX12_number_10 : decode cX12_number 10 = .ok (.invokevirtual 278, 3) := by decide +kernel
theorem dX12_number_13 : decode cX12_number 13 = .ok (.ireturn, 1) := by decide +kernel
theorem dX12_number_14 : decode cX12_number 14 = .ok (.aload_n 0, 1) := by decide +kernel
theorem dX12_number_15 : decode cX12_number 15 = .ok (.getfield 264, 3) := by decide +kernel
theorem dX12_number_18 : decode cX12_number 18 = .ok (.iload_n 1, 1) := by decide +kernel
theorem dX12_number_19 : decode cX12_number 19 = .ok (.if_icmp .lt 11, 3) := by decide +kernel
theorem dX12_number_22 : decode cX12_number 22 = .ok (.aload_n 0, 1) := by decide +kernel
theorem dX12_number_23 : decode cX12_number 23 = .ok (.getfield 264, 3) := by decide +kernel
theorem dX12_number_26 : decode cX12_number 26 = .ok (.iload_n 2, 1) := by decide +kernel
theorem dX12_number_27 : decode cX12_number 27 = .ok (.if_icmp .le 11, 3) := by decide +kernel
theorem dX12_number_30 : decode cX12_number 30 = .ok (.aload_n 0, 1) := by decide +kernel
theorem dX12_number_31 : decode cX12_number 31 = .ok (.iconst 2, 1) := by decide +kernel
theorem dX12_number_32 : decode cX12_number 32 = .ok (.invokevirtual 278, 3) := by decide +kernel
theorem dX12_number_35 : decode cX12_number 35 = .ok (.ifCond .eq 7, 3) := by decide +kernel
theorem dX12_number_38 : decode cX12_number 38 = .ok (.iconst 1, 1) := by decide +kernel
theorem dX12_number_39 : decode cX12_number 39 = .ok (.goto 4, 3) := by decide +kernel
theorem dX12_number_42 : decode cX12_number 42 = .ok (.iconst 0, 1) := by decide +kernel
theorem dX12_number_43 : decode cX12_number 43 = .ok (.ireturn, 1) := by decide +kernel
theorem dX12_sign_0 : decode cX12_sign 0 = .ok (.aload_n 0, 1) := by decide +kernel
theorem dX12_sign_1 : decode cX12_sign 1 = .ok (.iload_n 1, 1) := by decide +kernel
theorem dX12_sign_2 : decode cX12_sign 2 = .ok (.invokevirtual 314, 3) := by decide +kernel
theorem dX12_sign_5 : decode cX12_sign 5 = .ok (.ifCond .ne 9, 3) := by decide +kernel
theorem dX12_sign_8 : decode cX12_sign 8 = .ok (.aload_n 0, 1) := by decide +kernel
theorem dX12_sign_9 : decode cX12_sign 9 = .ok (.iconst 1, 1) := by decide +kernel
theorem dX12_sign_10 : decode cX12_sign 10 = .ok (.invokevirtual 278, 3) := by decide +kernel
theorem dX12_sign_13 : decode cX12_sign 13 = .ok (.ireturn, 1) := by decide +kernel
theorem dX12_sign_14 : decode cX12_sign 14 = .ok (.aload_n 0, 1) := by decide +kernel
theorem dX12_sign_15 : decode cX12_sign 15 = .ok (.invokevirtual 311, 3) := by decide +kernel
theorem dX12_sign_18 : decode cX12_sign 18 = .ok (.iconst 1, 1) := by decide +kernel
theorem dX12_sign_19 : decode cX12_sign 19 = .ok (.ireturn, 1) := by decide +kernel
theorem dX12_whatRead_0 : decode cX12_whatRead 0 = .ok (.aload_n 0, 1) := by decide +kernel
theorem dX12_whatRead_1 : decode cX12_whatRead 1 = .ok (.bipush 15, 2) := by decide +kernel
theorem dX12_whatRead_3 : decode cX12_whatRead 3 = .ok (.iconst 0, 1) := by decide +kernel
theorem dX12_whatRead_4 : decode cX12_whatRead 4 = .ok (.invokevirtual 300, 3) := by decide +kernel
theorem dX12_whatRead_7 : decode cX12_whatRead 7 = .ok (.istore_n 1, 1) := by decide +kernel
theorem dX12_whatRead_8 : decode cX12_whatRead 8 = .ok (.iload_n 1, 1) := by decide +kernel
theorem dX12_whatRead_9 : decode cX12_whatRead 9 = .ok (.ifCond .ge 5, 3) := by decide +kernel
theorem dX12_whatRead_12 : decode cX12_whatRead 12 = .ok (.iconst 0, 1) := by decide +kernel
theorem dX12_whatRead_13 : decode cX12_whatRead 13 = .ok (.ireturn, 1) := by decide +kernel
theorem dX12_whatRead_14 : decode cX12_whatRead 14 = .ok (.aload_n 0, 1) := by decide +kernel
theorem dX12_whatRead_15 : decode cX12_whatRead 15 = .ok (.getfield 57, 3) := by decide +kernel
theorem dX12_whatRead_18 : decode cX12_whatRead 18 = .ok (.iload_n 1, 1) := by decide +kernel
theorem dX12_whatRead_19 : decode cX12_whatRead 19 = .ok (.aload_n 0, 1) := by decide +kernel
theorem dX12_whatRead_20 : decode cX12_whatRead 20 = .ok (.getfield 264, 3) := by decide +kernel
theorem dX12_whatRead_23 : decode cX12_whatRead 23 = .ok (.iastore, 1) := by decide +kernel
theorem dX12_whatRead_24 : decode cX12_whatRead 24 = .ok (.aload_n 0, 1) := by decide +kernel
theorem dX12_whatRead_25 : decode cX12_whatRead 25 = .ok (.invokevirtual 311, 3) := by decide +kernel
theorem dX12_whatRead_28 : decode cX12_whatRead 28 = .ok (.aload_n 0, 1) := by decide +kernel
theorem dX12_whatRead_29 : decode cX12_whatRead 29 = .ok (.bipush 40, 2) := by decide +kernel
theorem dX12_whatRead_31 : decode cX12_whatRead 31 = .ok (.invokevirtual 314, 3) := by decide +kernel
theorem dX12_whatRead_34 : decode cX12_whatRead 34 = .ok (.ifCond .eq 18, 3) := by decide +kernel
theorem dX12_whatRead_37 : decode cX12_whatRead 37 = .ok (.aload_n 0, 1) := by decide +kernel
theorem dX12_whatRead_38 : decode cX12_whatRead 38 = .ok (.getfield 317, 3) := by decide +kernel
theorem dX12_whatRead_41 : decode cX12_whatRead 41 = .ok (.bipush 8, 2) := by decide +kernel
theorem dX12_whatRead_43 : decode cX12_whatRead 43 = .ok (.if_icmp .ne 9, 3) := by decide +kernel
theorem dX12_whatRead_46 : decode cX12_whatRead 46 = .ok (.aload_n 0, 1) := by decide +kernel
theorem dX12_whatRead_47 : decode cX12_whatRead 47 = .ok (.iconst 2, 1) := by decide +kernel
theorem dX12_whatRead_48 : decode cX12_whatRead 48 = .ok (.invokevirtual 278, 3) := by decide +kernel
theorem dX12_whatRead_51 : decode cX12_whatRead 51 = .ok (.ireturn, 1) := by decide +kernel
theorem dX12_whatRead_52 : decode cX12_whatRead 52 = .ok (.aload_n 0, 1) := by decide +kernel
theorem dX12_whatRead_53 : decode cX12_whatRead 53 = .ok (.bipush 40, 2) := by decide +kernel
theorem dX12_whatRead_55 : decode cX12_whatRead 55 = .ok (.invokevirtual 320, 3) := by decide +kernel
theorem dX12_whatRead_58 : decode cX12_whatRead 58 = .ok (.ifCond .ne 5, 3) := by decide +kernel
theorem dX12_whatRead_61 : decode cX12_whatRead 61 = .ok (.iconst 0, 1) := by decide +kernel
theorem dX12_whatRead_62 : decode cX12_whatRead 62 = .ok (.ireturn, 1) := by decide +kernel
theorem dX12_whatRead_63 : decode cX12_whatRead 63 = .ok (.aload_n 0, 1) := by decide +kernel
theorem dX12_whatRead_64 : decode cX12_whatRead 64 = .ok (.getfield 254, 3) := by decide +kernel
theorem dX12_whatRead_67 : decode cX12_whatRead 67 = .ok (.iconst 1, 1) := by decide +kernel
theorem dX12_whatRead_68 : decode cX12_whatRead 68 = .ok (.if_icmp .ne 12, 3) := by decide +kernel
theorem dX12_whatRead_71 : decode cX12_whatRead 71 = .ok (.aload_n 0, 1) := by decide +kernel
theorem dX12_whatRead_72 : decode cX12_whatRead 72 = .ok (.getfield 264, 3) := by decide +kernel
theorem dX12_whatRead_75 : decode cX12_whatRead 75 = .ok (.bipush 12, 2) := by decide +kernel
theorem dX12_whatRead_77 : decode cX12_whatRead 77 = .ok (.if_icmp .ge 9, 3) := by decide +kernel
theorem dX12_whatRead_80 : decode cX12_whatRead 80 = .ok (.aload_n 0, 1) := by decide +kernel
theorem dX12_whatRead_81 : decode cX12_whatRead 81 = .ok (.iconst 1, 1) := by decide +kernel
theorem dX12_whatRead_82 : decode cX12_whatRead 82 = .ok (.invokevirtual 278, 3) := by decide +kernel
theorem dX12_whatRead_85 : decode cX12_whatRead 85 = .ok (.ireturn, 1) := by decide +kernel
theorem dX12_whatRead_86 : decode cX12_whatRead 86 = .ok (.aload_n 0, 1) := by decide +kernel
theorem dX12_whatRead_87 : decode cX12_whatRead 87 = .ok (.getfield 60, 3) := by decide +kernel
theorem dX12_whatRead_90 : decode cX12_whatRead 90 = .ok (.iload_n 1, 1) := by decide +kernel
theorem dX12_whatRead_91 : decode cX12_whatRead 91 = .ok (.aload_n 0, 1) := by decide +kernel
theorem dX12_whatRead_92 : decode cX12_whatRead 92 = .ok (.getfield 264, 3) := by decide +kernel
theorem dX12_whatRead_95 : decode cX12_whatRead 95 = .ok (.bipush 12, 2) := by decide +kernel
theorem dX12_whatRead_97 : decode cX12_whatRead 97 = .ok (.isub, 1) := by decide +kernel
theorem dX12_whatRead_98 : decode cX12_whatRead 98 = .ok (.iastore, 1) := by decide +kernel
theorem dX12_whatRead_99 : decode cX12_whatRead 99 = .ok (.aload_n 0, 1) := by decide +kernel
theorem dX12_whatRead_100 : decode cX12_whatRead 100 = .ok (.invokevirtual 311, 3) := by decide +kernel
theorem dX12_whatRead_103 : decode cX12_whatRead 103 = .ok (.aload_n 0, 1) := by decide +kernel
theorem dX12_whatRead_104 : decode cX12_whatRead 104 = .ok (.bipush 44, 2) := by decide +kernel
theorem dX12_whatRead_106 : decode cX12_whatRead 106 = .ok (.invokevirtual 320, 3) := by decide +kernel
theorem dX12_whatRead_109 : decode cX12_whatRead 109 = .ok (.ifCond .eq 13, 3) := by decide +kernel
theorem dX12_whatRead_112 : decode cX12_whatRead 112 = .ok (.aload_n 0, 1) := by decide +kernel
theorem dX12_whatRead_113 : decode cX12_whatRead 113 = .ok (.iconst 1, 1) := by decide +kernel
theorem dX12_whatRead_114 : decode cX12_whatRead 114 = .ok (.bipush 48, 2) := by decide +kernel
theorem dX12_whatRead_116 : decode cX12_whatRead 116 = .ok (.invokevirtual 323, 3) := by decide +kernel
theorem dX12_whatRead_119 : decode cX12_whatRead 119 = .ok (.ifCond .ne 5, 3) := by decide +kernel
theorem dX12_whatRead_122 : decode cX12_whatRead 122 = .ok (.iconst 0, 1) := by decide +kernel
theorem dX12_whatRead_123 : decode cX12_whatRead 123 = .ok (.ireturn, 1) := by decide +kernel
theorem dX12_whatRead_124 : decode cX12_whatRead 124 = .ok (.aload_n 0, 1) := by decide +kernel
theorem dX12_whatRead_125 : decode cX12_whatRead 125 = .ok (.getfield 54, 3) := by decide +kernel
theorem dX12_whatRead_128 : decode cX12_whatRead 128 = .ok (.iload_n 1, 1) := by decide +kernel
theorem dX12_whatRead_129 : decode cX12_whatRead 129 = .ok (.aload_n 0, 1) := by decide +kernel
theorem dX12_whatRead_130 : decode cX12_whatRead 130 = .ok (.getfield 264, 3) := by decide +kernel
theorem dX12_whatRead_133 : decode cX12_whatRead 133 = .ok (.iastore, 1) := by decide +kernel
theorem dX12_whatRead_134 : decode cX12_whatRead 134 = .ok (.aload_n 0, 1) := by decide +kernel
theorem dX12_whatRead_135 : decode cX12_whatRead 135 = .ok (.invokevirtual 311, 3) := by decide +kernel
theorem dX12_whatRead_138 : decode cX12_whatRead 138 = .ok (.aload_n 0, 1) := by decide +kernel
theorem dX12_whatRead_139 : decode cX12_whatRead 139 = .ok (.bipush 41, 2) := by decide +kernel
theorem dX12_whatRead_141 : decode cX12_whatRead 141 = .ok (.invokevirtual 320, 3) := by decide +kernel
theorem dX12_whatRead_144 : decode cX12_whatRead 144 = .ok (.ifCond .ne 5, 3) := by decide +kernel
theorem dX12_whatRead_147 : decode cX12_whatRead 147 = .ok (.iconst 0, 1) := by decide +kernel
theorem dX12_whatRead_148 : decode cX12_whatRead 148 = .ok (.ireturn, 1) := by decide +kernel
theorem dX12_whatRead_149 : decode cX12_whatRead 149 = .ok (.aload_n 0, 1) := by decide +kernel
theorem dX12_whatRead_150 : decode cX12_whatRead 150 = .ok (.iconst 0, 1) := by decide +kernel
theorem dX12_whatRead_151 : decode cX12_whatRead 151 = .ok (.putfield 326, 3) := by decide +kernel
theorem dX12_whatRead_154 : decode cX12_whatRead 154 = .ok (.aload_n 0, 1) := by decide +kernel
theorem dX12_whatRead_155 : decode cX12_whatRead 155 = .ok (.iload_n 1, 1) := by decide +kernel
theorem dX12_whatRead_156 : decode cX12_whatRead 156 = .ok (.invokevirtual 297, 3) := by decide +kernel
theorem dX12_whatRead_159 : decode cX12_whatRead 159 = .ok (.iconst 1, 1) := by decide +kernel
theorem dX12_whatRead_160 : decode cX12_whatRead 160 = .ok (.ireturn, 1) := by decide +kernel
theorem dX12_valueRead_0 : decode cX12_valueRead 0 = .ok (.aload_n 0, 1) := by decide +kernel
theorem dX12_valueRead_1 : decode cX12_valueRead 1 = .ok (.bipush 40, 2) := by decide +kernel
theorem dX12_valueRead_3 : decode cX12_valueRead 3 = .ok (.invokevirtual 314, 3) := by decide +kernel
theorem dX12_valueRead_6 : decode cX12_valueRead 6 = .ok (.ifCond .eq 64, 3) := by decide +kernel
theorem dX12_valueRead_9 : decode cX12_valueRead 9 = .ok (.aload_n 0, 1) := by decide +kernel
theorem dX12_valueRead_10 : decode cX12_valueRead 10 = .ok (.getfield 317, 3) := by decide +kernel
theorem dX12_valueRead_13 : decode cX12_valueRead 13 = .ok (.bipush 8, 2) := by decide +kernel
theorem dX12_valueRead_15 : decode cX12_valueRead 15 = .ok (.if_icmp .ne 9, 3) := by decide +kernel
theorem dX12_valueRead_18 : decode cX12_valueRead 18 = .ok (.aload_n 0, 1) := by decide +kernel
theorem dX12_valueRead_19 : decode cX12_valueRead 19 = .ok (.iconst 2, 1) := by decide +kernel
theorem dX12_valueRead_20 : decode cX12_valueRead 20 = .ok (.invokevirtual 278, 3) := by decide +kernel
theorem dX12_valueRead_23 : decode cX12_valueRead 23 = .ok (.ireturn, 1) := by decide +kernel
theorem dX12_valueRead_24 : decode cX12_valueRead 24 = .ok (.aload_n 0, 1) := by decide +kernel
theorem dX12_valueRead_25 : decode cX12_valueRead 25 = .ok (.getfield 84, 3) := by decide +kernel
theorem dX12_valueRead_28 : decode cX12_valueRead 28 = .ok (.aload_n 0, 1) := by decide +kernel
theorem dX12_valueRead_29 : decode cX12_valueRead 29 = .ok (.getfield 317, 3) := by decide +kernel
theorem dX12_valueRead_32 : decode cX12_valueRead 32 = .ok (.aload_n 0, 1) := by decide +kernel
theorem dX12_valueRead_33 : decode cX12_valueRead 33 = .ok (.getfield 329, 3) := by decide +kernel
theorem dX12_valueRead_36 : decode cX12_valueRead 36 = .ok (.bastore, 1) := by decide +kernel
theorem dX12_valueRead_37 : decode cX12_valueRead 37 = .ok (.aload_n 0, 1) := by decide +kernel
theorem dX12_valueRead_38 : decode cX12_valueRead 38 = .ok (.dup, 1) := by decide +kernel
theorem dX12_valueRead_39 : decode cX12_valueRead 39 = .ok (.getfield 317, 3) := by decide +kernel
theorem dX12_valueRead_42 : decode cX12_valueRead 42 = .ok (.iconst 1, 1) := by decide +kernel
theorem dX12_valueRead_43 : decode cX12_valueRead 43 = .ok (.iadd, 1) := by decide +kernel
theorem dX12_valueRead_44 : decode cX12_valueRead 44 = .ok (.putfield 317, 3) := by decide +kernel
theorem dX12_valueRead_47 : decode cX12_valueRead 47 = .ok (.aload_n 0, 1) := by decide +kernel
theorem dX12_valueRead_48 : decode cX12_valueRead 48 = .ok (.bipush 100, 2) := by decide +kernel
theorem dX12_valueRead_50 : decode cX12_valueRead 50 = .ok (.iconst (-1), 1) := by decide +kernel
theorem dX12_valueRead_51 : decode cX12_valueRead 51 = .ok (.invokevirtual 303, 3) := by decide +kernel
theorem dX12_valueRead_54 : decode cX12_valueRead 54 = .ok (.aload_n 0, 1) := by decide +kernel
theorem dX12_valueRead_55 : decode cX12_valueRead 55 = .ok (.iconst 0, 1) := by decide +kernel
theorem dX12_valueRead_56 : decode cX12_valueRead 56 = .ok (.putfield 329, 3) := by decide +kernel
theorem dX12_valueRead_59 : decode cX12_valueRead 59 = .ok (.aload_n 0, 1) := by decide +kernel
theorem dX12_valueRead_60 : decode cX12_valueRead 60 = .ok (.iconst 1, 1) := by decide +kernel
theorem dX12_valueRead_61 : decode cX12_valueRead 61 = .ok (.putfield 307, 3) := by decide +kernel
theorem dX12_valueRead_64 : decode cX12_valueRead 64 = .ok (.aload_n 0, 1) := by decide +kernel
theorem dX12_valueRead_65 : decode cX12_valueRead 65 = .ok (.invokevirtual 311, 3) := by decide +kernel
theorem dX12_valueRead_68 : decode cX12_valueRead 68 = .ok (.iconst 1, 1) := by decide +kernel
theorem dX12_valueRead_69 : decode cX12_valueRead 69 = .ok (.ireturn, 1) := by decide +kernel
theorem dX12_valueRead_70 : decode cX12_valueRead 70 = .ok (.aload_n 0, 1) := by decide +kernel
theorem dX12_valueRead_71 : decode cX12_valueRead 71 = .ok (.bipush 8, 2) := by decide +kernel
theorem dX12_valueRead_73 : decode cX12_valueRead 73 = .ok (.invokevirtual 314, 3) := by decide +kernel
theorem dX12_valueRead_76 : decode cX12_valueRead 76 = .ok (.ifCond .eq 10, 3) := by decide +kernel
theorem dX12_valueRead_79 : decode cX12_valueRead 79 = .ok (.aload_n 0, 1) := by decide +kernel
theorem dX12_valueRead_80 : decode cX12_valueRead 80 = .ok (.bipush 11, 2) := by decide +kernel
theorem dX12_valueRead_82 : decode cX12_valueRead 82 = .ok (.invokevirtual 332, 3) := by decide +kernel
theorem dX12_valueRead_85 : decode cX12_valueRead 85 = .ok (.ireturn, 1) := by decide +kernel
theorem dX12_valueRead_86 : decode cX12_valueRead 86 = .ok (.aload_n 0, 1) := by decide +kernel
theorem dX12_valueRead_87 : decode cX12_valueRead 87 = .ok (.getfield 254, 3) := by decide +kernel
theorem dX12_valueRead_90 : decode cX12_valueRead 90 = .ok (.iconst 1, 1) := by decide +kernel
theorem dX12_valueRead_91 : decode cX12_valueRead 91 = .ok (.if_icmp .ne 25, 3) := by decide +kernel
theorem dX12_valueRead_94 : decode cX12_valueRead 94 = .ok (.aload_n 0, 1) := by decide +kernel
theorem dX12_valueRead_95 : decode cX12_valueRead 95 = .ok (.getfield 264, 3) := by decide +kernel
theorem dX12_valueRead_98 : decode cX12_valueRead 98 = .ok (.iconst 4, 1) := by decide +kernel
theorem dX12_valueRead_99 : decode cX12_valueRead 99 = .ok (.if_icmp .ne 17, 3) := by decide +kernel
theorem dX12_valueRead_102 : decode cX12_valueRead 102 = .ok (.aload_n 0, 1) := by decide +kernel
theorem dX12_valueRead_103 : decode cX12_valueRead 103 = .ok (.getfield 307, 3) := by decide +kernel
theorem dX12_valueRead_106 : decode cX12_valueRead 106 = .ok (.ifCond .eq 10, 3) := by decide +kernel
theorem dX12_valueRead_109 : decode cX12_valueRead 109 = .ok (.aload_n 0, 1) := by decide +kernel
theorem dX12_valueRead_110 : decode cX12_valueRead 110 = .ok (.bipush 12, 2) := by decide +kernel
theorem dX12_valueRead_112 : decode cX12_valueRead 112 = .ok (.invokevirtual 332, 3) := by decide +kernel
theorem dX12_valueRead_115 : decode cX12_valueRead 115 = .ok (.ireturn, 1) := by decide +kernel
theorem dX12_valueRead_116 : decode cX12_valueRead 116 = .ok (.aload_n 0, 1) := by decide +kernel
theorem dX12_valueRead_117 : decode cX12_valueRead 117 = .ok (.getfield 254, 3) := by decide +kernel
theorem dX12_valueRead_120 : decode cX12_valueRead 120 = .ok (.iconst 1, 1) := by decide +kernel
theorem dX12_valueRead_121 : decode cX12_valueRead 121 = .ok (.if_icmp .ne 25, 3) := by decide +kernel
theorem dX12_valueRead_124 : decode cX12_valueRead 124 = .ok (.aload_n 0, 1) := by decide +kernel
theorem dX12_valueRead_125 : decode cX12_valueRead 125 = .ok (.getfield 264, 3) := by decide +kernel
theorem dX12_valueRead_128 : decode cX12_valueRead 128 = .ok (.iconst 5, 1) := by decide +kernel
theorem dX12_valueRead_129 : decode cX12_valueRead 129 = .ok (.if_icmp .lt 17, 3) := by decide +kernel
theorem dX12_valueRead_132 : decode cX12_valueRead 132 = .ok (.aload_n 0, 1) := by decide +kernel
theorem dX12_valueRead_133 : decode cX12_valueRead 133 = .ok (.getfield 264, 3) := by decide +kernel
theorem dX12_valueRead_136 : decode cX12_valueRead 136 = .ok (.bipush 11, 2) := by decide +kernel
theorem dX12_valueRead_138 : decode cX12_valueRead 138 = .ok (.if_icmp .gt 8, 3) := by decide +kernel
theorem dX12_valueRead_141 : decode cX12_valueRead 141 = .ok (.aload_n 0, 1) := by decide +kernel
theorem dX12_valueRead_142 : decode cX12_valueRead 142 = .ok (.invokevirtual 335, 3) := by decide +kernel
theorem dX12_valueRead_145 : decode cX12_valueRead 145 = .ok (.ireturn, 1) := by decide +kernel
theorem dX12_valueRead_146 : decode cX12_valueRead 146 = .ok (.aload_n 0, 1) := by decide +kernel
theorem dX12_valueRead_147 : decode cX12_valueRead 147 = .ok (.iconst 0, 1) := by decide +kernel
theorem dX12_valueRead_148 : decode cX12_valueRead 148 = .ok (.ldc_w 270, 3) := by decide +kernel
theorem dX12_valueRead_151 : decode cX12_valueRead 151 = .ok (.invokevirtual 323, 3) := by decide +kernel
theorem dX12_valueRead_154 : decode cX12_valueRead 154 = .ok (.ifCond .ne 5, 3) := by decide +kernel
theorem dX12_valueRead_157 : decode cX12_valueRead 157 = .ok (.iconst 0, 1) := by decide +kernel
theorem dX12_valueRead_158 : decode cX12_valueRead 158 = .ok (.ireturn, 1) := by decide +kernel
theorem dX12_valueRead_159 : decode cX12_valueRead 159 = .ok (.aload_n 0, 1) := by decide +kernel
theorem dX12_valueRead_160 : decode cX12_valueRead 160 = .ok (.iconst 0, 1) := by decide +kernel
theorem dX12_valueRead_161 : decode cX12_valueRead 161 = .ok (.aload_n 0, 1) := by decide +kernel
theorem dX12_valueRead_162 : decode cX12_valueRead 162 = .ok (.getfield 264, 3) := by decide +kernel
theorem dX12_valueRead_165 : decode cX12_valueRead 165 = .ok (.invokevirtual 300, 3) := by decide +kernel
theorem dX12_valueRead_168 : decode cX12_valueRead 168 = .ok (.istore_n 1, 1) := by decide +kernel
theorem dX12_valueRead_169 : decode cX12_valueRead 169 = .ok (.iload_n 1, 1) := by decide +kernel
theorem dX12_valueRead_170 : decode cX12_valueRead 170 = .ok (.ifCond .ge 5, 3) := by decide +kernel
theorem dX12_valueRead_173 : decode cX12_valueRead 173 = .ok (.iconst 0, 1) := by decide +kernel
theorem dX12_valueRead_174 : decode cX12_valueRead 174 = .ok (.ireturn, 1) := by decide +kernel
theorem dX12_valueRead_175 : decode cX12_valueRead 175 = .ok (.aload_n 0, 1) := by decide +kernel
theorem dX12_valueRead_176 : decode cX12_valueRead 176 = .ok (.iconst 0, 1) := by decide +kernel
theorem dX12_valueRead_177 : decode cX12_valueRead 177 = .ok (.putfield 326, 3) := by decide +kernel
theorem dX12_valueRead_180 : decode cX12_valueRead 180 = .ok (.aload_n 0, 1) := by decide +kernel
theorem dX12_valueRead_181 : decode cX12_valueRead 181 = .ok (.invokevirtual 311, 3) := by decide +kernel
theorem dX12_valueRead_184 : decode cX12_valueRead 184 = .ok (.aload_n 0, 1) := by decide +kernel
theorem dX12_valueRead_185 : decode cX12_valueRead 185 = .ok (.iload_n 1, 1) := by decide +kernel
theorem dX12_valueRead_186 : decode cX12_valueRead 186 = .ok (.invokevirtual 297, 3) := by decide +kernel
theorem dX12_valueRead_189 : decode cX12_valueRead 189 = .ok (.iconst 1, 1) := by decide +kernel
theorem dX12_valueRead_190 : decode cX12_valueRead 190 = .ok (.ireturn, 1) := by decide +kernel
theorem dX12_signNow_0 : decode cX12_signNow 0 = .ok (.aload_n 0, 1) := by decide +kernel
theorem dX12_signNow_1 : decode cX12_signNow 1 = .ok (.getfield 254, 3) := by decide +kernel
theorem dX12_signNow_4 : decode cX12_signNow 4 = .ok (.iconst 1, 1) := by decide +kernel
theorem dX12_signNow_5 : decode cX12_signNow 5 = .ok (.if_icmp .ne 31, 3) := by decide +kernel
theorem dX12_signNow_8 : decode cX12_signNow 8 = .ok (.aload_n 0, 1) := by decide +kernel
theorem dX12_signNow_9 : decode cX12_signNow 9 = .ok (.getfield 264, 3) := by decide +kernel
theorem dX12_signNow_12 : decode cX12_signNow 12 = .ok (.iconst 3, 1) := by decide +kernel
theorem dX12_signNow_13 : decode cX12_signNow 13 = .ok (.if_icmp .ne 8, 3) := by decide +kernel
theorem dX12_signNow_16 : decode cX12_signNow 16 = .ok (.bipush 13, 2) := by decide +kernel
theorem dX12_signNow_18 : decode cX12_signNow 18 = .ok (.goto 17, 3) := by decide +kernel
theorem dX12_signNow_21 : decode cX12_signNow 21 = .ok (.aload_n 0, 1) := by decide +kernel
theorem dX12_signNow_22 : decode cX12_signNow 22 = .ok (.getfield 264, 3) := by decide +kernel
theorem dX12_signNow_25 : decode cX12_signNow 25 = .ok (.iconst 2, 1) := by decide +kernel
theorem dX12_signNow_26 : decode cX12_signNow 26 = .ok (.if_icmp .ne 8, 3) := by decide +kernel
theorem dX12_signNow_29 : decode cX12_signNow 29 = .ok (.bipush 14, 2) := by decide +kernel
theorem dX12_signNow_31 : decode cX12_signNow 31 = .ok (.goto 4, 3) := by decide +kernel
theorem dX12_signNow_34 : decode cX12_signNow 34 = .ok (.iconst (-1), 1) := by decide +kernel
theorem dX12_signNow_35 : decode cX12_signNow 35 = .ok (.ireturn, 1) := by decide +kernel
theorem dX12_signNow_36 : decode cX12_signNow 36 = .ok (.aload_n 0, 1) := by decide +kernel
theorem dX12_signNow_37 : decode cX12_signNow 37 = .ok (.getfield 254, 3) := by decide +kernel
theorem dX12_signNow_40 : decode cX12_signNow 40 = .ok (.iconst 3, 1) := by decide +kernel
theorem dX12_signNow_41 : decode cX12_signNow 41 = .ok (.if_icmp .ne 19, 3) := by decide +kernel
theorem dX12_signNow_44 : decode cX12_signNow 44 = .ok (.aload_n 0, 1) := by decide +kernel
theorem dX12_signNow_45 : decode cX12_signNow 45 = .ok (.getfield 264, 3) := by decide +kernel
theorem dX12_signNow_48 : decode cX12_signNow 48 = .ok (.bipush 11, 2) := by decide +kernel
theorem dX12_signNow_50 : decode cX12_signNow 50 = .ok (.if_icmp .ge 10, 3) := by decide +kernel
theorem dX12_signNow_53 : decode cX12_signNow 53 = .ok (.aload_n 0, 1) := by decide +kernel
theorem dX12_signNow_54 : decode cX12_signNow 54 = .ok (.getfield 264, 3) := by decide +kernel
theorem dX12_signNow_57 : decode cX12_signNow 57 = .ok (.goto 4, 3) := by decide +kernel
theorem dX12_signNow_60 : decode cX12_signNow 60 = .ok (.iconst (-1), 1) := by decide +kernel
theorem dX12_signNow_61 : decode cX12_signNow 61 = .ok (.ireturn, 1) := by decide +kernel
theorem dX12_joins_0 : decode cX12_joins 0 = .ok (.iload_n 1, 1) := by decide +kernel
theorem dX12_joins_1 : decode cX12_joins 1 = .ok (.bipush 7, 2) := by decide +kernel
theorem dX12_joins_3 : decode cX12_joins 3 = .ok (.if_icmp .ge 7, 3) := by decide +kernel
theorem dX12_joins_6 : decode cX12_joins 6 = .ok (.iconst 1, 1) := by decide +kernel
theorem dX12_joins_7 : decode cX12_joins 7 = .ok (.goto 4, 3) := by decide +kernel
theorem dX12_joins_10 : decode cX12_joins 10 = .ok (.iconst 0, 1) := by decide +kernel
theorem dX12_joins_11 : decode cX12_joins 11 = .ok (.istore_n 2, 1) := by decide +kernel
theorem dX12_joins_12 : decode cX12_joins 12 = .ok (.iload_n 2, 1) := by decide +kernel
theorem dX12_joins_13 : decode cX12_joins 13 = .ok (.ifCond .eq 16, 3) := by decide +kernel
theorem dX12_joins_16 : decode cX12_joins 16 = .ok (.aload_n 0, 1) := by decide +kernel
theorem dX12_joins_17 : decode cX12_joins 17 = .ok (.getfield 329, 3) := by decide +kernel
theorem dX12_joins_20 : decode cX12_joins 20 = .ok (.ifCond .eq 9, 3) := by decide +kernel
theorem dX12_joins_23 : decode cX12_joins 23 = .ok (.aload_n 0, 1) := by decide +kernel
theorem dX12_joins_24 : decode cX12_joins 24 = .ok (.iconst 1, 1) := by decide +kernel
theorem dX12_joins_25 : decode cX12_joins 25 = .ok (.invokevirtual 278, 3) := by decide +kernel
theorem dX12_joins_28 : decode cX12_joins 28 = .ok (.ireturn, 1) := by decide +kernel
theorem dX12_joins_29 : decode cX12_joins 29 = .ok (.aload_n 0, 1) := by decide +kernel
theorem dX12_joins_30 : decode cX12_joins 30 = .ok (.iload_n 1, 1) := by decide +kernel
theorem dX12_joins_31 : decode cX12_joins 31 = .ok (.iconst 0, 1) := by decide +kernel
theorem dX12_joins_32 : decode cX12_joins 32 = .ok (.invokevirtual 300, 3) := by decide +kernel
theorem dX12_joins_35 : decode cX12_joins 35 = .ok (.istore_n 3, 1) := by decide +kernel
theorem dX12_joins_36 : decode cX12_joins 36 = .ok (.iload_n 3, 1) := by decide +kernel
theorem dX12_joins_37 : decode cX12_joins 37 = .ok (.ifCond .ge 5, 3) := by decide +kernel
theorem dX12_joins_40 : decode cX12_joins 40 = .ok (.iconst 0, 1) := by decide +kernel
theorem dX12_joins_41 : decode cX12_joins 41 = .ok (.ireturn, 1) := by decide +kernel
theorem dX12_joins_42 : decode cX12_joins 42 = .ok (.aload_n 0, 1) := by decide +kernel
theorem dX12_joins_43 : decode cX12_joins 43 = .ok (.iload_n 1, 1) := by decide +kernel
theorem dX12_joins_44 : decode cX12_joins 44 = .ok (.invokestatic 290, 3) := by decide +kernel
theorem dX12_joins_47 : decode cX12_joins 47 = .ok (.invokevirtual 339, 3) := by decide +kernel
theorem dX12_joins_50 : decode cX12_joins 50 = .ok (.aload_n 0, 1) := by decide +kernel
theorem dX12_joins_51 : decode cX12_joins 51 = .ok (.iload_n 1, 1) := by decide +kernel
theorem dX12_joins_52 : decode cX12_joins 52 = .ok (.iload_n 3, 1) := by decide +kernel
theorem dX12_joins_53 : decode cX12_joins 53 = .ok (.invokevirtual 303, 3) := by decide +kernel
theorem dX12_joins_56 : decode cX12_joins 56 = .ok (.aload_n 0, 1) := by decide +kernel
theorem dX12_joins_57 : decode cX12_joins 57 = .ok (.iload_n 2, 1) := by decide +kernel
theorem dX12_joins_58 : decode cX12_joins 58 = .ok (.ifCond .ne 16, 3) := by decide +kernel
theorem dX12_joins_61 : decode cX12_joins 61 = .ok (.iload_n 1, 1) := by decide +kernel
theorem dX12_joins_62 : decode cX12_joins 62 = .ok (.bipush 11, 2) := by decide +kernel
theorem dX12_joins_64 : decode cX12_joins 64 = .ok (.if_icmp .ge 14, 3) := by decide +kernel
theorem dX12_joins_67 : decode cX12_joins 67 = .ok (.aload_n 0, 1) := by decide +kernel
theorem dX12_joins_68 : decode cX12_joins 68 = .ok (.getfield 329, 3) := by decide +kernel
theorem dX12_joins_71 : decode cX12_joins 71 = .ok (.ifCond .eq 7, 3) := by decide +kernel
theorem dX12_joins_74 : decode cX12_joins 74 = .ok (.iconst 1, 1) := by decide +kernel
theorem dX12_joins_75 : decode cX12_joins 75 = .ok (.goto 4, 3) := by decide +kernel
theorem dX12_joins_78 : decode cX12_joins 78 = .ok (.iconst 0, 1) := by decide +kernel
theorem dX12_joins_79 : decode cX12_joins 79 = .ok (.putfield 329, 3) := by decide +kernel
theorem dX12_joins_82 : decode cX12_joins 82 = .ok (.aload_n 0, 1) := by decide +kernel
theorem dX12_joins_83 : decode cX12_joins 83 = .ok (.iload_n 1, 1) := by decide +kernel
theorem dX12_joins_84 : decode cX12_joins 84 = .ok (.bipush 12, 2) := by decide +kernel
theorem dX12_joins_86 : decode cX12_joins 86 = .ok (.if_icmp .le 7, 3) := by decide +kernel
theorem dX12_joins_89 : decode cX12_joins 89 = .ok (.iconst 1, 1) := by decide +kernel
theorem dX12_joins_90 : decode cX12_joins 90 = .ok (.goto 4, 3) := by decide +kernel
theorem dX12_joins_93 : decode cX12_joins 93 = .ok (.iconst 0, 1) := by decide +kernel
theorem dX12_joins_94 : decode cX12_joins 94 = .ok (.putfield 307, 3) := by decide +kernel
theorem dX12_joins_97 : decode cX12_joins 97 = .ok (.aload_n 0, 1) := by decide +kernel
theorem dX12_joins_98 : decode cX12_joins 98 = .ok (.iconst 1, 1) := by decide +kernel
theorem dX12_joins_99 : decode cX12_joins 99 = .ok (.putfield 326, 3) := by decide +kernel
theorem dX12_joins_102 : decode cX12_joins 102 = .ok (.aload_n 0, 1) := by decide +kernel
theorem dX12_joins_103 : decode cX12_joins 103 = .ok (.invokevirtual 311, 3) := by decide +kernel
theorem dX12_joins_106 : decode cX12_joins 106 = .ok (.iconst 1, 1) := by decide +kernel
theorem dX12_joins_107 : decode cX12_joins 107 = .ok (.ireturn, 1) := by decide +kernel
theorem dX12_expression_0 : decode cX12_expression 0 = .ok (.aload_n 0, 1) := by decide +kernel
theorem dX12_expression_1 : decode cX12_expression 1 = .ok (.iconst 0, 1) := by decide +kernel
theorem dX12_expression_2 : decode cX12_expression 2 = .ok (.putfield 287, 3) := by decide +kernel
theorem dX12_expression_5 : decode cX12_expression 5 = .ok (.aload_n 0, 1) := by decide +kernel
theorem dX12_expression_6 : decode cX12_expression 6 = .ok (.iconst 0, 1) := by decide +kernel
theorem dX12_expression_7 : decode cX12_expression 7 = .ok (.putfield 284, 3) := by decide +kernel
theorem dX12_expression_10 : decode cX12_expression 10 = .ok (.aload_n 0, 1) := by decide +kernel
theorem dX12_expression_11 : decode cX12_expression 11 = .ok (.iconst 0, 1) := by decide +kernel
theorem dX12_expression_12 : decode cX12_expression 12 = .ok (.putfield 317, 3) := by decide +kernel
theorem dX12_expression_15 : decode cX12_expression 15 = .ok (.aload_n 0, 1) := by decide +kernel
theorem dX12_expression_16 : decode cX12_expression 16 = .ok (.iconst 0, 1) := by decide +kernel
theorem dX12_expression_17 : decode cX12_expression 17 = .ok (.putfield 329, 3) := by decide +kernel
theorem dX12_expression_20 : decode cX12_expression 20 = .ok (.aload_n 0, 1) := by decide +kernel
theorem dX12_expression_21 : decode cX12_expression 21 = .ok (.iconst 1, 1) := by decide +kernel
theorem dX12_expression_22 : decode cX12_expression 22 = .ok (.putfield 326, 3) := by decide +kernel
theorem dX12_expression_25 : decode cX12_expression 25 = .ok (.aload_n 0, 1) := by decide +kernel
theorem dX12_expression_26 : decode cX12_expression 26 = .ok (.iconst 1, 1) := by decide +kernel
theorem dX12_expression_27 : decode cX12_expression 27 = .ok (.putfield 307, 3) := by decide +kernel
theorem dX12_expression_30 : decode cX12_expression 30 = .ok (.iconst 1, 1) := by decide +kernel
theorem dX12_expression_31 : decode cX12_expression 31 = .ok (.istore_n 1, 1) := by decide +kernel
theorem dX12_expression_32 : decode cX12_expression 32 = .ok (.aload_n 0, 1) := by decide +kernel
theorem dX12_expression_33 : decode cX12_expression 33 = .ok (.getfield 326, 3) := by decide +kernel
theorem dX12_expression_36 : decode cX12_expression 36 = .ok (.ifCond .eq 11, 3) := by decide +kernel
theorem dX12_expression_39 : decode cX12_expression 39 = .ok (.aload_n 0, 1) := by decide +kernel
theorem dX12_expression_40 : decode cX12_expression 40 = .ok (.invokevirtual 342, 3) := by decide +kernel
theorem dX12_expression_43 : decode cX12_expression 43 = .ok (.istore_n 1, 1) := by decide +kernel
theorem dX12_expression_44 : decode cX12_expression 44 = .ok (.goto 106, 3) := by decide +kernel
theorem dX12_expression_47 : decode cX12_expression 47 = .ok (.aload_n 0, 1) := by decide +kernel
theorem dX12_expression_48 : decode cX12_expression 48 = .ok (.invokevirtual 345, 3) := by decide +kernel
theorem dX12_expression_51 : decode cX12_expression 51 = .ok (.ifCond .lt 15, 3) := by decide +kernel
theorem dX12_expression_54 : decode cX12_expression 54 = .ok (.aload_n 0, 1) := by decide +kernel
theorem dX12_expression_55 : decode cX12_expression 55 = .ok (.aload_n 0, 1) := by decide +kernel
theorem dX12_expression_56 : decode cX12_expression 56 = .ok (.invokevirtual 345, 3) := by decide +kernel
theorem dX12_expression_59 : decode cX12_expression 59 = .ok (.invokevirtual 348, 3) := by decide +kernel
theorem dX12_expression_62 : decode cX12_expression 62 = .ok (.istore_n 1, 1) := by decide +kernel
theorem dX12_expression_63 : decode cX12_expression 63 = .ok (.goto 87, 3) := by decide +kernel
theorem dX12_expression_66 : decode cX12_expression 66 = .ok (.aload_n 0, 1) := by decide +kernel
theorem dX12_expression_67 : decode cX12_expression 67 = .ok (.getfield 317, 3) := by decide +kernel
theorem dX12_expression_70 : decode cX12_expression 70 = .ok (.ifCond .le 57, 3) := by decide +kernel
theorem dX12_expression_73 : decode cX12_expression 73 = .ok (.aload_n 0, 1) := by decide +kernel
theorem dX12_expression_74 : decode cX12_expression 74 = .ok (.bipush 41, 2) := by decide +kernel
theorem dX12_expression_76 : decode cX12_expression 76 = .ok (.invokevirtual 314, 3) := by decide +kernel
theorem dX12_expression_79 : decode cX12_expression 79 = .ok (.ifCond .eq 48, 3) := by decide +kernel
theorem dX12_expression_82 : decode cX12_expression 82 = .ok (.aload_n 0, 1) := by decide +kernel
theorem dX12_expression_83 : decode cX12_expression 83 = .ok (.iconst 1, 1) := by decide +kernel
theorem dX12_expression_84 : decode cX12_expression 84 = .ok (.invokevirtual 339, 3) := by decide +kernel
theorem dX12_expression_87 : decode cX12_expression 87 = .ok (.aload_n 0, 1) := by decide +kernel
theorem dX12_expression_88 : decode cX12_expression 88 = .ok (.dup, 1) := by decide +kernel
theorem dX12_expression_89 : decode cX12_expression 89 = .ok (.getfield 287, 3) := by decide +kernel
theorem dX12_expression_92 : decode cX12_expression 92 = .ok (.iconst 1, 1) := by decide +kernel
theorem dX12_expression_93 : decode cX12_expression 93 = .ok (.isub, 1) := by decide +kernel
theorem dX12_expression_94 : decode cX12_expression 94 = .ok (.putfield 287, 3) := by decide +kernel
theorem dX12_expression_97 : decode cX12_expression 97 = .ok (.aload_n 0, 1) := by decide +kernel
theorem dX12_expression_98 : decode cX12_expression 98 = .ok (.dup, 1) := by decide +kernel
theorem dX12_expression_99 : decode cX12_expression 99 = .ok (.getfield 317, 3) := by decide +kernel
theorem dX12_expression_102 : decode cX12_expression 102 = .ok (.iconst 1, 1) := by decide +kernel
theorem dX12_expression_103 : decode cX12_expression 103 = .ok (.isub, 1) := by decide +kernel
theorem dX12_expression_104 : decode cX12_expression 104 = .ok (.putfield 317, 3) := by decide +kernel
theorem dX12_expression_107 : decode cX12_expression 107 = .ok (.aload_n 0, 1) := by decide +kernel
theorem dX12_expression_108 : decode cX12_expression 108 = .ok (.aload_n 0, 1) := by decide +kernel
theorem dX12_expression_109 : decode cX12_expression 109 = .ok (.getfield 84, 3) := by decide +kernel
theorem dX12_expression_112 : decode cX12_expression 112 = .ok (.aload_n 0, 1) := by decide +kernel
theorem dX12_expression_113 : decode cX12_expression 113 = .ok (.getfield 317, 3) := by decide +kernel
theorem dX12_expression_116 : decode cX12_expression 116 = .ok (.baload, 1) := by decide +kernel
theorem dX12_expression_117 : decode cX12_expression 117 = .ok (.putfield 329, 3) := by decide +kernel
theorem dX12_expression_120 : decode cX12_expression 120 = .ok (.aload_n 0, 1) := by decide +kernel
theorem dX12_expression_121 : decode cX12_expression 121 = .ok (.invokevirtual 311, 3) := by decide +kernel
theorem dX12_expression_124 : decode cX12_expression 124 = .ok (.goto 26, 3) := by decide +kernel
theorem dX12_expression_127 : decode cX12_expression 127 = .ok (.aload_n 0, 1) := by decide +kernel
theorem dX12_expression_128 : decode cX12_expression 128 = .ok (.getfield 317, 3) := by decide +kernel
theorem dX12_expression_131 : decode cX12_expression 131 = .ok (.ifCond .le 12, 3) := by decide +kernel
theorem dX12_expression_134 : decode cX12_expression 134 = .ok (.aload_n 0, 1) := by decide +kernel
theorem dX12_expression_135 : decode cX12_expression 135 = .ok (.iconst 1, 1) := by decide +kernel
theorem dX12_expression_136 : decode cX12_expression 136 = .ok (.invokevirtual 278, 3) := by decide +kernel
theorem dX12_expression_139 : decode cX12_expression 139 = .ok (.istore_n 1, 1) := by decide +kernel
theorem dX12_expression_140 : decode cX12_expression 140 = .ok (.goto 10, 3) := by decide +kernel
theorem dX12_expression_143 : decode cX12_expression 143 = .ok (.aload_n 0, 1) := by decide +kernel
theorem dX12_expression_144 : decode cX12_expression 144 = .ok (.iconst 1, 1) := by decide +kernel
theorem dX12_expression_145 : decode cX12_expression 145 = .ok (.invokevirtual 339, 3) := by decide +kernel
theorem dX12_expression_148 : decode cX12_expression 148 = .ok (.iconst 1, 1) := by decide +kernel
theorem dX12_expression_149 : decode cX12_expression 149 = .ok (.ireturn, 1) := by decide +kernel
theorem dX12_expression_150 : decode cX12_expression 150 = .ok (.iload_n 1, 1) := by decide +kernel
theorem dX12_expression_151 : decode cX12_expression 151 = .ok (.ifCond .ne 5, 3) := by decide +kernel
theorem dX12_expression_154 : decode cX12_expression 154 = .ok (.iconst 0, 1) := by decide +kernel
theorem dX12_expression_155 : decode cX12_expression 155 = .ok (.ireturn, 1) := by decide +kernel
theorem dX12_expression_156 : decode cX12_expression 156 = .ok (.goto (-126), 3) := by decide +kernel
theorem dX12_line_0 : decode cX12_line 0 = .ok (.aload_n 0, 1) := by decide +kernel
theorem dX12_line_1 : decode cX12_line 1 = .ok (.getfield 254, 3) := by decide +kernel
theorem dX12_line_4 : decode cX12_line 4 = .ok (.iconst 1, 1) := by decide +kernel
theorem dX12_line_5 : decode cX12_line 5 = .ok (.if_icmp .ne 11, 3) := by decide +kernel
theorem dX12_line_8 : decode cX12_line 8 = .ok (.aload_n 0, 1) := by decide +kernel
theorem dX12_line_9 : decode cX12_line 9 = .ok (.getfield 264, 3) := by decide +kernel
theorem dX12_line_12 : decode cX12_line 12 = .ok (.iconst 1, 1) := by decide +kernel
theorem dX12_line_13 : decode cX12_line 13 = .ok (.if_icmp .le 9, 3) := by decide +kernel
theorem dX12_line_16 : decode cX12_line 16 = .ok (.aload_n 0, 1) := by decide +kernel
theorem dX12_line_17 : decode cX12_line 17 = .ok (.iconst 1, 1) := by decide +kernel
theorem dX12_line_18 : decode cX12_line 18 = .ok (.invokevirtual 278, 3) := by decide +kernel
theorem dX12_line_21 : decode cX12_line 21 = .ok (.ireturn, 1) := by decide +kernel
theorem dX12_line_22 : decode cX12_line 22 = .ok (.aload_n 0, 1) := by decide +kernel
theorem dX12_line_23 : decode cX12_line 23 = .ok (.getfield 264, 3) := by decide +kernel
theorem dX12_line_26 : decode cX12_line 26 = .ok (.ifCond .ne 56, 3) := by decide +kernel
theorem dX12_line_29 : decode cX12_line 29 = .ok (.aload_n 0, 1) := by decide +kernel
theorem dX12_line_30 : decode cX12_line 30 = .ok (.getfield 351, 3) := by decide +kernel
theorem dX12_line_33 : decode cX12_line 33 = .ok (.ifCond .eq 9, 3) := by decide +kernel
theorem dX12_line_36 : decode cX12_line 36 = .ok (.aload_n 0, 1) := by decide +kernel
theorem dX12_line_37 : decode cX12_line 37 = .ok (.iconst 3, 1) := by decide +kernel
theorem dX12_line_38 : decode cX12_line 38 = .ok (.invokevirtual 278, 3) := by decide +kernel
theorem dX12_line_41 : decode cX12_line 41 = .ok (.ireturn, 1) := by decide +kernel
theorem dX12_line_42 : decode cX12_line 42 = .ok (.aload_n 0, 1) := by decide +kernel
theorem dX12_line_43 : decode cX12_line 43 = .ok (.invokevirtual 311, 3) := by decide +kernel
theorem dX12_line_46 : decode cX12_line 46 = .ok (.aload_n 0, 1) := by decide +kernel
theorem dX12_line_47 : decode cX12_line 47 = .ok (.iconst 0, 1) := by decide +kernel
theorem dX12_line_48 : decode cX12_line 48 = .ok (.bipush 24, 2) := by decide +kernel
theorem dX12_line_50 : decode cX12_line 50 = .ok (.invokevirtual 323, 3) := by decide +kernel
theorem dX12_line_53 : decode cX12_line 53 = .ok (.ifCond .ne 5, 3) := by decide +kernel
theorem dX12_line_56 : decode cX12_line 56 = .ok (.iconst 0, 1) := by decide +kernel
theorem dX12_line_57 : decode cX12_line 57 = .ok (.ireturn, 1) := by decide +kernel
theorem dX12_line_58 : decode cX12_line 58 = .ok (.aload_n 0, 1) := by decide +kernel
theorem dX12_line_59 : decode cX12_line 59 = .ok (.iconst 1, 1) := by decide +kernel
theorem dX12_line_60 : decode cX12_line 60 = .ok (.putfield 351, 3) := by decide +kernel
theorem dX12_line_63 : decode cX12_line 63 = .ok (.aload_n 0, 1) := by decide +kernel
theorem dX12_line_64 : decode cX12_line 64 = .ok (.aload_n 0, 1) := by decide +kernel
theorem dX12_line_65 : decode cX12_line 65 = .ok (.getfield 264, 3) := by decide +kernel
theorem dX12_line_68 : decode cX12_line 68 = .ok (.putfield 354, 3) := by decide +kernel
theorem dX12_line_71 : decode cX12_line 71 = .ok (.aload_n 0, 1) := by decide +kernel
theorem dX12_line_72 : decode cX12_line 72 = .ok (.invokevirtual 311, 3) := by decide +kernel
theorem dX12_line_75 : decode cX12_line 75 = .ok (.aload_n 0, 1) := by decide +kernel
theorem dX12_line_76 : decode cX12_line 76 = .ok (.bipush 59, 2) := by decide +kernel
theorem dX12_line_78 : decode cX12_line 78 = .ok (.invokevirtual 320, 3) := by decide +kernel
theorem dX12_line_81 : decode cX12_line 81 = .ok (.ireturn, 1) := by decide +kernel
theorem dX12_line_82 : decode cX12_line 82 = .ok (.aload_n 0, 1) := by decide +kernel
theorem dX12_line_83 : decode cX12_line 83 = .ok (.getfield 357, 3) := by decide +kernel
theorem dX12_line_86 : decode cX12_line 86 = .ok (.bipush 12, 2) := by decide +kernel
theorem dX12_line_88 : decode cX12_line 88 = .ok (.if_icmp .ne 9, 3) := by decide +kernel
theorem dX12_line_91 : decode cX12_line 91 = .ok (.aload_n 0, 1) := by decide +kernel
theorem dX12_line_92 : decode cX12_line 92 = .ok (.iconst 2, 1) := by decide +kernel
theorem dX12_line_93 : decode cX12_line 93 = .ok (.invokevirtual 278, 3) := by decide +kernel
theorem dX12_line_96 : decode cX12_line 96 = .ok (.ireturn, 1) := by decide +kernel
theorem dX12_line_97 : decode cX12_line 97 = .ok (.aload_n 0, 1) := by decide +kernel
theorem dX12_line_98 : decode cX12_line 98 = .ok (.invokevirtual 311, 3) := by decide +kernel
theorem dX12_line_101 : decode cX12_line 101 = .ok (.aload_n 0, 1) := by decide +kernel
theorem dX12_line_102 : decode cX12_line 102 = .ok (.iconst 1, 1) := by decide +kernel
theorem dX12_line_103 : decode cX12_line 103 = .ok (.iconst 4, 1) := by decide +kernel
theorem dX12_line_104 : decode cX12_line 104 = .ok (.invokevirtual 323, 3) := by decide +kernel
theorem dX12_line_107 : decode cX12_line 107 = .ok (.ifCond .ne 5, 3) := by decide +kernel
theorem dX12_line_110 : decode cX12_line 110 = .ok (.iconst 0, 1) := by decide +kernel
theorem dX12_line_111 : decode cX12_line 111 = .ok (.ireturn, 1) := by decide +kernel
theorem dX12_line_112 : decode cX12_line 112 = .ok (.bipush 12, 2) := by decide +kernel
theorem dX12_line_114 : decode cX12_line 114 = .ok (.aload_n 0, 1) := by decide +kernel
theorem dX12_line_115 : decode cX12_line 115 = .ok (.getfield 357, 3) := by decide +kernel
theorem dX12_line_118 : decode cX12_line 118 = .ok (.iadd, 1) := by decide +kernel
theorem dX12_line_119 : decode cX12_line 119 = .ok (.istore_n 1, 1) := by decide +kernel
theorem dX12_line_120 : decode cX12_line 120 = .ok (.aload_n 0, 1) := by decide +kernel
theorem dX12_line_121 : decode cX12_line 121 = .ok (.getfield 66, 3) := by decide +kernel
theorem dX12_line_124 : decode cX12_line 124 = .ok (.iload_n 1, 1) := by decide +kernel
theorem dX12_line_125 : decode cX12_line 125 = .ok (.aload_n 0, 1) := by decide +kernel
theorem dX12_line_126 : decode cX12_line 126 = .ok (.getfield 264, 3) := by decide +kernel
theorem dX12_line_129 : decode cX12_line 129 = .ok (.iastore, 1) := by decide +kernel
theorem dX12_line_130 : decode cX12_line 130 = .ok (.aload_n 0, 1) := by decide +kernel
theorem dX12_line_131 : decode cX12_line 131 = .ok (.getfield 69, 3) := by decide +kernel
theorem dX12_line_134 : decode cX12_line 134 = .ok (.iload_n 1, 1) := by decide +kernel
theorem dX12_line_135 : decode cX12_line 135 = .ok (.aload_n 0, 1) := by decide +kernel
theorem dX12_line_136 : decode cX12_line 136 = .ok (.getfield 281, 3) := by decide +kernel
theorem dX12_line_139 : decode cX12_line 139 = .ok (.iastore, 1) := by decide +kernel
theorem dX12_line_140 : decode cX12_line 140 = .ok (.aload_n 0, 1) := by decide +kernel
theorem dX12_line_141 : decode cX12_line 141 = .ok (.invokevirtual 311, 3) := by decide +kernel
theorem dX12_line_144 : decode cX12_line 144 = .ok (.aload_n 0, 1) := by decide +kernel
theorem dX12_line_145 : decode cX12_line 145 = .ok (.invokevirtual 360, 3) := by decide +kernel
theorem dX12_line_148 : decode cX12_line 148 = .ok (.ifCond .ne 5, 3) := by decide +kernel
theorem dX12_line_151 : decode cX12_line 151 = .ok (.iconst 0, 1) := by decide +kernel
theorem dX12_line_152 : decode cX12_line 152 = .ok (.ireturn, 1) := by decide +kernel
theorem dX12_line_153 : decode cX12_line 153 = .ok (.aload_n 0, 1) := by decide +kernel
theorem dX12_line_154 : decode cX12_line 154 = .ok (.getfield 72, 3) := by decide +kernel
theorem dX12_line_157 : decode cX12_line 157 = .ok (.iload_n 1, 1) := by decide +kernel
theorem dX12_line_158 : decode cX12_line 158 = .ok (.aload_n 0, 1) := by decide +kernel
theorem dX12_line_159 : decode cX12_line 159 = .ok (.getfield 281, 3) := by decide +kernel
theorem dX12_line_162 : decode cX12_line 162 = .ok (.aload_n 0, 1) := by decide +kernel
theorem dX12_line_163 : decode cX12_line 163 = .ok (.getfield 69, 3) := by decide +kernel
theorem dX12_line_166 : decode cX12_line 166 = .ok (.iload_n 1, 1) := by decide +kernel
theorem dX12_line_167 : decode cX12_line 167 = .ok (.iaload, 1) := by decide +kernel
theorem dX12_line_168 : decode cX12_line 168 = .ok (.isub, 1) := by decide +kernel
theorem dX12_line_169 : decode cX12_line 169 = .ok (.iastore, 1) := by decide +kernel
theorem dX12_line_170 : decode cX12_line 170 = .ok (.aload_n 0, 1) := by decide +kernel
theorem dX12_line_171 : decode cX12_line 171 = .ok (.dup, 1) := by decide +kernel
theorem dX12_line_172 : decode cX12_line 172 = .ok (.getfield 357, 3) := by decide +kernel
theorem dX12_line_175 : decode cX12_line 175 = .ok (.iconst 1, 1) := by decide +kernel
theorem dX12_line_176 : decode cX12_line 176 = .ok (.iadd, 1) := by decide +kernel
theorem dX12_line_177 : decode cX12_line 177 = .ok (.putfield 357, 3) := by decide +kernel
theorem dX12_line_180 : decode cX12_line 180 = .ok (.aload_n 0, 1) := by decide +kernel
theorem dX12_line_181 : decode cX12_line 181 = .ok (.bipush 59, 2) := by decide +kernel
theorem dX12_line_183 : decode cX12_line 183 = .ok (.invokevirtual 320, 3) := by decide +kernel
theorem dX12_line_186 : decode cX12_line 186 = .ok (.ireturn, 1) := by decide +kernel
theorem dX12_rules_0 : decode cX12_rules 0 = .ok (.aload_n 0, 1) := by decide +kernel
theorem dX12_rules_1 : decode cX12_rules 1 = .ok (.iconst 0, 1) := by decide +kernel
theorem dX12_rules_2 : decode cX12_rules 2 = .ok (.putfield 208, 3) := by decide +kernel
theorem dX12_rules_5 : decode cX12_rules 5 = .ok (.iload_n 1, 1) := by decide +kernel
theorem dX12_rules_6 : decode cX12_rules 6 = .ok (.ifCond .lt 11, 3) := by decide +kernel
theorem dX12_rules_9 : decode cX12_rules 9 = .ok (.iload_n 1, 1) := by decide +kernel
theorem dX12_rules_10 : decode cX12_rules 10 = .ok (.aload_n 0, 1) := by decide +kernel
theorem dX12_rules_11 : decode cX12_rules 11 = .ok (.getfield 211, 3) := by decide +kernel
theorem dX12_rules_14 : decode cX12_rules 14 = .ok (.if_icmp .le 6, 3) := by decide +kernel
theorem dX12_rules_17 : decode cX12_rules 17 = .ok (.bipush (-2), 2) := by decide +kernel
theorem dX12_rules_19 : decode cX12_rules 19 = .ok (.ireturn, 1) := by decide +kernel
theorem dX12_rules_20 : decode cX12_rules 20 = .ok (.aload_n 0, 1) := by decide +kernel
theorem dX12_rules_21 : decode cX12_rules 21 = .ok (.iload_n 1, 1) := by decide +kernel
theorem dX12_rules_22 : decode cX12_rules 22 = .ok (.putfield 244, 3) := by decide +kernel
theorem dX12_rules_25 : decode cX12_rules 25 = .ok (.aload_n 0, 1) := by decide +kernel
theorem dX12_rules_26 : decode cX12_rules 26 = .ok (.iconst 0, 1) := by decide +kernel
theorem dX12_rules_27 : decode cX12_rules 27 = .ok (.putfield 211, 3) := by decide +kernel
theorem dX12_rules_30 : decode cX12_rules 30 = .ok (.aload_n 0, 1) := by decide +kernel
theorem dX12_rules_31 : decode cX12_rules 31 = .ok (.iconst 0, 1) := by decide +kernel
theorem dX12_rules_32 : decode cX12_rules 32 = .ok (.putfield 238, 3) := by decide +kernel
theorem dX12_rules_35 : decode cX12_rules 35 = .ok (.aload_n 0, 1) := by decide +kernel
theorem dX12_rules_36 : decode cX12_rules 36 = .ok (.iconst (-1), 1) := by decide +kernel
theorem dX12_rules_37 : decode cX12_rules 37 = .ok (.putfield 41, 3) := by decide +kernel
theorem dX12_rules_40 : decode cX12_rules 40 = .ok (.aload_n 0, 1) := by decide +kernel
theorem dX12_rules_41 : decode cX12_rules 41 = .ok (.iconst 0, 1) := by decide +kernel
theorem dX12_rules_42 : decode cX12_rules 42 = .ok (.putfield 247, 3) := by decide +kernel
theorem dX12_rules_45 : decode cX12_rules 45 = .ok (.aload_n 0, 1) := by decide +kernel
theorem dX12_rules_46 : decode cX12_rules 46 = .ok (.iconst 0, 1) := by decide +kernel
theorem dX12_rules_47 : decode cX12_rules 47 = .ok (.putfield 357, 3) := by decide +kernel
theorem dX12_rules_50 : decode cX12_rules 50 = .ok (.aload_n 0, 1) := by decide +kernel
theorem dX12_rules_51 : decode cX12_rules 51 = .ok (.iconst 0, 1) := by decide +kernel
theorem dX12_rules_52 : decode cX12_rules 52 = .ok (.putfield 354, 3) := by decide +kernel
theorem dX12_rules_55 : decode cX12_rules 55 = .ok (.aload_n 0, 1) := by decide +kernel
theorem dX12_rules_56 : decode cX12_rules 56 = .ok (.iconst 0, 1) := by decide +kernel
theorem dX12_rules_57 : decode cX12_rules 57 = .ok (.putfield 351, 3) := by decide +kernel
theorem dX12_rules_60 : decode cX12_rules 60 = .ok (.aload_n 0, 1) := by decide +kernel
theorem dX12_rules_61 : decode cX12_rules 61 = .ok (.iconst 0, 1) := by decide +kernel
theorem dX12_rules_62 : decode cX12_rules 62 = .ok (.putfield 275, 3) := by decide +kernel
theorem dX12_rules_65 : decode cX12_rules 65 = .ok (.aload_n 0, 1) := by decide +kernel
theorem dX12_rules_66 : decode cX12_rules 66 = .ok (.iconst 0, 1) := by decide +kernel
theorem dX12_rules_67 : decode cX12_rules 67 = .ok (.putfield 281, 3) := by decide +kernel
theorem dX12_rules_70 : decode cX12_rules 70 = .ok (.aload_n 0, 1) := by decide +kernel
theorem dX12_rules_71 : decode cX12_rules 71 = .ok (.invokevirtual 311, 3) := by decide +kernel
theorem dX12_rules_74 : decode cX12_rules 74 = .ok (.aload_n 0, 1) := by decide +kernel
theorem dX12_rules_75 : decode cX12_rules 75 = .ok (.getfield 254, 3) := by decide +kernel
theorem dX12_rules_78 : decode cX12_rules 78 = .ok (.ifCond .eq 12, 3) := by decide +kernel
theorem dX12_rules_81 : decode cX12_rules 81 = .ok (.aload_n 0, 1) := by decide +kernel
theorem dX12_rules_82 : decode cX12_rules 82 = .ok (.invokevirtual 363, 3) := by decide +kernel
theorem dX12_rules_85 : decode cX12_rules 85 = .ok (.ifCond .ne (-11), 3) := by decide +kernel
theorem dX12_rules_88 : decode cX12_rules 88 = .ok (.iconst (-1), 1) := by decide +kernel
theorem dX12_rules_89 : decode cX12_rules 89 = .ok (.ireturn, 1) := by decide +kernel
theorem dX12_rules_90 : decode cX12_rules 90 = .ok (.aload_n 0, 1) := by decide +kernel
theorem dX12_rules_91 : decode cX12_rules 91 = .ok (.aload_n 0, 1) := by decide +kernel
theorem dX12_rules_92 : decode cX12_rules 92 = .ok (.getfield 357, 3) := by decide +kernel
theorem dX12_rules_95 : decode cX12_rules 95 = .ok (.putfield 366, 3) := by decide +kernel
theorem dX12_rules_98 : decode cX12_rules 98 = .ok (.aload_n 0, 1) := by decide +kernel
theorem dX12_rules_99 : decode cX12_rules 99 = .ok (.aload_n 0, 1) := by decide +kernel
theorem dX12_rules_100 : decode cX12_rules 100 = .ok (.getfield 354, 3) := by decide +kernel
theorem dX12_rules_103 : decode cX12_rules 103 = .ok (.putfield 369, 3) := by decide +kernel
theorem dX12_rules_106 : decode cX12_rules 106 = .ok (.aload_n 0, 1) := by decide +kernel
theorem dX12_rules_107 : decode cX12_rules 107 = .ok (.aload_n 0, 1) := by decide +kernel
theorem dX12_rules_108 : decode cX12_rules 108 = .ok (.getfield 275, 3) := by decide +kernel
theorem dX12_rules_111 : decode cX12_rules 111 = .ok (.putfield 372, 3) := by decide +kernel
theorem dX12_rules_114 : decode cX12_rules 114 = .ok (.iconst 0, 1) := by decide +kernel
theorem dX12_rules_115 : decode cX12_rules 115 = .ok (.istore_n 2, 1) := by decide +kernel
theorem dX12_rules_116 : decode cX12_rules 116 = .ok (.iload_n 2, 1) := by decide +kernel
theorem dX12_rules_117 : decode cX12_rules 117 = .ok (.aload_n 0, 1) := by decide +kernel
theorem dX12_rules_118 : decode cX12_rules 118 = .ok (.getfield 366, 3) := by decide +kernel
theorem dX12_rules_121 : decode cX12_rules 121 = .ok (.if_icmp .ge 54, 3) := by decide +kernel
theorem dX12_rules_124 : decode cX12_rules 124 = .ok (.aload_n 0, 1) := by decide +kernel
theorem dX12_rules_125 : decode cX12_rules 125 = .ok (.getfield 66, 3) := by decide +kernel
theorem dX12_rules_128 : decode cX12_rules 128 = .ok (.iload_n 2, 1) := by decide +kernel
theorem dX12_rules_129 : decode cX12_rules 129 = .ok (.aload_n 0, 1) := by decide +kernel
theorem dX12_rules_130 : decode cX12_rules 130 = .ok (.getfield 66, 3) := by decide +kernel
theorem dX12_rules_133 : decode cX12_rules 133 = .ok (.bipush 12, 2) := by decide +kernel
theorem dX12_rules_135 : decode cX12_rules 135 = .ok (.iload_n 2, 1) := by decide +kernel
theorem dX12_rules_136 : decode cX12_rules 136 = .ok (.iadd, 1) := by decide +kernel
theorem dX12_rules_137 : decode cX12_rules 137 = .ok (.iaload, 1) := by decide +kernel
theorem dX12_rules_138 : decode cX12_rules 138 = .ok (.iastore, 1) := by decide +kernel
theorem dX12_rules_139 : decode cX12_rules 139 = .ok (.aload_n 0, 1) := by decide +kernel
theorem dX12_rules_140 : decode cX12_rules 140 = .ok (.getfield 69, 3) := by decide +kernel
theorem dX12_rules_143 : decode cX12_rules 143 = .ok (.iload_n 2, 1) := by decide +kernel
theorem dX12_rules_144 : decode cX12_rules 144 = .ok (.aload_n 0, 1) := by decide +kernel
theorem dX12_rules_145 : decode cX12_rules 145 = .ok (.getfield 69, 3) := by decide +kernel
theorem dX12_rules_148 : decode cX12_rules 148 = .ok (.bipush 12, 2) := by decide +kernel
theorem dX12_rules_150 : decode cX12_rules 150 = .ok (.iload_n 2, 1) := by decide +kernel
theorem dX12_rules_151 : decode cX12_rules 151 = .ok (.iadd, 1) := by decide +kernel
theorem dX12_rules_152 : decode cX12_rules 152 = .ok (.iaload, 1) := by decide +kernel
theorem dX12_rules_153 : decode cX12_rules 153 = .ok (.iastore, 1) := by decide +kernel
theorem dX12_rules_154 : decode cX12_rules 154 = .ok (.aload_n 0, 1) := by decide +kernel
theorem dX12_rules_155 : decode cX12_rules 155 = .ok (.getfield 72, 3) := by decide +kernel
theorem dX12_rules_158 : decode cX12_rules 158 = .ok (.iload_n 2, 1) := by decide +kernel
theorem dX12_rules_159 : decode cX12_rules 159 = .ok (.aload_n 0, 1) := by decide +kernel
theorem dX12_rules_160 : decode cX12_rules 160 = .ok (.getfield 72, 3) := by decide +kernel
theorem dX12_rules_163 : decode cX12_rules 163 = .ok (.bipush 12, 2) := by decide +kernel
theorem dX12_rules_165 : decode cX12_rules 165 = .ok (.iload_n 2, 1) := by decide +kernel
theorem dX12_rules_166 : decode cX12_rules 166 = .ok (.iadd, 1) := by decide +kernel
theorem dX12_rules_167 : decode cX12_rules 167 = .ok (.iaload, 1) := by decide +kernel
theorem dX12_rules_168 : decode cX12_rules 168 = .ok (.iastore, 1) := by decide +kernel
theorem dX12_rules_169 : decode cX12_rules 169 = .ok (.iinc 2 1, 3) := by decide +kernel
theorem dX12_rules_172 : decode cX12_rules 172 = .ok (.goto (-56), 3) := by decide +kernel
theorem dX12_rules_175 : decode cX12_rules 175 = .ok (.iconst 0, 1) := by decide +kernel
theorem dX12_rules_176 : decode cX12_rules 176 = .ok (.istore_n 2, 1) := by decide +kernel
theorem dX12_rules_177 : decode cX12_rules 177 = .ok (.iload_n 2, 1) := by decide +kernel
theorem dX12_rules_178 : decode cX12_rules 178 = .ok (.aload_n 0, 1) := by decide +kernel
theorem dX12_rules_179 : decode cX12_rules 179 = .ok (.getfield 372, 3) := by decide +kernel
theorem dX12_rules_182 : decode cX12_rules 182 = .ok (.if_icmp .ge 123, 3) := by decide +kernel
theorem dX12_rules_185 : decode cX12_rules 185 = .ok (.aload_n 0, 1) := by decide +kernel
theorem dX12_rules_186 : decode cX12_rules 186 = .ok (.getfield 45, 3) := by decide +kernel
theorem dX12_rules_189 : decode cX12_rules 189 = .ok (.iload_n 2, 1) := by decide +kernel
theorem dX12_rules_190 : decode cX12_rules 190 = .ok (.aload_n 0, 1) := by decide +kernel
theorem dX12_rules_191 : decode cX12_rules 191 = .ok (.getfield 45, 3) := by decide +kernel
theorem dX12_rules_194 : decode cX12_rules 194 = .ok (.bipush 64, 2) := by decide +kernel
theorem dX12_rules_196 : decode cX12_rules 196 = .ok (.iload_n 2, 1) := by decide +kernel
theorem dX12_rules_197 : decode cX12_rules 197 = .ok (.iadd, 1) := by decide +kernel
theorem dX12_rules_198 : decode cX12_rules 198 = .ok (.iaload, 1) := by decide +kernel
theorem dX12_rules_199 : decode cX12_rules 199 = .ok (.iastore, 1) := by decide +kernel
theorem dX12_rules_200 : decode cX12_rules 200 = .ok (.aload_n 0, 1) := by decide +kernel
theorem dX12_rules_201 : decode cX12_rules 201 = .ok (.getfield 48, 3) := by decide +kernel
theorem dX12_rules_204 : decode cX12_rules 204 = .ok (.iload_n 2, 1) := by decide +kernel
theorem dX12_rules_205 : decode cX12_rules 205 = .ok (.aload_n 0, 1) := by decide +kernel
theorem dX12_rules_206 : decode cX12_rules 206 = .ok (.getfield 48, 3) := by decide +kernel
theorem dX12_rules_209 : decode cX12_rules 209 = .ok (.bipush 64, 2) := by decide +kernel
theorem dX12_rules_211 : decode cX12_rules 211 = .ok (.iload_n 2, 1) := by decide +kernel
theorem dX12_rules_212 : decode cX12_rules 212 = .ok (.iadd, 1) := by decide +kernel
theorem dX12_rules_213 : decode cX12_rules 213 = .ok (.iaload, 1) := by decide +kernel
theorem dX12_rules_214 : decode cX12_rules 214 = .ok (.bipush 64, 2) := by decide +kernel
theorem dX12_rules_216 : decode cX12_rules 216 = .ok (.isub, 1) := by decide +kernel
theorem dX12_rules_217 : decode cX12_rules 217 = .ok (.iastore, 1) := by decide +kernel
theorem dX12_rules_218 : decode cX12_rules 218 = .ok (.aload_n 0, 1) := by decide +kernel
theorem dX12_rules_219 : decode cX12_rules 219 = .ok (.getfield 51, 3) := by decide +kernel
theorem dX12_rules_222 : decode cX12_rules 222 = .ok (.iload_n 2, 1) := by decide +kernel
theorem dX12_rules_223 : decode cX12_rules 223 = .ok (.aload_n 0, 1) := by decide +kernel
theorem dX12_rules_224 : decode cX12_rules 224 = .ok (.getfield 51, 3) := by decide +kernel
theorem dX12_rules_227 : decode cX12_rules 227 = .ok (.bipush 64, 2) := by decide +kernel
theorem dX12_rules_229 : decode cX12_rules 229 = .ok (.iload_n 2, 1) := by decide +kernel
theorem dX12_rules_230 : decode cX12_rules 230 = .ok (.iadd, 1) := by decide +kernel
theorem dX12_rules_231 : decode cX12_rules 231 = .ok (.iaload, 1) := by decide +kernel
theorem dX12_rules_232 : decode cX12_rules 232 = .ok (.bipush 64, 2) := by decide +kernel
theorem dX12_rules_234 : decode cX12_rules 234 = .ok (.isub, 1) := by decide +kernel
theorem dX12_rules_235 : decode cX12_rules 235 = .ok (.iastore, 1) := by decide +kernel
theorem dX12_rules_236 : decode cX12_rules 236 = .ok (.aload_n 0, 1) := by decide +kernel
theorem dX12_rules_237 : decode cX12_rules 237 = .ok (.getfield 54, 3) := by decide +kernel
theorem dX12_rules_240 : decode cX12_rules 240 = .ok (.iload_n 2, 1) := by decide +kernel
theorem dX12_rules_241 : decode cX12_rules 241 = .ok (.aload_n 0, 1) := by decide +kernel
theorem dX12_rules_242 : decode cX12_rules 242 = .ok (.getfield 54, 3) := by decide +kernel
theorem dX12_rules_245 : decode cX12_rules 245 = .ok (.bipush 64, 2) := by decide +kernel
theorem dX12_rules_247 : decode cX12_rules 247 = .ok (.iload_n 2, 1) := by decide +kernel
theorem dX12_rules_248 : decode cX12_rules 248 = .ok (.iadd, 1) := by decide +kernel
theorem dX12_rules_249 : decode cX12_rules 249 = .ok (.iaload, 1) := by decide +kernel
theorem dX12_rules_250 : decode cX12_rules 250 = .ok (.iastore, 1) := by decide +kernel
theorem dX12_rules_251 : decode cX12_rules 251 = .ok (.aload_n 0, 1) := by decide +kernel
theorem dX12_rules_252 : decode cX12_rules 252 = .ok (.getfield 57, 3) := by decide +kernel
theorem dX12_rules_255 : decode cX12_rules 255 = .ok (.iload_n 2, 1) := by decide +kernel
theorem dX12_rules_256 : decode cX12_rules 256 = .ok (.aload_n 0, 1) := by decide +kernel
theorem dX12_rules_257 : decode cX12_rules 257 = .ok (.getfield 57, 3) := by decide +kernel
theorem dX12_rules_260 : decode cX12_rules 260 = .ok (.bipush 64, 2) := by decide +kernel
theorem dX12_rules_262 : decode cX12_rules 262 = .ok (.iload_n 2, 1) := by decide +kernel
theorem dX12_rules_263 : decode cX12_rules 263 = .ok (.iadd, 1) := by decide +kernel
theorem dX12_rules_264 : decode cX12_rules 264 = .ok (.iaload, 1) := by decide +kernel
theorem dX12_rules_265 : decode cX12_rules 265 = .ok (.iastore, 1) := by decide +kernel
theorem dX12_rules_266 : decode cX12_rules 266 = .ok (.aload_n 0, 1) := by decide +kernel
theorem dX12_rules_267 : decode cX12_rules 267 = .ok (.getfield 60, 3) := by decide +kernel
theorem dX12_rules_270 : decode cX12_rules 270 = .ok (.iload_n 2, 1) := by decide +kernel
theorem dX12_rules_271 : decode cX12_rules 271 = .ok (.aload_n 0, 1) := by decide +kernel
theorem dX12_rules_272 : decode cX12_rules 272 = .ok (.getfield 60, 3) := by decide +kernel
theorem dX12_rules_275 : decode cX12_rules 275 = .ok (.bipush 64, 2) := by decide +kernel
theorem dX12_rules_277 : decode cX12_rules 277 = .ok (.iload_n 2, 1) := by decide +kernel
theorem dX12_rules_278 : decode cX12_rules 278 = .ok (.iadd, 1) := by decide +kernel
theorem dX12_rules_279 : decode cX12_rules 279 = .ok (.iaload, 1) := by decide +kernel
theorem dX12_rules_280 : decode cX12_rules 280 = .ok (.iastore, 1) := by decide +kernel
theorem dX12_rules_281 : decode cX12_rules 281 = .ok (.aload_n 0, 1) := by decide +kernel
theorem dX12_rules_282 : decode cX12_rules 282 = .ok (.getfield 63, 3) := by decide +kernel
theorem dX12_rules_285 : decode cX12_rules 285 = .ok (.iload_n 2, 1) := by decide +kernel
theorem dX12_rules_286 : decode cX12_rules 286 = .ok (.aload_n 0, 1) := by decide +kernel
theorem dX12_rules_287 : decode cX12_rules 287 = .ok (.getfield 63, 3) := by decide +kernel
theorem dX12_rules_290 : decode cX12_rules 290 = .ok (.bipush 64, 2) := by decide +kernel
theorem dX12_rules_292 : decode cX12_rules 292 = .ok (.iload_n 2, 1) := by decide +kernel
theorem dX12_rules_293 : decode cX12_rules 293 = .ok (.iadd, 1) := by decide +kernel
theorem dX12_rules_294 : decode cX12_rules 294 = .ok (.iaload, 1) := by decide +kernel
theorem dX12_rules_295 : decode cX12_rules 295 = .ok (.bipush 64, 2) := by decide +kernel
theorem dX12_rules_297 : decode cX12_rules 297 = .ok (.isub, 1) := by decide +kernel
theorem dX12_rules_298 : decode cX12_rules 298 = .ok (.iastore, 1) := by decide +kernel
theorem dX12_rules_299 : decode cX12_rules 299 = .ok (.iinc 2 1, 3) := by decide +kernel
theorem dX12_rules_302 : decode cX12_rules 302 = .ok (.goto (-125), 3) := by decide +kernel
theorem dX12_rules_305 : decode cX12_rules 305 = .ok (.aload_n 0, 1) := by decide +kernel
theorem dX12_rules_306 : decode cX12_rules 306 = .ok (.getfield 366, 3) := by decide +kernel
theorem dX12_rules_309 : decode cX12_rules 309 = .ok (.aload_n 0, 1) := by decide +kernel
theorem dX12_rules_310 : decode cX12_rules 310 = .ok (.getfield 351, 3) := by decide +kernel
theorem dX12_rules_313 : decode cX12_rules 313 = .ok (.ifCond .eq 7, 3) := by decide +kernel
theorem dX12_rules_316 : decode cX12_rules 316 = .ok (.iconst 1, 1) := by decide +kernel
theorem dX12_rules_317 : decode cX12_rules 317 = .ok (.goto 4, 3) := by decide +kernel
theorem dX12_rules_320 : decode cX12_rules 320 = .ok (.iconst 0, 1) := by decide +kernel
theorem dX12_rules_321 : decode cX12_rules 321 = .ok (.iadd, 1) := by decide +kernel
theorem dX12_rules_322 : decode cX12_rules 322 = .ok (.ireturn, 1) := by decide +kernel
