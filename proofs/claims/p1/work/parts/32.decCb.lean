theorem dX3_leavesIn_0 : decode cX3_leavesIn 0 = .ok (.aload_n 0, 1) := by decide +kernel
theorem dX3_leavesIn_1 : decode cX3_leavesIn 1 = .ok (.getfield 42, 3) := by decide +kernel
theorem dX3_leavesIn_4 : decode cX3_leavesIn 4 = .ok (.iload_n 1, 1) := by decide +kernel
theorem dX3_leavesIn_5 : decode cX3_leavesIn 5 = .ok (.iaload, 1) := by decide +kernel
theorem dX3_leavesIn_6 : decode cX3_leavesIn 6 = .ok (.istore_n 3, 1) := by decide +kernel
theorem dX3_leavesIn_7 : decode cX3_leavesIn 7 = .ok (.iload_n 3, 1) := by decide +kernel
theorem dX3_leavesIn_8 : decode cX3_leavesIn 8 = .ok (.ifCond .le 13, 3) := by decide +kernel
theorem dX3_leavesIn_11 : decode cX3_leavesIn 11 = .ok (.iload_n 2, 1) := by decide +kernel
theorem dX3_leavesIn_12 : decode cX3_leavesIn 12 = .ok (.iload_n 3, 1) := by decide +kernel
theorem dX3_leavesIn_13 : decode cX3_leavesIn 13 = .ok (.irem, 1) := by decide +kernel
theorem dX3_leavesIn_14 : decode cX3_leavesIn 14 = .ok (.ifCond .ne 7, 3) := by decide +kernel
theorem dX3_leavesIn_17 : decode cX3_leavesIn 17 = .ok (.iconst 1, 1) := by decide +kernel
theorem dX3_leavesIn_18 : decode cX3_leavesIn 18 = .ok (.goto 4, 3) := by decide +kernel
theorem dX3_leavesIn_21 : decode cX3_leavesIn 21 = .ok (.iconst 0, 1) := by decide +kernel
theorem dX3_leavesIn_22 : decode cX3_leavesIn 22 = .ok (.ireturn, 1) := by decide +kernel
theorem dX3_allPeople_0 : decode cX3_allPeople 0 = .ok (.iconst 0, 1) := by decide +kernel
theorem dX3_allPeople_1 : decode cX3_allPeople 1 = .ok (.istore_n 1, 1) := by decide +kernel
theorem dX3_allPeople_2 : decode cX3_allPeople 2 = .ok (.iconst 0, 1) := by decide +kernel
theorem dX3_allPeople_3 : decode cX3_allPeople 3 = .ok (.istore_n 2, 1) := by decide +kernel
theorem dX3_allPeople_4 : decode cX3_allPeople 4 = .ok (.iload_n 2, 1) := by decide +kernel
theorem dX3_allPeople_5 : decode cX3_allPeople 5 = .ok (.aload_n 0, 1) := by decide +kernel
theorem dX3_allPeople_6 : decode cX3_allPeople 6 = .ok (.getfield 48, 3) := by decide +kernel
theorem dX3_allPeople_9 : decode cX3_allPeople 9 = .ok (.if_icmp .ge 18, 3) := by decide +kernel
theorem dX3_allPeople_12 : decode cX3_allPeople 12 = .ok (.iload_n 1, 1) := by decide +kernel
theorem dX3_allPeople_13 : decode cX3_allPeople 13 = .ok (.aload_n 0, 1) := by decide +kernel
theorem dX3_allPeople_14 : decode cX3_allPeople 14 = .ok (.getfield 15, 3) := by decide +kernel
theorem dX3_allPeople_17 : decode cX3_allPeople 17 = .ok (.iload_n 2, 1) := by decide +kernel
theorem dX3_allPeople_18 : decode cX3_allPeople 18 = .ok (.iaload, 1) := by decide +kernel
theorem dX3_allPeople_19 : decode cX3_allPeople 19 = .ok (.iadd, 1) := by decide +kernel
theorem dX3_allPeople_20 : decode cX3_allPeople 20 = .ok (.istore_n 1, 1) := by decide +kernel
theorem dX3_allPeople_21 : decode cX3_allPeople 21 = .ok (.iinc 2 1, 3) := by decide +kernel
theorem dX3_allPeople_24 : decode cX3_allPeople 24 = .ok (.goto (-20), 3) := by decide +kernel
theorem dX3_allPeople_27 : decode cX3_allPeople 27 = .ok (.iload_n 1, 1) := by decide +kernel
theorem dX3_allPeople_28 : decode cX3_allPeople 28 = .ok (.ireturn, 1) := by decide +kernel
theorem dX4_start_0 : decode cX4_start 0 = .ok (.aload_n 0, 1) := by decide +kernel
theorem dX4_start_1 : decode cX4_start 1 = .ok (.iconst (-1), 1) := by decide +kernel
theorem dX4_start_2 : decode cX4_start 2 = .ok (.putfield 9, 3) := by decide +kernel
theorem dX4_start_5 : decode cX4_start 5 = .ok (.aload_n 0, 1) := by decide +kernel
theorem dX4_start_6 : decode cX4_start 6 = .ok (.iconst (-1), 1) := by decide +kernel
theorem dX4_start_7 : decode cX4_start 7 = .ok (.putfield 15, 3) := by decide +kernel
theorem dX4_start_10 : decode cX4_start 10 = .ok (.aload_n 0, 1) := by decide +kernel
theorem dX4_start_11 : decode cX4_start 11 = .ok (.iload_n 1, 1) := by decide +kernel
theorem dX4_start_12 : decode cX4_start 12 = .ok (.putfield 18, 3) := by decide +kernel
theorem dX4_start_15 : decode cX4_start 15 = .ok (.aload_n 0, 1) := by decide +kernel
theorem dX4_start_16 : decode cX4_start 16 = .ok (.iload_n 2, 1) := by decide +kernel
theorem dX4_start_17 : decode cX4_start 17 = .ok (.putfield 21, 3) := by decide +kernel
theorem dX4_start_20 : decode cX4_start 20 = .ok (.return_, 1) := by decide +kernel
theorem dX4_offer_0 : decode cX4_offer 0 = .ok (.iload_n 3, 1) := by decide +kernel
theorem dX4_offer_1 : decode cX4_offer 1 = .ok (.aload_n 0, 1) := by decide +kernel
theorem dX4_offer_2 : decode cX4_offer 2 = .ok (.getfield 18, 3) := by decide +kernel
theorem dX4_offer_5 : decode cX4_offer 5 = .ok (.if_icmp .lt 20, 3) := by decide +kernel
theorem dX4_offer_8 : decode cX4_offer 8 = .ok (.iload_n 3, 1) := by decide +kernel
theorem dX4_offer_9 : decode cX4_offer 9 = .ok (.aload_n 0, 1) := by decide +kernel
theorem dX4_offer_10 : decode cX4_offer 10 = .ok (.getfield 18, 3) := by decide +kernel
theorem dX4_offer_13 : decode cX4_offer 13 = .ok (.if_icmp .ne 33, 3) := by decide +kernel
theorem dX4_offer_16 : decode cX4_offer 16 = .ok (.iload 4, 2) := by decide +kernel
theorem dX4_offer_18 : decode cX4_offer 18 = .ok (.aload_n 0, 1) := by decide +kernel
theorem dX4_offer_19 : decode cX4_offer 19 = .ok (.getfield 21, 3) := by decide +kernel
theorem dX4_offer_22 : decode cX4_offer 22 = .ok (.if_icmp .ge 24, 3) := by decide +kernel
theorem dX4_offer_25 : decode cX4_offer 25 = .ok (.aload_n 0, 1) := by decide +kernel
theorem dX4_offer_26 : decode cX4_offer 26 = .ok (.iload_n 1, 1) := by decide +kernel
theorem dX4_offer_27 : decode cX4_offer 27 = .ok (.putfield 9, 3) := by decide +kernel
theorem dX4_offer_30 : decode cX4_offer 30 = .ok (.aload_n 0, 1) := by decide +kernel
theorem dX4_offer_31 : decode cX4_offer 31 = .ok (.iload_n 2, 1) := by decide +kernel
theorem dX4_offer_32 : decode cX4_offer 32 = .ok (.putfield 15, 3) := by decide +kernel
theorem dX4_offer_35 : decode cX4_offer 35 = .ok (.aload_n 0, 1) := by decide +kernel
theorem dX4_offer_36 : decode cX4_offer 36 = .ok (.iload_n 3, 1) := by decide +kernel
theorem dX4_offer_37 : decode cX4_offer 37 = .ok (.putfield 18, 3) := by decide +kernel
theorem dX4_offer_40 : decode cX4_offer 40 = .ok (.aload_n 0, 1) := by decide +kernel
theorem dX4_offer_41 : decode cX4_offer 41 = .ok (.iload 4, 2) := by decide +kernel
theorem dX4_offer_43 : decode cX4_offer 43 = .ok (.putfield 21, 3) := by decide +kernel
theorem dX4_offer_46 : decode cX4_offer 46 = .ok (.return_, 1) := by decide +kernel
theorem dX4_part_0 : decode cX4_part 0 = .ok (.iload_n 1, 1) := by decide +kernel
theorem dX4_part_1 : decode cX4_part 1 = .ok (.tableswitch 81 0 4 #[35, 61, 66, 71, 76], 35) := by decide +kernel
theorem dX4_part_36 : decode cX4_part 36 = .ok (.aload_n 0, 1) := by decide +kernel
theorem dX4_part_37 : decode cX4_part 37 = .ok (.getfield 9, 3) := by decide +kernel
theorem dX4_part_40 : decode cX4_part 40 = .ok (.iconst (-1), 1) := by decide +kernel
theorem dX4_part_41 : decode cX4_part 41 = .ok (.if_icmp .ne 7, 3) := by decide +kernel
theorem dX4_part_44 : decode cX4_part 44 = .ok (.iconst 0, 1) := by decide +kernel
theorem dX4_part_45 : decode cX4_part 45 = .ok (.goto 16, 3) := by decide +kernel
theorem dX4_part_48 : decode cX4_part 48 = .ok (.aload_n 0, 1) := by decide +kernel
theorem dX4_part_49 : decode cX4_part 49 = .ok (.getfield 15, 3) := by decide +kernel
theorem dX4_part_52 : decode cX4_part 52 = .ok (.iconst (-1), 1) := by decide +kernel
theorem dX4_part_53 : decode cX4_part 53 = .ok (.if_icmp .ne 7, 3) := by decide +kernel
theorem dX4_part_56 : decode cX4_part 56 = .ok (.iconst 1, 1) := by decide +kernel
theorem dX4_part_57 : decode cX4_part 57 = .ok (.goto 4, 3) := by decide +kernel
theorem dX4_part_60 : decode cX4_part 60 = .ok (.iconst 2, 1) := by decide +kernel
theorem dX4_part_61 : decode cX4_part 61 = .ok (.ireturn, 1) := by decide +kernel
theorem dX4_part_62 : decode cX4_part 62 = .ok (.aload_n 0, 1) := by decide +kernel
theorem dX4_part_63 : decode cX4_part 63 = .ok (.getfield 9, 3) := by decide +kernel
theorem dX4_part_66 : decode cX4_part 66 = .ok (.ireturn, 1) := by decide +kernel
theorem dX4_part_67 : decode cX4_part 67 = .ok (.aload_n 0, 1) := by decide +kernel
theorem dX4_part_68 : decode cX4_part 68 = .ok (.getfield 15, 3) := by decide +kernel
theorem dX4_part_71 : decode cX4_part 71 = .ok (.ireturn, 1) := by decide +kernel
theorem dX4_part_72 : decode cX4_part 72 = .ok (.aload_n 0, 1) := by decide +kernel
theorem dX4_part_73 : decode cX4_part 73 = .ok (.getfield 18, 3) := by decide +kernel
theorem dX4_part_76 : decode cX4_part 76 = .ok (.ireturn, 1) := by decide +kernel
theorem dX4_part_77 : decode cX4_part 77 = .ok (.aload_n 0, 1) := by decide +kernel
theorem dX4_part_78 : decode cX4_part 78 = .ok (.getfield 21, 3) := by decide +kernel
theorem dX4_part_81 : decode cX4_part 81 = .ok (.ireturn, 1) := by decide +kernel
theorem dX4_part_82 : decode cX4_part 82 = .ok (.iconst (-1), 1) := by decide +kernel
theorem dX4_part_83 : decode cX4_part 83 = .ok (.ireturn, 1) := by decide +kernel
theorem dX5_hasPost_0 : decode cX5_hasPost 0 = .ok (.iload_n 1, 1) := by decide +kernel
theorem dX5_hasPost_1 : decode cX5_hasPost 1 = .ok (.iconst 0, 1) := by decide +kernel
theorem dX5_hasPost_2 : decode cX5_hasPost 2 = .ok (.aload_n 0, 1) := by decide +kernel
theorem dX5_hasPost_3 : decode cX5_hasPost 3 = .ok (.getfield 40, 3) := by decide +kernel
theorem dX5_hasPost_6 : decode cX5_hasPost 6 = .ok (.iconst 1, 1) := by decide +kernel
theorem dX5_hasPost_7 : decode cX5_hasPost 7 = .ok (.isub, 1) := by decide +kernel
theorem dX5_hasPost_8 : decode cX5_hasPost 8 = .ok (.invokestatic 44, 3) := by decide +kernel
theorem dX5_hasPost_11 : decode cX5_hasPost 11 = .ok (.ireturn, 1) := by decide +kernel
theorem dX5_addPost_0 : decode cX5_addPost 0 = .ok (.iload_n 1, 1) := by decide +kernel
theorem dX5_addPost_1 : decode cX5_addPost 1 = .ok (.iconst 0, 1) := by decide +kernel
theorem dX5_addPost_2 : decode cX5_addPost 2 = .ok (.iconst 3, 1) := by decide +kernel
theorem dX5_addPost_3 : decode cX5_addPost 3 = .ok (.invokestatic 44, 3) := by decide +kernel
theorem dX5_addPost_6 : decode cX5_addPost 6 = .ok (.ifCond .eq 12, 3) := by decide +kernel
theorem dX5_addPost_9 : decode cX5_addPost 9 = .ok (.aload_n 0, 1) := by decide +kernel
theorem dX5_addPost_10 : decode cX5_addPost 10 = .ok (.getfield 40, 3) := by decide +kernel
theorem dX5_addPost_13 : decode cX5_addPost 13 = .ok (.bipush 8, 2) := by decide +kernel
theorem dX5_addPost_15 : decode cX5_addPost 15 = .ok (.if_icmp .lt 5, 3) := by decide +kernel
theorem dX5_addPost_18 : decode cX5_addPost 18 = .ok (.iconst (-1), 1) := by decide +kernel
theorem dX5_addPost_19 : decode cX5_addPost 19 = .ok (.ireturn, 1) := by decide +kernel
theorem dX5_addPost_20 : decode cX5_addPost 20 = .ok (.aload_n 0, 1) := by decide +kernel
theorem dX5_addPost_21 : decode cX5_addPost 21 = .ok (.getfield 11, 3) := by decide +kernel
theorem dX5_addPost_24 : decode cX5_addPost 24 = .ok (.aload_n 0, 1) := by decide +kernel
theorem dX5_addPost_25 : decode cX5_addPost 25 = .ok (.getfield 40, 3) := by decide +kernel
theorem dX5_addPost_28 : decode cX5_addPost 28 = .ok (.iload_n 1, 1) := by decide +kernel
theorem dX5_addPost_29 : decode cX5_addPost 29 = .ok (.iastore, 1) := by decide +kernel
theorem dX5_addPost_30 : decode cX5_addPost 30 = .ok (.aload_n 0, 1) := by decide +kernel
theorem dX5_addPost_31 : decode cX5_addPost 31 = .ok (.dup, 1) := by decide +kernel
theorem dX5_addPost_32 : decode cX5_addPost 32 = .ok (.getfield 40, 3) := by decide +kernel
theorem dX5_addPost_35 : decode cX5_addPost 35 = .ok (.iconst 1, 1) := by decide +kernel
theorem dX5_addPost_36 : decode cX5_addPost 36 = .ok (.iadd, 1) := by decide +kernel
theorem dX5_addPost_37 : decode cX5_addPost 37 = .ok (.putfield 40, 3) := by decide +kernel
theorem dX5_addPost_40 : decode cX5_addPost 40 = .ok (.aload_n 0, 1) := by decide +kernel
theorem dX5_addPost_41 : decode cX5_addPost 41 = .ok (.getfield 40, 3) := by decide +kernel
theorem dX5_addPost_44 : decode cX5_addPost 44 = .ok (.iconst 1, 1) := by decide +kernel
theorem dX5_addPost_45 : decode cX5_addPost 45 = .ok (.isub, 1) := by decide +kernel
theorem dX5_addPost_46 : decode cX5_addPost 46 = .ok (.ireturn, 1) := by decide +kernel
theorem dX5_tell_0 : decode cX5_tell 0 = .ok (.iload 5, 2) := by decide +kernel
theorem dX5_tell_2 : decode cX5_tell 2 = .ok (.ifCond .ne 17, 3) := by decide +kernel
theorem dX5_tell_5 : decode cX5_tell 5 = .ok (.iload 4, 2) := by decide +kernel
theorem dX5_tell_7 : decode cX5_tell 7 = .ok (.sipush (-9999), 3) := by decide +kernel
theorem dX5_tell_10 : decode cX5_tell 10 = .ok (.sipush 9999, 3) := by decide +kernel
theorem dX5_tell_13 : decode cX5_tell 13 = .ok (.invokestatic 44, 3) := by decide +kernel
theorem dX5_tell_16 : decode cX5_tell 16 = .ok (.ifCond .eq 7, 3) := by decide +kernel
theorem dX5_tell_19 : decode cX5_tell 19 = .ok (.iconst 1, 1) := by decide +kernel
theorem dX5_tell_20 : decode cX5_tell 20 = .ok (.goto 4, 3) := by decide +kernel
theorem dX5_tell_23 : decode cX5_tell 23 = .ok (.iconst 0, 1) := by decide +kernel
theorem dX5_tell_24 : decode cX5_tell 24 = .ok (.istore 6, 2) := by decide +kernel
theorem dX5_tell_26 : decode cX5_tell 26 = .ok (.aload_n 0, 1) := by decide +kernel
theorem dX5_tell_27 : decode cX5_tell 27 = .ok (.iload_n 1, 1) := by decide +kernel
theorem dX5_tell_28 : decode cX5_tell 28 = .ok (.invokevirtual 48, 3) := by decide +kernel
theorem dX5_tell_31 : decode cX5_tell 31 = .ok (.ifCond .eq 25, 3) := by decide +kernel
theorem dX5_tell_34 : decode cX5_tell 34 = .ok (.iload_n 2, 1) := by decide +kernel
theorem dX5_tell_35 : decode cX5_tell 35 = .ok (.invokestatic 52, 3) := by decide +kernel
theorem dX5_tell_38 : decode cX5_tell 38 = .ok (.ifCond .eq 18, 3) := by decide +kernel
theorem dX5_tell_41 : decode cX5_tell 41 = .ok (.iload 6, 2) := by decide +kernel
theorem dX5_tell_43 : decode cX5_tell 43 = .ok (.ifCond .eq 13, 3) := by decide +kernel
theorem dX5_tell_46 : decode cX5_tell 46 = .ok (.aload_n 0, 1) := by decide +kernel
theorem dX5_tell_47 : decode cX5_tell 47 = .ok (.getfield 55, 3) := by decide +kernel
theorem dX5_tell_50 : decode cX5_tell 50 = .ok (.sipush 400, 3) := by decide +kernel
theorem dX5_tell_53 : decode cX5_tell 53 = .ok (.if_icmp .lt 5, 3) := by decide +kernel
theorem dX5_tell_56 : decode cX5_tell 56 = .ok (.iconst (-1), 1) := by decide +kernel
theorem dX5_tell_57 : decode cX5_tell 57 = .ok (.ireturn, 1) := by decide +kernel
theorem dX5_tell_58 : decode cX5_tell 58 = .ok (.iload_n 1, 1) := by decide +kernel
theorem dX5_tell_59 : decode cX5_tell 59 = .ok (.bipush 100, 2) := by decide +kernel
theorem dX5_tell_61 : decode cX5_tell 61 = .ok (.imul, 1) := by decide +kernel
theorem dX5_tell_62 : decode cX5_tell 62 = .ok (.iload_n 2, 1) := by decide +kernel
theorem dX5_tell_63 : decode cX5_tell 63 = .ok (.iadd, 1) := by decide +kernel
theorem dX5_tell_64 : decode cX5_tell 64 = .ok (.istore 7, 2) := by decide +kernel
theorem dX5_tell_66 : decode cX5_tell 66 = .ok (.aload_n 0, 1) := by decide +kernel
theorem dX5_tell_67 : decode cX5_tell 67 = .ok (.getfield 21, 3) := by decide +kernel
theorem dX5_tell_70 : decode cX5_tell 70 = .ok (.aload_n 0, 1) := by decide +kernel
theorem dX5_tell_71 : decode cX5_tell 71 = .ok (.getfield 55, 3) := by decide +kernel
theorem dX5_tell_74 : decode cX5_tell 74 = .ok (.iload_n 3, 1) := by decide +kernel
theorem dX5_tell_75 : decode cX5_tell 75 = .ok (.iastore, 1) := by decide +kernel
theorem dX5_tell_76 : decode cX5_tell 76 = .ok (.aload_n 0, 1) := by decide +kernel
theorem dX5_tell_77 : decode cX5_tell 77 = .ok (.getfield 24, 3) := by decide +kernel
theorem dX5_tell_80 : decode cX5_tell 80 = .ok (.aload_n 0, 1) := by decide +kernel
theorem dX5_tell_81 : decode cX5_tell 81 = .ok (.getfield 55, 3) := by decide +kernel
theorem dX5_tell_84 : decode cX5_tell 84 = .ok (.iload 5, 2) := by decide +kernel
theorem dX5_tell_86 : decode cX5_tell 86 = .ok (.ifCond .eq 9, 3) := by decide +kernel
theorem dX5_tell_89 : decode cX5_tell 89 = .ok (.sipush (-10000), 3) := by decide +kernel
theorem dX5_tell_92 : decode cX5_tell 92 = .ok (.goto 5, 3) := by decide +kernel
theorem dX5_tell_95 : decode cX5_tell 95 = .ok (.iload 4, 2) := by decide +kernel
theorem dX5_tell_97 : decode cX5_tell 97 = .ok (.iastore, 1) := by decide +kernel
theorem dX5_tell_98 : decode cX5_tell 98 = .ok (.aload_n 0, 1) := by decide +kernel
theorem dX5_tell_99 : decode cX5_tell 99 = .ok (.getfield 18, 3) := by decide +kernel
theorem dX5_tell_102 : decode cX5_tell 102 = .ok (.aload_n 0, 1) := by decide +kernel
theorem dX5_tell_103 : decode cX5_tell 103 = .ok (.getfield 55, 3) := by decide +kernel
theorem dX5_tell_106 : decode cX5_tell 106 = .ok (.aload_n 0, 1) := by decide +kernel
theorem dX5_tell_107 : decode cX5_tell 107 = .ok (.getfield 15, 3) := by decide +kernel
theorem dX5_tell_110 : decode cX5_tell 110 = .ok (.iload 7, 2) := by decide +kernel
theorem dX5_tell_112 : decode cX5_tell 112 = .ok (.iaload, 1) := by decide +kernel
theorem dX5_tell_113 : decode cX5_tell 113 = .ok (.iastore, 1) := by decide +kernel
theorem dX5_tell_114 : decode cX5_tell 114 = .ok (.aload_n 0, 1) := by decide +kernel
theorem dX5_tell_115 : decode cX5_tell 115 = .ok (.getfield 15, 3) := by decide +kernel
theorem dX5_tell_118 : decode cX5_tell 118 = .ok (.iload 7, 2) := by decide +kernel
theorem dX5_tell_120 : decode cX5_tell 120 = .ok (.aload_n 0, 1) := by decide +kernel
theorem dX5_tell_121 : decode cX5_tell 121 = .ok (.getfield 55, 3) := by decide +kernel
theorem dX5_tell_124 : decode cX5_tell 124 = .ok (.iastore, 1) := by decide +kernel
theorem dX5_tell_125 : decode cX5_tell 125 = .ok (.aload_n 0, 1) := by decide +kernel
theorem dX5_tell_126 : decode cX5_tell 126 = .ok (.dup, 1) := by decide +kernel
theorem dX5_tell_127 : decode cX5_tell 127 = .ok (.getfield 55, 3) := by decide +kernel
theorem dX5_tell_130 : decode cX5_tell 130 = .ok (.iconst 1, 1) := by decide +kernel
theorem dX5_tell_131 : decode cX5_tell 131 = .ok (.iadd, 1) := by decide +kernel
theorem dX5_tell_132 : decode cX5_tell 132 = .ok (.putfield 55, 3) := by decide +kernel
theorem dX5_tell_135 : decode cX5_tell 135 = .ok (.aload_n 0, 1) := by decide +kernel
theorem dX5_tell_136 : decode cX5_tell 136 = .ok (.getfield 55, 3) := by decide +kernel
theorem dX5_tell_139 : decode cX5_tell 139 = .ok (.ireturn, 1) := by decide +kernel
theorem dX5_known_0 : decode cX5_known 0 = .ok (.aload_n 0, 1) := by decide +kernel
theorem dX5_known_1 : decode cX5_known 1 = .ok (.getfield 15, 3) := by decide +kernel
theorem dX5_known_4 : decode cX5_known 4 = .ok (.iload_n 1, 1) := by decide +kernel
theorem dX5_known_5 : decode cX5_known 5 = .ok (.bipush 100, 2) := by decide +kernel
theorem dX5_known_7 : decode cX5_known 7 = .ok (.imul, 1) := by decide +kernel
theorem dX5_known_8 : decode cX5_known 8 = .ok (.iload_n 2, 1) := by decide +kernel
theorem dX5_known_9 : decode cX5_known 9 = .ok (.iadd, 1) := by decide +kernel
theorem dX5_known_10 : decode cX5_known 10 = .ok (.iaload, 1) := by decide +kernel
theorem dX5_known_11 : decode cX5_known 11 = .ok (.istore 4, 2) := by decide +kernel
theorem dX5_known_13 : decode cX5_known 13 = .ok (.iconst 0, 1) := by decide +kernel
theorem dX5_known_14 : decode cX5_known 14 = .ok (.istore 5, 2) := by decide +kernel
theorem dX5_known_16 : decode cX5_known 16 = .ok (.iload 5, 2) := by decide +kernel
theorem dX5_known_18 : decode cX5_known 18 = .ok (.aload_n 0, 1) := by decide +kernel
theorem dX5_known_19 : decode cX5_known 19 = .ok (.getfield 55, 3) := by decide +kernel
theorem dX5_known_22 : decode cX5_known 22 = .ok (.if_icmp .ge 43, 3) := by decide +kernel
theorem dX5_known_25 : decode cX5_known 25 = .ok (.iload 4, 2) := by decide +kernel
theorem dX5_known_27 : decode cX5_known 27 = .ok (.iconst (-1), 1) := by decide +kernel
theorem dX5_known_28 : decode cX5_known 28 = .ok (.if_icmp .eq 37, 3) := by decide +kernel
theorem dX5_known_31 : decode cX5_known 31 = .ok (.aload_n 0, 1) := by decide +kernel
theorem dX5_known_32 : decode cX5_known 32 = .ok (.getfield 21, 3) := by decide +kernel
theorem dX5_known_35 : decode cX5_known 35 = .ok (.iload 4, 2) := by decide +kernel
theorem dX5_known_37 : decode cX5_known 37 = .ok (.iaload, 1) := by decide +kernel
theorem dX5_known_38 : decode cX5_known 38 = .ok (.iload_n 3, 1) := by decide +kernel
theorem dX5_known_39 : decode cX5_known 39 = .ok (.if_icmp .gt 11, 3) := by decide +kernel
theorem dX5_known_42 : decode cX5_known 42 = .ok (.aload_n 0, 1) := by decide +kernel
theorem dX5_known_43 : decode cX5_known 43 = .ok (.getfield 24, 3) := by decide +kernel
theorem dX5_known_46 : decode cX5_known 46 = .ok (.iload 4, 2) := by decide +kernel
theorem dX5_known_48 : decode cX5_known 48 = .ok (.iaload, 1) := by decide +kernel
theorem dX5_known_49 : decode cX5_known 49 = .ok (.ireturn, 1) := by decide +kernel
theorem dX5_known_50 : decode cX5_known 50 = .ok (.aload_n 0, 1) := by decide +kernel
theorem dX5_known_51 : decode cX5_known 51 = .ok (.getfield 18, 3) := by decide +kernel
theorem dX5_known_54 : decode cX5_known 54 = .ok (.iload 4, 2) := by decide +kernel
theorem dX5_known_56 : decode cX5_known 56 = .ok (.iaload, 1) := by decide +kernel
theorem dX5_known_57 : decode cX5_known 57 = .ok (.istore 4, 2) := by decide +kernel
theorem dX5_known_59 : decode cX5_known 59 = .ok (.iinc 5 1, 3) := by decide +kernel
theorem dX5_known_62 : decode cX5_known 62 = .ok (.goto (-46), 3) := by decide +kernel
theorem dX5_known_65 : decode cX5_known 65 = .ok (.sipush (-10000), 3) := by decide +kernel
theorem dX5_known_68 : decode cX5_known 68 = .ok (.ireturn, 1) := by decide +kernel
theorem dX5_overWindow_0 : decode cX5_overWindow 0 = .ok (.aload_n 0, 1) := by decide +kernel
theorem dX5_overWindow_1 : decode cX5_overWindow 1 = .ok (.getfield 30, 3) := by decide +kernel
theorem dX5_overWindow_4 : decode cX5_overWindow 4 = .ok (.invokevirtual 58, 3) := by decide +kernel
theorem dX5_overWindow_7 : decode cX5_overWindow 7 = .ok (.iconst 0, 1) := by decide +kernel
theorem dX5_overWindow_8 : decode cX5_overWindow 8 = .ok (.iload 4, 2) := by decide +kernel
theorem dX5_overWindow_10 : decode cX5_overWindow 10 = .ok (.iload_n 3, 1) := by decide +kernel
theorem dX5_overWindow_11 : decode cX5_overWindow 11 = .ok (.isub, 1) := by decide +kernel
theorem dX5_overWindow_12 : decode cX5_overWindow 12 = .ok (.iconst 1, 1) := by decide +kernel
theorem dX5_overWindow_13 : decode cX5_overWindow 13 = .ok (.iadd, 1) := by decide +kernel
theorem dX5_overWindow_14 : decode cX5_overWindow 14 = .ok (.invokestatic 61, 3) := by decide +kernel
theorem dX5_overWindow_17 : decode cX5_overWindow 17 = .ok (.istore 6, 2) := by decide +kernel
theorem dX5_overWindow_19 : decode cX5_overWindow 19 = .ok (.iconst 0, 1) := by decide +kernel
theorem dX5_overWindow_20 : decode cX5_overWindow 20 = .ok (.istore 7, 2) := by decide +kernel
theorem dX5_overWindow_22 : decode cX5_overWindow 22 = .ok (.iload 7, 2) := by decide +kernel
theorem dX5_overWindow_24 : decode cX5_overWindow 24 = .ok (.aload_n 0, 1) := by decide +kernel
theorem dX5_overWindow_25 : decode cX5_overWindow 25 = .ok (.getfield 40, 3) := by decide +kernel
theorem dX5_overWindow_28 : decode cX5_overWindow 28 = .ok (.if_icmp .ge 56, 3) := by decide +kernel
theorem dX5_overWindow_31 : decode cX5_overWindow 31 = .ok (.aload_n 0, 1) := by decide +kernel
theorem dX5_overWindow_32 : decode cX5_overWindow 32 = .ok (.getfield 11, 3) := by decide +kernel
theorem dX5_overWindow_35 : decode cX5_overWindow 35 = .ok (.iload 7, 2) := by decide +kernel
theorem dX5_overWindow_37 : decode cX5_overWindow 37 = .ok (.iaload, 1) := by decide +kernel
theorem dX5_overWindow_38 : decode cX5_overWindow 38 = .ok (.iload_n 2, 1) := by decide +kernel
theorem dX5_overWindow_39 : decode cX5_overWindow 39 = .ok (.if_icmp .ne 39, 3) := by decide +kernel
theorem dX5_overWindow_42 : decode cX5_overWindow 42 = .ok (.iload 6, 2) := by decide +kernel
theorem dX5_overWindow_44 : decode cX5_overWindow 44 = .ok (.istore 8, 2) := by decide +kernel
theorem dX5_overWindow_46 : decode cX5_overWindow 46 = .ok (.iload 8, 2) := by decide +kernel
theorem dX5_overWindow_48 : decode cX5_overWindow 48 = .ok (.iload 4, 2) := by decide +kernel
theorem dX5_overWindow_50 : decode cX5_overWindow 50 = .ok (.if_icmp .gt 28, 3) := by decide +kernel
theorem dX5_overWindow_53 : decode cX5_overWindow 53 = .ok (.aload_n 0, 1) := by decide +kernel
theorem dX5_overWindow_54 : decode cX5_overWindow 54 = .ok (.getfield 30, 3) := by decide +kernel
theorem dX5_overWindow_57 : decode cX5_overWindow 57 = .ok (.iload 8, 2) := by decide +kernel
theorem dX5_overWindow_59 : decode cX5_overWindow 59 = .ok (.aload_n 0, 1) := by decide +kernel
theorem dX5_overWindow_60 : decode cX5_overWindow 60 = .ok (.iload 7, 2) := by decide +kernel
theorem dX5_overWindow_62 : decode cX5_overWindow 62 = .ok (.iload 8, 2) := by decide +kernel
theorem dX5_overWindow_64 : decode cX5_overWindow 64 = .ok (.iload 5, 2) := by decide +kernel
theorem dX5_overWindow_66 : decode cX5_overWindow 66 = .ok (.invokevirtual 67, 3) := by decide +kernel
theorem dX5_overWindow_69 : decode cX5_overWindow 69 = .ok (.invokevirtual 71, 3) := by decide +kernel
theorem dX5_overWindow_72 : decode cX5_overWindow 72 = .ok (.iinc 8 1, 3) := by decide +kernel
theorem dX5_overWindow_75 : decode cX5_overWindow 75 = .ok (.goto (-29), 3) := by decide +kernel
theorem dX5_overWindow_78 : decode cX5_overWindow 78 = .ok (.iinc 7 1, 3) := by decide +kernel
theorem dX5_overWindow_81 : decode cX5_overWindow 81 = .ok (.goto (-59), 3) := by decide +kernel
theorem dX5_overWindow_84 : decode cX5_overWindow 84 = .ok (.aload_n 0, 1) := by decide +kernel
theorem dX5_overWindow_85 : decode cX5_overWindow 85 = .ok (.getfield 30, 3) := by decide +kernel
theorem dX5_overWindow_88 : decode cX5_overWindow 88 = .ok (.iload_n 1, 1) := by decide +kernel
theorem dX5_overWindow_89 : decode cX5_overWindow 89 = .ok (.invokevirtual 75, 3) := by decide +kernel
theorem dX5_overWindow_92 : decode cX5_overWindow 92 = .ok (.lreturn, 1) := by decide +kernel
theorem dX6_clear_0 : decode cX6_clear 0 = .ok (.aload_n 0, 1) := by decide +kernel
theorem dX6_clear_1 : decode cX6_clear 1 = .ok (.iconst 0, 1) := by decide +kernel
theorem dX6_clear_2 : decode cX6_clear 2 = .ok (.putfield 31, 3) := by decide +kernel
theorem dX6_clear_5 : decode cX6_clear 5 = .ok (.aload_n 0, 1) := by decide +kernel
theorem dX6_clear_6 : decode cX6_clear 6 = .ok (.iconst 0, 1) := by decide +kernel
theorem dX6_clear_7 : decode cX6_clear 7 = .ok (.putfield 35, 3) := by decide +kernel
theorem dX6_clear_10 : decode cX6_clear 10 = .ok (.aload_n 0, 1) := by decide +kernel
theorem dX6_clear_11 : decode cX6_clear 11 = .ok (.iconst 0, 1) := by decide +kernel
theorem dX6_clear_12 : decode cX6_clear 12 = .ok (.putfield 38, 3) := by decide +kernel
theorem dX6_clear_15 : decode cX6_clear 15 = .ok (.aload_n 0, 1) := by decide +kernel
theorem dX6_clear_16 : decode cX6_clear 16 = .ok (.iconst 0, 1) := by decide +kernel
theorem dX6_clear_17 : decode cX6_clear 17 = .ok (.putfield 41, 3) := by decide +kernel
theorem dX6_clear_20 : decode cX6_clear 20 = .ok (.aload_n 0, 1) := by decide +kernel
theorem dX6_clear_21 : decode cX6_clear 21 = .ok (.iconst 0, 1) := by decide +kernel
theorem dX6_clear_22 : decode cX6_clear 22 = .ok (.putfield 44, 3) := by decide +kernel
theorem dX6_clear_25 : decode cX6_clear 25 = .ok (.return_, 1) := by decide +kernel
theorem dX6_write_0 : decode cX6_write 0 = .ok (.aload_n 0, 1) := by decide +kernel
theorem dX6_write_1 : decode cX6_write 1 = .ok (.getfield 31, 3) := by decide +kernel
theorem dX6_write_4 : decode cX6_write 4 = .ok (.bipush 64, 2) := by decide +kernel
theorem dX6_write_6 : decode cX6_write 6 = .ok (.if_icmp .ge 43, 3) := by decide +kernel
theorem dX6_write_9 : decode cX6_write 9 = .ok (.aload_n 0, 1) := by decide +kernel
theorem dX6_write_10 : decode cX6_write 10 = .ok (.getfield 11, 3) := by decide +kernel
theorem dX6_write_13 : decode cX6_write 13 = .ok (.aload_n 0, 1) := by decide +kernel
theorem dX6_write_14 : decode cX6_write 14 = .ok (.getfield 31, 3) := by decide +kernel
theorem dX6_write_17 : decode cX6_write 17 = .ok (.iload_n 1, 1) := by decide +kernel
theorem dX6_write_18 : decode cX6_write 18 = .ok (.iastore, 1) := by decide +kernel
theorem dX6_write_19 : decode cX6_write 19 = .ok (.aload_n 0, 1) := by decide +kernel
theorem dX6_write_20 : decode cX6_write 20 = .ok (.getfield 15, 3) := by decide +kernel
theorem dX6_write_23 : decode cX6_write 23 = .ok (.aload_n 0, 1) := by decide +kernel
theorem dX6_write_24 : decode cX6_write 24 = .ok (.getfield 31, 3) := by decide +kernel
theorem dX6_write_27 : decode cX6_write 27 = .ok (.iload_n 2, 1) := by decide +kernel
theorem dX6_write_28 : decode cX6_write 28 = .ok (.iastore, 1) := by decide +kernel
theorem dX6_write_29 : decode cX6_write 29 = .ok (.aload_n 0, 1) := by decide +kernel
theorem dX6_write_30 : decode cX6_write 30 = .ok (.getfield 18, 3) := by decide +kernel
theorem dX6_write_33 : decode cX6_write 33 = .ok (.aload_n 0, 1) := by decide +kernel
theorem dX6_write_34 : decode cX6_write 34 = .ok (.getfield 31, 3) := by decide +kernel
theorem dX6_write_37 : decode cX6_write 37 = .ok (.iload_n 3, 1) := by decide +kernel
theorem dX6_write_38 : decode cX6_write 38 = .ok (.iastore, 1) := by decide +kernel
theorem dX6_write_39 : decode cX6_write 39 = .ok (.aload_n 0, 1) := by decide +kernel
theorem dX6_write_40 : decode cX6_write 40 = .ok (.dup, 1) := by decide +kernel
theorem dX6_write_41 : decode cX6_write 41 = .ok (.getfield 31, 3) := by decide +kernel
theorem dX6_write_44 : decode cX6_write 44 = .ok (.iconst 1, 1) := by decide +kernel
theorem dX6_write_45 : decode cX6_write 45 = .ok (.iadd, 1) := by decide +kernel
theorem dX6_write_46 : decode cX6_write 46 = .ok (.putfield 31, 3) := by decide +kernel
theorem dX6_write_49 : decode cX6_write 49 = .ok (.return_, 1) := by decide +kernel
theorem dX6_endLine_0 : decode cX6_endLine 0 = .ok (.aload_n 0, 1) := by decide +kernel
theorem dX6_endLine_1 : decode cX6_endLine 1 = .ok (.getfield 35, 3) := by decide +kernel
theorem dX6_endLine_4 : decode cX6_endLine 4 = .ok (.bipush 12, 2) := by decide +kernel
theorem dX6_endLine_6 : decode cX6_endLine 6 = .ok (.if_icmp .ge 36, 3) := by decide +kernel
theorem dX6_endLine_9 : decode cX6_endLine 9 = .ok (.aload_n 0, 1) := by decide +kernel
theorem dX6_endLine_10 : decode cX6_endLine 10 = .ok (.getfield 21, 3) := by decide +kernel
theorem dX6_endLine_13 : decode cX6_endLine 13 = .ok (.aload_n 0, 1) := by decide +kernel
theorem dX6_endLine_14 : decode cX6_endLine 14 = .ok (.getfield 35, 3) := by decide +kernel
theorem dX6_endLine_17 : decode cX6_endLine 17 = .ok (.iload_n 1, 1) := by decide +kernel
theorem dX6_endLine_18 : decode cX6_endLine 18 = .ok (.iastore, 1) := by decide +kernel
theorem dX6_endLine_19 : decode cX6_endLine 19 = .ok (.aload_n 0, 1) := by decide +kernel
theorem dX6_endLine_20 : decode cX6_endLine 20 = .ok (.getfield 24, 3) := by decide +kernel
theorem dX6_endLine_23 : decode cX6_endLine 23 = .ok (.aload_n 0, 1) := by decide +kernel
theorem dX6_endLine_24 : decode cX6_endLine 24 = .ok (.getfield 35, 3) := by decide +kernel
theorem dX6_endLine_27 : decode cX6_endLine 27 = .ok (.aload_n 0, 1) := by decide +kernel
theorem dX6_endLine_28 : decode cX6_endLine 28 = .ok (.getfield 31, 3) := by decide +kernel
theorem dX6_endLine_31 : decode cX6_endLine 31 = .ok (.iastore, 1) := by decide +kernel
theorem dX6_endLine_32 : decode cX6_endLine 32 = .ok (.aload_n 0, 1) := by decide +kernel
theorem dX6_endLine_33 : decode cX6_endLine 33 = .ok (.dup, 1) := by decide +kernel
theorem dX6_endLine_34 : decode cX6_endLine 34 = .ok (.getfield 35, 3) := by decide +kernel
theorem dX6_endLine_37 : decode cX6_endLine 37 = .ok (.iconst 1, 1) := by decide +kernel
theorem dX6_endLine_38 : decode cX6_endLine 38 = .ok (.iadd, 1) := by decide +kernel
theorem dX6_endLine_39 : decode cX6_endLine 39 = .ok (.putfield 35, 3) := by decide +kernel
theorem dX6_endLine_42 : decode cX6_endLine 42 = .ok (.return_, 1) := by decide +kernel
theorem dX6_greatestLevel_0 : decode cX6_greatestLevel 0 = .ok (.iconst 0, 1) := by decide +kernel
theorem dX6_greatestLevel_1 : decode cX6_greatestLevel 1 = .ok (.istore 4, 2) := by decide +kernel
theorem dX6_greatestLevel_3 : decode cX6_greatestLevel 3 = .ok (.iconst 0, 1) := by decide +kernel
theorem dX6_greatestLevel_4 : decode cX6_greatestLevel 4 = .ok (.istore 5, 2) := by decide +kernel
theorem dX6_greatestLevel_6 : decode cX6_greatestLevel 6 = .ok (.iload 5, 2) := by decide +kernel
theorem dX6_greatestLevel_8 : decode cX6_greatestLevel 8 = .ok (.aload_n 0, 1) := by decide +kernel
theorem dX6_greatestLevel_9 : decode cX6_greatestLevel 9 = .ok (.getfield 35, 3) := by decide +kernel
theorem dX6_greatestLevel_12 : decode cX6_greatestLevel 12 = .ok (.if_icmp .ge 57, 3) := by decide +kernel
theorem dX6_greatestLevel_15 : decode cX6_greatestLevel 15 = .ok (.aload_n 0, 1) := by decide +kernel
theorem dX6_greatestLevel_16 : decode cX6_greatestLevel 16 = .ok (.getfield 21, 3) := by decide +kernel
theorem dX6_greatestLevel_19 : decode cX6_greatestLevel 19 = .ok (.iload 5, 2) := by decide +kernel
theorem dX6_greatestLevel_21 : decode cX6_greatestLevel 21 = .ok (.iaload, 1) := by decide +kernel
theorem dX6_greatestLevel_22 : decode cX6_greatestLevel 22 = .ok (.iload 4, 2) := by decide +kernel
theorem dX6_greatestLevel_24 : decode cX6_greatestLevel 24 = .ok (.if_icmp .le 39, 3) := by decide +kernel
theorem dX6_greatestLevel_27 : decode cX6_greatestLevel 27 = .ok (.aload_n 0, 1) := by decide +kernel
theorem dX6_greatestLevel_28 : decode cX6_greatestLevel 28 = .ok (.iload 5, 2) := by decide +kernel
theorem dX6_greatestLevel_30 : decode cX6_greatestLevel 30 = .ok (.aload_n 1, 1) := by decide +kernel
theorem dX6_greatestLevel_31 : decode cX6_greatestLevel 31 = .ok (.iload_n 2, 1) := by decide +kernel
theorem dX6_greatestLevel_32 : decode cX6_greatestLevel 32 = .ok (.iload_n 3, 1) := by decide +kernel
theorem dX6_greatestLevel_33 : decode cX6_greatestLevel 33 = .ok (.invokevirtual 48, 3) := by decide +kernel
theorem dX6_greatestLevel_36 : decode cX6_greatestLevel 36 = .ok (.lstore 6, 2) := by decide +kernel
theorem dX6_greatestLevel_38 : decode cX6_greatestLevel 38 = .ok (.lload 6, 2) := by decide +kernel
theorem dX6_greatestLevel_40 : decode cX6_greatestLevel 40 = .ok (.lconst 0, 1) := by decide +kernel
theorem dX6_greatestLevel_41 : decode cX6_greatestLevel 41 = .ok (.lcmp, 1) := by decide +kernel
theorem dX6_greatestLevel_42 : decode cX6_greatestLevel 42 = .ok (.ifCond .eq 21, 3) := by decide +kernel
theorem dX6_greatestLevel_45 : decode cX6_greatestLevel 45 = .ok (.lload 6, 2) := by decide +kernel
theorem dX6_greatestLevel_47 : decode cX6_greatestLevel 47 = .ok (.ldc2_w 52, 3) := by decide +kernel
theorem dX6_greatestLevel_50 : decode cX6_greatestLevel 50 = .ok (.lcmp, 1) := by decide +kernel
theorem dX6_greatestLevel_51 : decode cX6_greatestLevel 51 = .ok (.ifCond .eq 12, 3) := by decide +kernel
theorem dX6_greatestLevel_54 : decode cX6_greatestLevel 54 = .ok (.aload_n 0, 1) := by decide +kernel
theorem dX6_greatestLevel_55 : decode cX6_greatestLevel 55 = .ok (.getfield 21, 3) := by decide +kernel
theorem dX6_greatestLevel_58 : decode cX6_greatestLevel 58 = .ok (.iload 5, 2) := by decide +kernel
theorem dX6_greatestLevel_60 : decode cX6_greatestLevel 60 = .ok (.iaload, 1) := by decide +kernel
theorem dX6_greatestLevel_61 : decode cX6_greatestLevel 61 = .ok (.istore 4, 2) := by decide +kernel
theorem dX6_greatestLevel_63 : decode cX6_greatestLevel 63 = .ok (.iinc 5 1, 3) := by decide +kernel
theorem dX6_greatestLevel_66 : decode cX6_greatestLevel 66 = .ok (.goto (-60), 3) := by decide +kernel
theorem dX6_greatestLevel_69 : decode cX6_greatestLevel 69 = .ok (.iload 4, 2) := by decide +kernel
theorem dX6_greatestLevel_71 : decode cX6_greatestLevel 71 = .ok (.ireturn, 1) := by decide +kernel
theorem dX6_value_0 : decode cX6_value 0 = .ok (.aload_n 0, 1) := by decide +kernel
theorem dX6_value_1 : decode cX6_value 1 = .ok (.iconst 0, 1) := by decide +kernel
theorem dX6_value_2 : decode cX6_value 2 = .ok (.putfield 54, 3) := by decide +kernel
theorem dX6_value_5 : decode cX6_value 5 = .ok (.iload_n 1, 1) := by decide +kernel
theorem dX6_value_6 : decode cX6_value 6 = .ok (.ifCond .le 14, 3) := by decide +kernel
theorem dX6_value_9 : decode cX6_value 9 = .ok (.aload_n 0, 1) := by decide +kernel
theorem dX6_value_10 : decode cX6_value 10 = .ok (.getfield 24, 3) := by decide +kernel
theorem dX6_value_13 : decode cX6_value 13 = .ok (.iload_n 1, 1) := by decide +kernel
theorem dX6_value_14 : decode cX6_value 14 = .ok (.iconst 1, 1) := by decide +kernel
theorem dX6_value_15 : decode cX6_value 15 = .ok (.isub, 1) := by decide +kernel
theorem dX6_value_16 : decode cX6_value 16 = .ok (.iaload, 1) := by decide +kernel
theorem dX6_value_17 : decode cX6_value 17 = .ok (.goto 4, 3) := by decide +kernel
theorem dX6_value_20 : decode cX6_value 20 = .ok (.iconst 0, 1) := by decide +kernel
theorem dX6_value_21 : decode cX6_value 21 = .ok (.istore 5, 2) := by decide +kernel
theorem dX6_value_23 : decode cX6_value 23 = .ok (.iload 5, 2) := by decide +kernel
theorem dX6_value_25 : decode cX6_value 25 = .ok (.aload_n 0, 1) := by decide +kernel
theorem dX6_value_26 : decode cX6_value 26 = .ok (.getfield 24, 3) := by decide +kernel
theorem dX6_value_29 : decode cX6_value 29 = .ok (.iload_n 1, 1) := by decide +kernel
theorem dX6_value_30 : decode cX6_value 30 = .ok (.iaload, 1) := by decide +kernel
theorem dX6_value_31 : decode cX6_value 31 = .ok (.if_icmp .ge 49, 3) := by decide +kernel
theorem dX6_value_34 : decode cX6_value 34 = .ok (.aload_n 0, 1) := by decide +kernel
theorem dX6_value_35 : decode cX6_value 35 = .ok (.iload 5, 2) := by decide +kernel
theorem dX6_value_37 : decode cX6_value 37 = .ok (.aload_n 2, 1) := by decide +kernel
theorem dX6_value_38 : decode cX6_value 38 = .ok (.iload_n 3, 1) := by decide +kernel
theorem dX6_value_39 : decode cX6_value 39 = .ok (.iload 4, 2) := by decide +kernel
theorem dX6_value_41 : decode cX6_value 41 = .ok (.invokevirtual 57, 3) := by decide +kernel
theorem dX6_value_44 : decode cX6_value 44 = .ok (.lstore 6, 2) := by decide +kernel
theorem dX6_value_46 : decode cX6_value 46 = .ok (.lload 6, 2) := by decide +kernel
theorem dX6_value_48 : decode cX6_value 48 = .ok (.ldc2_w 60, 3) := by decide +kernel
theorem dX6_value_51 : decode cX6_value 51 = .ok (.lcmp, 1) := by decide +kernel
theorem dX6_value_52 : decode cX6_value 52 = .ok (.ifCond .gt 12, 3) := by decide +kernel
theorem dX6_value_55 : decode cX6_value 55 = .ok (.lload 6, 2) := by decide +kernel
theorem dX6_value_57 : decode cX6_value 57 = .ok (.ldc2_w 62, 3) := by decide +kernel
theorem dX6_value_60 : decode cX6_value 60 = .ok (.lcmp, 1) := by decide +kernel
theorem dX6_value_61 : decode cX6_value 61 = .ok (.ifCond .ge 7, 3) := by decide +kernel
theorem dX6_value_64 : decode cX6_value 64 = .ok (.ldc2_w 52, 3) := by decide +kernel
theorem dX6_value_67 : decode cX6_value 67 = .ok (.lreturn, 1) := by decide +kernel
theorem dX6_value_68 : decode cX6_value 68 = .ok (.aload_n 0, 1) := by decide +kernel
theorem dX6_value_69 : decode cX6_value 69 = .ok (.lload 6, 2) := by decide +kernel
theorem dX6_value_71 : decode cX6_value 71 = .ok (.invokevirtual 64, 3) := by decide +kernel
theorem dX6_value_74 : decode cX6_value 74 = .ok (.iinc 5 1, 3) := by decide +kernel
theorem dX6_value_77 : decode cX6_value 77 = .ok (.goto (-54), 3) := by decide +kernel
theorem dX6_value_80 : decode cX6_value 80 = .ok (.aload_n 0, 1) := by decide +kernel
theorem dX6_value_81 : decode cX6_value 81 = .ok (.getfield 54, 3) := by decide +kernel
theorem dX6_value_84 : decode cX6_value 84 = .ok (.ifCond .le 17, 3) := by decide +kernel
theorem dX6_value_87 : decode cX6_value 87 = .ok (.aload_n 0, 1) := by decide +kernel
theorem dX6_value_88 : decode cX6_value 88 = .ok (.getfield 27, 3) := by decide +kernel
theorem dX6_value_91 : decode cX6_value 91 = .ok (.aload_n 0, 1) := by decide +kernel
theorem dX6_value_92 : decode cX6_value 92 = .ok (.getfield 54, 3) := by decide +kernel
theorem dX6_value_95 : decode cX6_value 95 = .ok (.iconst 1, 1) := by decide +kernel
theorem dX6_value_96 : decode cX6_value 96 = .ok (.isub, 1) := by decide +kernel
theorem dX6_value_97 : decode cX6_value 97 = .ok (.laload, 1) := by decide +kernel
theorem dX6_value_98 : decode cX6_value 98 = .ok (.goto 6, 3) := by decide +kernel
theorem dX6_value_101 : decode cX6_value 101 = .ok (.ldc2_w 52, 3) := by decide +kernel
theorem dX6_value_104 : decode cX6_value 104 = .ok (.lreturn, 1) := by decide +kernel
theorem dX6_push_0 : decode cX6_push 0 = .ok (.aload_n 0, 1) := by decide +kernel
theorem dX6_push_1 : decode cX6_push 1 = .ok (.getfield 54, 3) := by decide +kernel
theorem dX6_push_4 : decode cX6_push 4 = .ok (.bipush 64, 2) := by decide +kernel
theorem dX6_push_6 : decode cX6_push 6 = .ok (.if_icmp .ge 23, 3) := by decide +kernel
theorem dX6_push_9 : decode cX6_push 9 = .ok (.aload_n 0, 1) := by decide +kernel
theorem dX6_push_10 : decode cX6_push 10 = .ok (.getfield 27, 3) := by decide +kernel
theorem dX6_push_13 : decode cX6_push 13 = .ok (.aload_n 0, 1) := by decide +kernel
theorem dX6_push_14 : decode cX6_push 14 = .ok (.getfield 54, 3) := by decide +kernel
theorem dX6_push_17 : decode cX6_push 17 = .ok (.lload_n 1, 1) := by decide +kernel
theorem dX6_push_18 : decode cX6_push 18 = .ok (.lastore, 1) := by decide +kernel
theorem dX6_push_19 : decode cX6_push 19 = .ok (.aload_n 0, 1) := by decide +kernel
theorem dX6_push_20 : decode cX6_push 20 = .ok (.dup, 1) := by decide +kernel
theorem dX6_push_21 : decode cX6_push 21 = .ok (.getfield 54, 3) := by decide +kernel
theorem dX6_push_24 : decode cX6_push 24 = .ok (.iconst 1, 1) := by decide +kernel
theorem dX6_push_25 : decode cX6_push 25 = .ok (.iadd, 1) := by decide +kernel
theorem dX6_push_26 : decode cX6_push 26 = .ok (.putfield 54, 3) := by decide +kernel
theorem dX6_push_29 : decode cX6_push 29 = .ok (.return_, 1) := by decide +kernel
theorem dX6_pop_0 : decode cX6_pop 0 = .ok (.aload_n 0, 1) := by decide +kernel
theorem dX6_pop_1 : decode cX6_pop 1 = .ok (.getfield 54, 3) := by decide +kernel
theorem dX6_pop_4 : decode cX6_pop 4 = .ok (.ifCond .gt 5, 3) := by decide +kernel
theorem dX6_pop_7 : decode cX6_pop 7 = .ok (.lconst 0, 1) := by decide +kernel
theorem dX6_pop_8 : decode cX6_pop 8 = .ok (.lreturn, 1) := by decide +kernel
theorem dX6_pop_9 : decode cX6_pop 9 = .ok (.aload_n 0, 1) := by decide +kernel
theorem dX6_pop_10 : decode cX6_pop 10 = .ok (.dup, 1) := by decide +kernel
theorem dX6_pop_11 : decode cX6_pop 11 = .ok (.getfield 54, 3) := by decide +kernel
theorem dX6_pop_14 : decode cX6_pop 14 = .ok (.iconst 1, 1) := by decide +kernel
theorem dX6_pop_15 : decode cX6_pop 15 = .ok (.isub, 1) := by decide +kernel
theorem dX6_pop_16 : decode cX6_pop 16 = .ok (.putfield 54, 3) := by decide +kernel
theorem dX6_pop_19 : decode cX6_pop 19 = .ok (.aload_n 0, 1) := by decide +kernel
theorem dX6_pop_20 : decode cX6_pop 20 = .ok (.getfield 27, 3) := by decide +kernel
theorem dX6_pop_23 : decode cX6_pop 23 = .ok (.aload_n 0, 1) := by decide +kernel
theorem dX6_pop_24 : decode cX6_pop 24 = .ok (.getfield 54, 3) := by decide +kernel
theorem dX6_pop_27 : decode cX6_pop 27 = .ok (.laload, 1) := by decide +kernel
theorem dX6_pop_28 : decode cX6_pop 28 = .ok (.lreturn, 1) := by decide +kernel
theorem dX6_knotValue_0 : decode cX6_knotValue 0 = .ok (.aload_n 0, 1) := by decide +kernel
theorem dX6_knotValue_1 : decode cX6_knotValue 1 = .ok (.getfield 11, 3) := by decide +kernel
theorem dX6_knotValue_4 : decode cX6_knotValue 4 = .ok (.iload_n 1, 1) := by decide +kernel
theorem dX6_knotValue_5 : decode cX6_knotValue 5 = .ok (.iaload, 1) := by decide +kernel
theorem dX6_knotValue_6 : decode cX6_knotValue 6 = .ok (.istore 5, 2) := by decide +kernel
theorem dX6_knotValue_8 : decode cX6_knotValue 8 = .ok (.iload 5, 2) := by decide +kernel
theorem dX6_knotValue_10 : decode cX6_knotValue 10 = .ok (.bipush 16, 2) := by decide +kernel
theorem dX6_knotValue_12 : decode cX6_knotValue 12 = .ok (.if_icmp .ne 11, 3) := by decide +kernel
theorem dX6_knotValue_15 : decode cX6_knotValue 15 = .ok (.aload_n 0, 1) := by decide +kernel
theorem dX6_knotValue_16 : decode cX6_knotValue 16 = .ok (.getfield 18, 3) := by decide +kernel
theorem dX6_knotValue_19 : decode cX6_knotValue 19 = .ok (.iload_n 1, 1) := by decide +kernel
theorem dX6_knotValue_20 : decode cX6_knotValue 20 = .ok (.iaload, 1) := by decide +kernel
theorem dX6_knotValue_21 : decode cX6_knotValue 21 = .ok (.i2l, 1) := by decide +kernel
theorem dX6_knotValue_22 : decode cX6_knotValue 22 = .ok (.lreturn, 1) := by decide +kernel
theorem dX6_knotValue_23 : decode cX6_knotValue 23 = .ok (.iload 5, 2) := by decide +kernel
theorem dX6_knotValue_25 : decode cX6_knotValue 25 = .ok (.iconst 5, 1) := by decide +kernel
theorem dX6_knotValue_26 : decode cX6_knotValue 26 = .ok (.if_icmp .lt 32, 3) := by decide +kernel
theorem dX6_knotValue_29 : decode cX6_knotValue 29 = .ok (.iload 5, 2) := by decide +kernel
theorem dX6_knotValue_31 : decode cX6_knotValue 31 = .ok (.bipush 11, 2) := by decide +kernel
theorem dX6_knotValue_33 : decode cX6_knotValue 33 = .ok (.if_icmp .gt 25, 3) := by decide +kernel
theorem dX6_knotValue_36 : decode cX6_knotValue 36 = .ok (.aload_n 2, 1) := by decide +kernel
theorem dX6_knotValue_37 : decode cX6_knotValue 37 = .ok (.iload 5, 2) := by decide +kernel
theorem dX6_knotValue_39 : decode cX6_knotValue 39 = .ok (.aload_n 0, 1) := by decide +kernel
theorem dX6_knotValue_40 : decode cX6_knotValue 40 = .ok (.getfield 15, 3) := by decide +kernel
theorem dX6_knotValue_43 : decode cX6_knotValue 43 = .ok (.iload_n 1, 1) := by decide +kernel
theorem dX6_knotValue_44 : decode cX6_knotValue 44 = .ok (.iaload, 1) := by decide +kernel
theorem dX6_knotValue_45 : decode cX6_knotValue 45 = .ok (.aload_n 0, 1) := by decide +kernel
theorem dX6_knotValue_46 : decode cX6_knotValue 46 = .ok (.getfield 18, 3) := by decide +kernel
theorem dX6_knotValue_49 : decode cX6_knotValue 49 = .ok (.iload_n 1, 1) := by decide +kernel
theorem dX6_knotValue_50 : decode cX6_knotValue 50 = .ok (.iaload, 1) := by decide +kernel
theorem dX6_knotValue_51 : decode cX6_knotValue 51 = .ok (.iload_n 3, 1) := by decide +kernel
theorem dX6_knotValue_52 : decode cX6_knotValue 52 = .ok (.iload 4, 2) := by decide +kernel
theorem dX6_knotValue_54 : decode cX6_knotValue 54 = .ok (.invokevirtual 70, 3) := by decide +kernel
theorem dX6_knotValue_57 : decode cX6_knotValue 57 = .ok (.lreturn, 1) := by decide +kernel
theorem dX6_knotValue_58 : decode cX6_knotValue 58 = .ok (.aload_n 0, 1) := by decide +kernel
theorem dX6_knotValue_59 : decode cX6_knotValue 59 = .ok (.invokevirtual 76, 3) := by decide +kernel
theorem dX6_knotValue_62 : decode cX6_knotValue 62 = .ok (.lstore 6, 2) := by decide +kernel
theorem dX6_knotValue_64 : decode cX6_knotValue 64 = .ok (.iload 5, 2) := by decide +kernel
theorem dX6_knotValue_66 : decode cX6_knotValue 66 = .ok (.iconst 4, 1) := by decide +kernel
theorem dX6_knotValue_67 : decode cX6_knotValue 67 = .ok (.if_icmp .ne 19, 3) := by decide +kernel
theorem dX6_knotValue_70 : decode cX6_knotValue 70 = .ok (.lload 6, 2) := by decide +kernel
theorem dX6_knotValue_72 : decode cX6_knotValue 72 = .ok (.lconst 0, 1) := by decide +kernel
theorem dX6_knotValue_73 : decode cX6_knotValue 73 = .ok (.lcmp, 1) := by decide +kernel
theorem dX6_knotValue_74 : decode cX6_knotValue 74 = .ok (.ifCond .ne 7, 3) := by decide +kernel
theorem dX6_knotValue_77 : decode cX6_knotValue 77 = .ok (.iconst 1, 1) := by decide +kernel
theorem dX6_knotValue_78 : decode cX6_knotValue 78 = .ok (.goto 4, 3) := by decide +kernel
theorem dX6_knotValue_81 : decode cX6_knotValue 81 = .ok (.iconst 0, 1) := by decide +kernel
theorem dX6_knotValue_82 : decode cX6_knotValue 82 = .ok (.invokestatic 80, 3) := by decide +kernel
theorem dX6_knotValue_85 : decode cX6_knotValue 85 = .ok (.lreturn, 1) := by decide +kernel
theorem dX6_knotValue_86 : decode cX6_knotValue 86 = .ok (.iload 5, 2) := by decide +kernel
theorem dX6_knotValue_88 : decode cX6_knotValue 88 = .ok (.bipush 31, 2) := by decide +kernel
theorem dX6_knotValue_90 : decode cX6_knotValue 90 = .ok (.if_icmp .ne 7, 3) := by decide +kernel
theorem dX6_knotValue_93 : decode cX6_knotValue 93 = .ok (.lload 6, 2) := by decide +kernel
theorem dX6_knotValue_95 : decode cX6_knotValue 95 = .ok (.lneg, 1) := by decide +kernel
theorem dX6_knotValue_96 : decode cX6_knotValue 96 = .ok (.lreturn, 1) := by decide +kernel
theorem dX6_knotValue_97 : decode cX6_knotValue 97 = .ok (.iload 5, 2) := by decide +kernel
theorem dX6_knotValue_99 : decode cX6_knotValue 99 = .ok (.aload_n 0, 1) := by decide +kernel
theorem dX6_knotValue_100 : decode cX6_knotValue 100 = .ok (.invokevirtual 76, 3) := by decide +kernel
theorem dX6_knotValue_103 : decode cX6_knotValue 103 = .ok (.lload 6, 2) := by decide +kernel
theorem dX6_knotValue_105 : decode cX6_knotValue 105 = .ok (.invokestatic 84, 3) := by decide +kernel
theorem dX6_knotValue_108 : decode cX6_knotValue 108 = .ok (.lreturn, 1) := by decide +kernel
theorem dX6_join_0 : decode cX6_join 0 = .ok (.iload_n 0, 1) := by decide +kernel
theorem dX6_join_1 : decode cX6_join 1 = .ok (.tableswitch 293 2 30 #[131, 152, 293, 293, 293, 293, 293, 293, 293, 293, 293, 293, 293, 293, 293, 293, 293, 293, 293, 263, 267, 271, 277, 173, 188, 203, 218, 233, 248], 131) := by decide +kernel
theorem dX6_join_132 : decode cX6_join 132 = .ok (.lload_n 1, 1) := by decide +kernel
theorem dX6_join_133 : decode cX6_join 133 = .ok (.lconst 0, 1) := by decide +kernel
theorem dX6_join_134 : decode cX6_join 134 = .ok (.lcmp, 1) := by decide +kernel
theorem dX6_join_135 : decode cX6_join 135 = .ok (.ifCond .ne 9, 3) := by decide +kernel
theorem dX6_join_138 : decode cX6_join 138 = .ok (.lload_n 3, 1) := by decide +kernel
theorem dX6_join_139 : decode cX6_join 139 = .ok (.lconst 0, 1) := by decide +kernel
theorem dX6_join_140 : decode cX6_join 140 = .ok (.lcmp, 1) := by decide +kernel
theorem dX6_join_141 : decode cX6_join 141 = .ok (.ifCond .eq 7, 3) := by decide +kernel
theorem dX6_join_144 : decode cX6_join 144 = .ok (.iconst 1, 1) := by decide +kernel
theorem dX6_join_145 : decode cX6_join 145 = .ok (.goto 4, 3) := by decide +kernel
theorem dX6_join_148 : decode cX6_join 148 = .ok (.iconst 0, 1) := by decide +kernel
theorem dX6_join_149 : decode cX6_join 149 = .ok (.invokestatic 80, 3) := by decide +kernel
theorem dX6_join_152 : decode cX6_join 152 = .ok (.lreturn, 1) := by decide +kernel
theorem dX6_join_153 : decode cX6_join 153 = .ok (.lload_n 1, 1) := by decide +kernel
theorem dX6_join_154 : decode cX6_join 154 = .ok (.lconst 0, 1) := by decide +kernel
theorem dX6_join_155 : decode cX6_join 155 = .ok (.lcmp, 1) := by decide +kernel
theorem dX6_join_156 : decode cX6_join 156 = .ok (.ifCond .eq 13, 3) := by decide +kernel
theorem dX6_join_159 : decode cX6_join 159 = .ok (.lload_n 3, 1) := by decide +kernel
theorem dX6_join_160 : decode cX6_join 160 = .ok (.lconst 0, 1) := by decide +kernel
theorem dX6_join_161 : decode cX6_join 161 = .ok (.lcmp, 1) := by decide +kernel
theorem dX6_join_162 : decode cX6_join 162 = .ok (.ifCond .eq 7, 3) := by decide +kernel
theorem dX6_join_165 : decode cX6_join 165 = .ok (.iconst 1, 1) := by decide +kernel
theorem dX6_join_166 : decode cX6_join 166 = .ok (.goto 4, 3) := by decide +kernel
theorem dX6_join_169 : decode cX6_join 169 = .ok (.iconst 0, 1) := by decide +kernel
theorem dX6_join_170 : decode cX6_join 170 = .ok (.invokestatic 80, 3) := by decide +kernel
theorem dX6_join_173 : decode cX6_join 173 = .ok (.lreturn, 1) := by decide +kernel
theorem dX6_join_174 : decode cX6_join 174 = .ok (.lload_n 1, 1) := by decide +kernel
theorem dX6_join_175 : decode cX6_join 175 = .ok (.lload_n 3, 1) := by decide +kernel
theorem dX6_join_176 : decode cX6_join 176 = .ok (.lcmp, 1) := by decide +kernel
theorem dX6_join_177 : decode cX6_join 177 = .ok (.ifCond .ge 7, 3) := by decide +kernel
theorem dX6_join_180 : decode cX6_join 180 = .ok (.iconst 1, 1) := by decide +kernel
theorem dX6_join_181 : decode cX6_join 181 = .ok (.goto 4, 3) := by decide +kernel
theorem dX6_join_184 : decode cX6_join 184 = .ok (.iconst 0, 1) := by decide +kernel
theorem dX6_join_185 : decode cX6_join 185 = .ok (.invokestatic 80, 3) := by decide +kernel
theorem dX6_join_188 : decode cX6_join 188 = .ok (.lreturn, 1) := by decide +kernel
theorem dX6_join_189 : decode cX6_join 189 = .ok (.lload_n 1, 1) := by decide +kernel
theorem dX6_join_190 : decode cX6_join 190 = .ok (.lload_n 3, 1) := by decide +kernel
theorem dX6_join_191 : decode cX6_join 191 = .ok (.lcmp, 1) := by decide +kernel
theorem dX6_join_192 : decode cX6_join 192 = .ok (.ifCond .gt 7, 3) := by decide +kernel
theorem dX6_join_195 : decode cX6_join 195 = .ok (.iconst 1, 1) := by decide +kernel
theorem dX6_join_196 : decode cX6_join 196 = .ok (.goto 4, 3) := by decide +kernel
theorem dX6_join_199 : decode cX6_join 199 = .ok (.iconst 0, 1) := by decide +kernel
theorem dX6_join_200 : decode cX6_join 200 = .ok (.invokestatic 80, 3) := by decide +kernel
theorem dX6_join_203 : decode cX6_join 203 = .ok (.lreturn, 1) := by decide +kernel
theorem dX6_join_204 : decode cX6_join 204 = .ok (.lload_n 1, 1) := by decide +kernel
theorem dX6_join_205 : decode cX6_join 205 = .ok (.lload_n 3, 1) := by decide +kernel
theorem dX6_join_206 : decode cX6_join 206 = .ok (.lcmp, 1) := by decide +kernel
theorem dX6_join_207 : decode cX6_join 207 = .ok (.ifCond .ne 7, 3) := by decide +kernel
theorem dX6_join_210 : decode cX6_join 210 = .ok (.iconst 1, 1) := by decide +kernel
theorem dX6_join_211 : decode cX6_join 211 = .ok (.goto 4, 3) := by decide +kernel
theorem dX6_join_214 : decode cX6_join 214 = .ok (.iconst 0, 1) := by decide +kernel
theorem dX6_join_215 : decode cX6_join 215 = .ok (.invokestatic 80, 3) := by decide +kernel
theorem dX6_join_218 : decode cX6_join 218 = .ok (.lreturn, 1) := by decide +kernel
theorem dX6_join_219 : decode cX6_join 219 = .ok (.lload_n 1, 1) := by decide +kernel
theorem dX6_join_220 : decode cX6_join 220 = .ok (.lload_n 3, 1) := by decide +kernel
theorem dX6_join_221 : decode cX6_join 221 = .ok (.lcmp, 1) := by decide +kernel
theorem dX6_join_222 : decode cX6_join 222 = .ok (.ifCond .eq 7, 3) := by decide +kernel
theorem dX6_join_225 : decode cX6_join 225 = .ok (.iconst 1, 1) := by decide +kernel
theorem dX6_join_226 : decode cX6_join 226 = .ok (.goto 4, 3) := by decide +kernel
theorem dX6_join_229 : decode cX6_join 229 = .ok (.iconst 0, 1) := by decide +kernel
theorem dX6_join_230 : decode cX6_join 230 = .ok (.invokestatic 80, 3) := by decide +kernel
theorem dX6_join_233 : decode cX6_join 233 = .ok (.lreturn, 1) := by decide +kernel
theorem dX6_join_234 : decode cX6_join 234 = .ok (.lload_n 1, 1) := by decide +kernel
theorem dX6_join_235 : decode cX6_join 235 = .ok (.lload_n 3, 1) := by decide +kernel
theorem dX6_join_236 : decode cX6_join 236 = .ok (.lcmp, 1) := by decide +kernel
theorem dX6_join_237 : decode cX6_join 237 = .ok (.ifCond .lt 7, 3) := by decide +kernel
theorem dX6_join_240 : decode cX6_join 240 = .ok (.iconst 1, 1) := by decide +kernel
theorem dX6_join_241 : decode cX6_join 241 = .ok (.goto 4, 3) := by decide +kernel
theorem dX6_join_244 : decode cX6_join 244 = .ok (.iconst 0, 1) := by decide +kernel
theorem dX6_join_245 : decode cX6_join 245 = .ok (.invokestatic 80, 3) := by decide +kernel
theorem dX6_join_248 : decode cX6_join 248 = .ok (.lreturn, 1) := by decide +kernel
theorem dX6_join_249 : decode cX6_join 249 = .ok (.lload_n 1, 1) := by decide +kernel
theorem dX6_join_250 : decode cX6_join 250 = .ok (.lload_n 3, 1) := by decide +kernel
theorem dX6_join_251 : decode cX6_join 251 = .ok (.lcmp, 1) := by decide +kernel
theorem dX6_join_252 : decode cX6_join 252 = .ok (.ifCond .le 7, 3) := by decide +kernel
theorem dX6_join_255 : decode cX6_join 255 = .ok (.iconst 1, 1) := by decide +kernel
theorem dX6_join_256 : decode cX6_join 256 = .ok (.goto 4, 3) := by decide +kernel
theorem dX6_join_259 : decode cX6_join 259 = .ok (.iconst 0, 1) := by decide +kernel
theorem dX6_join_260 : decode cX6_join 260 = .ok (.invokestatic 80, 3) := by decide +kernel
theorem dX6_join_263 : decode cX6_join 263 = .ok (.lreturn, 1) := by decide +kernel
theorem dX6_join_264 : decode cX6_join 264 = .ok (.lload_n 1, 1) := by decide +kernel
theorem dX6_join_265 : decode cX6_join 265 = .ok (.lload_n 3, 1) := by decide +kernel
theorem dX6_join_266 : decode cX6_join 266 = .ok (.ladd, 1) := by decide +kernel
theorem dX6_join_267 : decode cX6_join 267 = .ok (.lreturn, 1) := by decide +kernel
theorem dX6_join_268 : decode cX6_join 268 = .ok (.lload_n 1, 1) := by decide +kernel
theorem dX6_join_269 : decode cX6_join 269 = .ok (.lload_n 3, 1) := by decide +kernel
theorem dX6_join_270 : decode cX6_join 270 = .ok (.lsub, 1) := by decide +kernel
theorem dX6_join_271 : decode cX6_join 271 = .ok (.lreturn, 1) := by decide +kernel
theorem dX6_join_272 : decode cX6_join 272 = .ok (.lload_n 1, 1) := by decide +kernel
theorem dX6_join_273 : decode cX6_join 273 = .ok (.lload_n 3, 1) := by decide +kernel
theorem dX6_join_274 : decode cX6_join 274 = .ok (.invokestatic 88, 3) := by decide +kernel
theorem dX6_join_277 : decode cX6_join 277 = .ok (.lreturn, 1) := by decide +kernel
theorem dX6_join_278 : decode cX6_join 278 = .ok (.lload_n 3, 1) := by decide +kernel
theorem dX6_join_279 : decode cX6_join 279 = .ok (.lconst 0, 1) := by decide +kernel
theorem dX6_join_280 : decode cX6_join 280 = .ok (.lcmp, 1) := by decide +kernel
theorem dX6_join_281 : decode cX6_join 281 = .ok (.ifCond .ne 9, 3) := by decide +kernel
theorem dX6_join_284 : decode cX6_join 284 = .ok (.ldc2_w 52, 3) := by decide +kernel
theorem dX6_join_287 : decode cX6_join 287 = .ok (.goto 6, 3) := by decide +kernel
theorem dX6_join_290 : decode cX6_join 290 = .ok (.lload_n 1, 1) := by decide +kernel
theorem dX6_join_291 : decode cX6_join 291 = .ok (.lload_n 3, 1) := by decide +kernel
theorem dX6_join_292 : decode cX6_join 292 = .ok (.ldiv, 1) := by decide +kernel
theorem dX6_join_293 : decode cX6_join 293 = .ok (.lreturn, 1) := by decide +kernel
theorem dX6_join_294 : decode cX6_join 294 = .ok (.ldc2_w 52, 3) := by decide +kernel
theorem dX6_join_297 : decode cX6_join 297 = .ok (.lreturn, 1) := by decide +kernel
theorem dX6_asNumber_0 : decode cX6_asNumber 0 = .ok (.iload_n 0, 1) := by decide +kernel
theorem dX6_asNumber_1 : decode cX6_asNumber 1 = .ok (.ifCond .eq 7, 3) := by decide +kernel
theorem dX6_asNumber_4 : decode cX6_asNumber 4 = .ok (.lconst 1, 1) := by decide +kernel
theorem dX6_asNumber_5 : decode cX6_asNumber 5 = .ok (.goto 4, 3) := by decide +kernel
theorem dX6_asNumber_8 : decode cX6_asNumber 8 = .ok (.lconst 0, 1) := by decide +kernel
theorem dX6_asNumber_9 : decode cX6_asNumber 9 = .ok (.lreturn, 1) := by decide +kernel
theorem dX6_product_0 : decode cX6_product 0 = .ok (.lload_n 0, 1) := by decide +kernel
theorem dX6_product_1 : decode cX6_product 1 = .ok (.lconst 0, 1) := by decide +kernel
theorem dX6_product_2 : decode cX6_product 2 = .ok (.lcmp, 1) := by decide +kernel
theorem dX6_product_3 : decode cX6_product 3 = .ok (.ifCond .ge 8, 3) := by decide +kernel
theorem dX6_product_6 : decode cX6_product 6 = .ok (.lload_n 0, 1) := by decide +kernel
theorem dX6_product_7 : decode cX6_product 7 = .ok (.lneg, 1) := by decide +kernel
theorem dX6_product_8 : decode cX6_product 8 = .ok (.goto 4, 3) := by decide +kernel
theorem dX6_product_11 : decode cX6_product 11 = .ok (.lload_n 0, 1) := by decide +kernel
theorem dX6_product_12 : decode cX6_product 12 = .ok (.lstore 4, 2) := by decide +kernel
theorem dX6_product_14 : decode cX6_product 14 = .ok (.lload_n 2, 1) := by decide +kernel
theorem dX6_product_15 : decode cX6_product 15 = .ok (.lconst 0, 1) := by decide +kernel
theorem dX6_product_16 : decode cX6_product 16 = .ok (.lcmp, 1) := by decide +kernel
theorem dX6_product_17 : decode cX6_product 17 = .ok (.ifCond .ge 8, 3) := by decide +kernel
theorem dX6_product_20 : decode cX6_product 20 = .ok (.lload_n 2, 1) := by decide +kernel
theorem dX6_product_21 : decode cX6_product 21 = .ok (.lneg, 1) := by decide +kernel
theorem dX6_product_22 : decode cX6_product 22 = .ok (.goto 4, 3) := by decide +kernel
theorem dX6_product_25 : decode cX6_product 25 = .ok (.lload_n 2, 1) := by decide +kernel
theorem dX6_product_26 : decode cX6_product 26 = .ok (.lstore 6, 2) := by decide +kernel
theorem dX6_product_28 : decode cX6_product 28 = .ok (.lload 4, 2) := by decide +kernel
theorem dX6_product_30 : decode cX6_product 30 = .ok (.lconst 0, 1) := by decide +kernel
theorem dX6_product_31 : decode cX6_product 31 = .ok (.lcmp, 1) := by decide +kernel
theorem dX6_product_32 : decode cX6_product 32 = .ok (.ifCond .eq 19, 3) := by decide +kernel
theorem dX6_product_35 : decode cX6_product 35 = .ok (.lload 6, 2) := by decide +kernel
theorem dX6_product_37 : decode cX6_product 37 = .ok (.ldc2_w 60, 3) := by decide +kernel
theorem dX6_product_40 : decode cX6_product 40 = .ok (.lload 4, 2) := by decide +kernel
theorem dX6_product_42 : decode cX6_product 42 = .ok (.ldiv, 1) := by decide +kernel
theorem dX6_product_43 : decode cX6_product 43 = .ok (.lcmp, 1) := by decide +kernel
theorem dX6_product_44 : decode cX6_product 44 = .ok (.ifCond .le 7, 3) := by decide +kernel
theorem dX6_product_47 : decode cX6_product 47 = .ok (.ldc2_w 52, 3) := by decide +kernel
theorem dX6_product_50 : decode cX6_product 50 = .ok (.lreturn, 1) := by decide +kernel
theorem dX6_product_51 : decode cX6_product 51 = .ok (.lload_n 0, 1) := by decide +kernel
theorem dX6_product_52 : decode cX6_product 52 = .ok (.lload_n 2, 1) := by decide +kernel
theorem dX6_product_53 : decode cX6_product 53 = .ok (.lmul, 1) := by decide +kernel
theorem dX6_product_54 : decode cX6_product 54 = .ok (.lreturn, 1) := by decide +kernel
theorem dX7_readBook_0 : decode cX7_readBook 0 = .ok (.aload_n 0, 1) := by decide +kernel
theorem dX7_readBook_1 : decode cX7_readBook 1 = .ok (.getfield 12, 3) := by decide +kernel
theorem dX7_readBook_4 : decode cX7_readBook 4 = .ok (.iload_n 1, 1) := by decide +kernel
theorem dX7_readBook_5 : decode cX7_readBook 5 = .ok (.invokevirtual 32, 3) := by decide +kernel
theorem dX7_readBook_8 : decode cX7_readBook 8 = .ok (.aload_n 2, 1) := by decide +kernel
theorem dX7_readBook_9 : decode cX7_readBook 9 = .ok (.invokevirtual 36, 3) := by decide +kernel
theorem dX7_readBook_12 : decode cX7_readBook 12 = .ok (.aload_n 0, 1) := by decide +kernel
theorem dX7_readBook_13 : decode cX7_readBook 13 = .ok (.iconst 0, 1) := by decide +kernel
theorem dX7_readBook_14 : decode cX7_readBook 14 = .ok (.putfield 39, 3) := by decide +kernel
theorem dX7_readBook_17 : decode cX7_readBook 17 = .ok (.aload_n 0, 1) := by decide +kernel
theorem dX7_readBook_18 : decode cX7_readBook 18 = .ok (.iconst (-1), 1) := by decide +kernel
theorem dX7_readBook_19 : decode cX7_readBook 19 = .ok (.putfield 18, 3) := by decide +kernel
theorem dX7_readBook_22 : decode cX7_readBook 22 = .ok (.aload_n 0, 1) := by decide +kernel
theorem dX7_readBook_23 : decode cX7_readBook 23 = .ok (.iconst 0, 1) := by decide +kernel
theorem dX7_readBook_24 : decode cX7_readBook 24 = .ok (.putfield 42, 3) := by decide +kernel
theorem dX7_readBook_27 : decode cX7_readBook 27 = .ok (.aload_n 0, 1) := by decide +kernel
theorem dX7_readBook_28 : decode cX7_readBook 28 = .ok (.iconst 0, 1) := by decide +kernel
theorem dX7_readBook_29 : decode cX7_readBook 29 = .ok (.putfield 45, 3) := by decide +kernel
theorem dX7_readBook_32 : decode cX7_readBook 32 = .ok (.iconst 0, 1) := by decide +kernel
theorem dX7_readBook_33 : decode cX7_readBook 33 = .ok (.istore_n 3, 1) := by decide +kernel
theorem dX7_readBook_34 : decode cX7_readBook 34 = .ok (.iload_n 3, 1) := by decide +kernel
theorem dX7_readBook_35 : decode cX7_readBook 35 = .ok (.sipush 500, 3) := by decide +kernel
theorem dX7_readBook_38 : decode cX7_readBook 38 = .ok (.if_icmp .gt 69, 3) := by decide +kernel
theorem dX7_readBook_41 : decode cX7_readBook 41 = .ok (.aload_n 0, 1) := by decide +kernel
theorem dX7_readBook_42 : decode cX7_readBook 42 = .ok (.getfield 12, 3) := by decide +kernel
theorem dX7_readBook_45 : decode cX7_readBook 45 = .ok (.invokevirtual 48, 3) := by decide +kernel
theorem dX7_readBook_48 : decode cX7_readBook 48 = .ok (.aload_n 0, 1) := by decide +kernel
theorem dX7_readBook_49 : decode cX7_readBook 49 = .ok (.getfield 12, 3) := by decide +kernel
theorem dX7_readBook_52 : decode cX7_readBook 52 = .ok (.getfield 51, 3) := by decide +kernel
theorem dX7_readBook_55 : decode cX7_readBook 55 = .ok (.bipush 32, 2) := by decide +kernel
theorem dX7_readBook_57 : decode cX7_readBook 57 = .ok (.if_icmp .ne 15, 3) := by decide +kernel
theorem dX7_readBook_60 : decode cX7_readBook 60 = .ok (.aload_n 0, 1) := by decide +kernel
theorem dX7_readBook_61 : decode cX7_readBook 61 = .ok (.getfield 42, 3) := by decide +kernel
theorem dX7_readBook_64 : decode cX7_readBook 64 = .ok (.ifCond .ne 8, 3) := by decide +kernel
theorem dX7_readBook_67 : decode cX7_readBook 67 = .ok (.aload_n 0, 1) := by decide +kernel
theorem dX7_readBook_68 : decode cX7_readBook 68 = .ok (.getfield 45, 3) := by decide +kernel
theorem dX7_readBook_71 : decode cX7_readBook 71 = .ok (.ireturn, 1) := by decide +kernel
theorem dX7_readBook_72 : decode cX7_readBook 72 = .ok (.aload_n 0, 1) := by decide +kernel
theorem dX7_readBook_73 : decode cX7_readBook 73 = .ok (.aload_n 0, 1) := by decide +kernel
theorem dX7_readBook_74 : decode cX7_readBook 74 = .ok (.aload_n 2, 1) := by decide +kernel
theorem dX7_readBook_75 : decode cX7_readBook 75 = .ok (.invokevirtual 54, 3) := by decide +kernel
theorem dX7_readBook_78 : decode cX7_readBook 78 = .ok (.putfield 39, 3) := by decide +kernel
theorem dX7_readBook_81 : decode cX7_readBook 81 = .ok (.aload_n 0, 1) := by decide +kernel
theorem dX7_readBook_82 : decode cX7_readBook 82 = .ok (.getfield 39, 3) := by decide +kernel
theorem dX7_readBook_85 : decode cX7_readBook 85 = .ok (.ifCond .eq 16, 3) := by decide +kernel
theorem dX7_readBook_88 : decode cX7_readBook 88 = .ok (.aload_n 0, 1) := by decide +kernel
theorem dX7_readBook_89 : decode cX7_readBook 89 = .ok (.aload_n 0, 1) := by decide +kernel
theorem dX7_readBook_90 : decode cX7_readBook 90 = .ok (.getfield 12, 3) := by decide +kernel
theorem dX7_readBook_93 : decode cX7_readBook 93 = .ok (.getfield 58, 3) := by decide +kernel
theorem dX7_readBook_96 : decode cX7_readBook 96 = .ok (.putfield 18, 3) := by decide +kernel
theorem dX7_readBook_99 : decode cX7_readBook 99 = .ok (.iconst (-1), 1) := by decide +kernel
theorem dX7_readBook_100 : decode cX7_readBook 100 = .ok (.ireturn, 1) := by decide +kernel
theorem dX7_readBook_101 : decode cX7_readBook 101 = .ok (.iinc 3 1, 3) := by decide +kernel
theorem dX7_readBook_104 : decode cX7_readBook 104 = .ok (.goto (-70), 3) := by decide +kernel
theorem dX7_readBook_107 : decode cX7_readBook 107 = .ok (.iconst (-1), 1) := by decide +kernel
theorem dX7_readBook_108 : decode cX7_readBook 108 = .ok (.ireturn, 1) := by decide +kernel
theorem dX7_take_0 : decode cX7_take 0 = .ok (.aload_n 0, 1) := by decide +kernel
theorem dX7_take_1 : decode cX7_take 1 = .ok (.getfield 42, 3) := by decide +kernel
theorem dX7_take_4 : decode cX7_take 4 = .ok (.tableswitch 74 0 5 #[40, 46, 52, 57, 62, 68], 40) := by decide +kernel
theorem dX7_take_44 : decode cX7_take 44 = .ok (.aload_n 0, 1) := by decide +kernel
theorem dX7_take_45 : decode cX7_take 45 = .ok (.aload_n 1, 1) := by decide +kernel
theorem dX7_take_46 : decode cX7_take 46 = .ok (.invokevirtual 61, 3) := by decide +kernel
theorem dX7_take_49 : decode cX7_take 49 = .ok (.ireturn, 1) := by decide +kernel
theorem dX7_take_50 : decode cX7_take 50 = .ok (.aload_n 0, 1) := by decide +kernel
theorem dX7_take_51 : decode cX7_take 51 = .ok (.aload_n 1, 1) := by decide +kernel
theorem dX7_take_52 : decode cX7_take 52 = .ok (.invokevirtual 64, 3) := by decide +kernel
theorem dX7_take_55 : decode cX7_take 55 = .ok (.ireturn, 1) := by decide +kernel
theorem dX7_take_56 : decode cX7_take 56 = .ok (.aload_n 0, 1) := by decide +kernel
theorem dX7_take_57 : decode cX7_take 57 = .ok (.invokevirtual 67, 3) := by decide +kernel
theorem dX7_take_60 : decode cX7_take 60 = .ok (.ireturn, 1) := by decide +kernel
theorem dX7_take_61 : decode cX7_take 61 = .ok (.aload_n 0, 1) := by decide +kernel
theorem dX7_take_62 : decode cX7_take 62 = .ok (.invokevirtual 71, 3) := by decide +kernel
theorem dX7_take_65 : decode cX7_take 65 = .ok (.ireturn, 1) := by decide +kernel
theorem dX7_take_66 : decode cX7_take 66 = .ok (.aload_n 0, 1) := by decide +kernel
theorem dX7_take_67 : decode cX7_take 67 = .ok (.aload_n 1, 1) := by decide +kernel
theorem dX7_take_68 : decode cX7_take 68 = .ok (.invokevirtual 74, 3) := by decide +kernel
theorem dX7_take_71 : decode cX7_take 71 = .ok (.ireturn, 1) := by decide +kernel
theorem dX7_take_72 : decode cX7_take 72 = .ok (.aload_n 0, 1) := by decide +kernel
theorem dX7_take_73 : decode cX7_take 73 = .ok (.aload_n 1, 1) := by decide +kernel
theorem dX7_take_74 : decode cX7_take 74 = .ok (.invokevirtual 77, 3) := by decide +kernel
theorem dX7_take_77 : decode cX7_take 77 = .ok (.ireturn, 1) := by decide +kernel
theorem dX7_take_78 : decode cX7_take 78 = .ok (.aload_n 0, 1) := by decide +kernel
theorem dX7_take_79 : decode cX7_take 79 = .ok (.aload_n 1, 1) := by decide +kernel
theorem dX7_take_80 : decode cX7_take 80 = .ok (.invokevirtual 80, 3) := by decide +kernel
theorem dX7_take_83 : decode cX7_take 83 = .ok (.ireturn, 1) := by decide +kernel
theorem dX7_takeLineWord_0 : decode cX7_takeLineWord 0 = .ok (.aload_n 0, 1) := by decide +kernel
theorem dX7_takeLineWord_1 : decode cX7_takeLineWord 1 = .ok (.getfield 12, 3) := by decide +kernel
theorem dX7_takeLineWord_4 : decode cX7_takeLineWord 4 = .ok (.getfield 51, 3) := by decide +kernel
theorem dX7_takeLineWord_7 : decode cX7_takeLineWord 7 = .ok (.ifCond .ne 21, 3) := by decide +kernel
theorem dX7_takeLineWord_10 : decode cX7_takeLineWord 10 = .ok (.aload_n 0, 1) := by decide +kernel
theorem dX7_takeLineWord_11 : decode cX7_takeLineWord 11 = .ok (.iconst 1, 1) := by decide +kernel
theorem dX7_takeLineWord_12 : decode cX7_takeLineWord 12 = .ok (.putfield 42, 3) := by decide +kernel
theorem dX7_takeLineWord_15 : decode cX7_takeLineWord 15 = .ok (.aload_n 1, 1) := by decide +kernel
theorem dX7_takeLineWord_16 : decode cX7_takeLineWord 16 = .ok (.getfield 83, 3) := by decide +kernel
theorem dX7_takeLineWord_19 : decode cX7_takeLineWord 19 = .ok (.ifCond .eq 7, 3) := by decide +kernel
theorem dX7_takeLineWord_22 : decode cX7_takeLineWord 22 = .ok (.iconst 3, 1) := by decide +kernel
theorem dX7_takeLineWord_23 : decode cX7_takeLineWord 23 = .ok (.goto 4, 3) := by decide +kernel
theorem dX7_takeLineWord_26 : decode cX7_takeLineWord 26 = .ok (.iconst 0, 1) := by decide +kernel
theorem dX7_takeLineWord_27 : decode cX7_takeLineWord 27 = .ok (.ireturn, 1) := by decide +kernel
theorem dX7_takeLineWord_28 : decode cX7_takeLineWord 28 = .ok (.aload_n 0, 1) := by decide +kernel
theorem dX7_takeLineWord_29 : decode cX7_takeLineWord 29 = .ok (.getfield 12, 3) := by decide +kernel
theorem dX7_takeLineWord_32 : decode cX7_takeLineWord 32 = .ok (.getfield 51, 3) := by decide +kernel
theorem dX7_takeLineWord_35 : decode cX7_takeLineWord 35 = .ok (.iconst 1, 1) := by decide +kernel
theorem dX7_takeLineWord_36 : decode cX7_takeLineWord 36 = .ok (.if_icmp .ne 23, 3) := by decide +kernel
theorem dX7_takeLineWord_39 : decode cX7_takeLineWord 39 = .ok (.aload_n 0, 1) := by decide +kernel
theorem dX7_takeLineWord_40 : decode cX7_takeLineWord 40 = .ok (.iconst 3, 1) := by decide +kernel
theorem dX7_takeLineWord_41 : decode cX7_takeLineWord 41 = .ok (.putfield 42, 3) := by decide +kernel
theorem dX7_takeLineWord_44 : decode cX7_takeLineWord 44 = .ok (.aload_n 1, 1) := by decide +kernel
theorem dX7_takeLineWord_45 : decode cX7_takeLineWord 45 = .ok (.getfield 87, 3) := by decide +kernel
theorem dX7_takeLineWord_48 : decode cX7_takeLineWord 48 = .ok (.bipush 12, 2) := by decide +kernel
theorem dX7_takeLineWord_50 : decode cX7_takeLineWord 50 = .ok (.if_icmp .lt 7, 3) := by decide +kernel
theorem dX7_takeLineWord_53 : decode cX7_takeLineWord 53 = .ok (.iconst 2, 1) := by decide +kernel
theorem dX7_takeLineWord_54 : decode cX7_takeLineWord 54 = .ok (.goto 4, 3) := by decide +kernel
theorem dX7_takeLineWord_57 : decode cX7_takeLineWord 57 = .ok (.iconst 0, 1) := by decide +kernel
theorem dX7_takeLineWord_58 : decode cX7_takeLineWord 58 = .ok (.ireturn, 1) := by decide +kernel
theorem dX7_takeLineWord_59 : decode cX7_takeLineWord 59 = .ok (.iconst 1, 1) := by decide +kernel
theorem dX7_takeLineWord_60 : decode cX7_takeLineWord 60 = .ok (.ireturn, 1) := by decide +kernel
theorem dX7_judgeNumber_0 : decode cX7_judgeNumber 0 = .ok (.aload_n 0, 1) := by decide +kernel
theorem dX7_judgeNumber_1 : decode cX7_judgeNumber 1 = .ok (.getfield 12, 3) := by decide +kernel
theorem dX7_judgeNumber_4 : decode cX7_judgeNumber 4 = .ok (.getfield 51, 3) := by decide +kernel
theorem dX7_judgeNumber_7 : decode cX7_judgeNumber 7 = .ok (.bipush 16, 2) := by decide +kernel
theorem dX7_judgeNumber_9 : decode cX7_judgeNumber 9 = .ok (.if_icmp .eq 5, 3) := by decide +kernel
theorem dX7_judgeNumber_12 : decode cX7_judgeNumber 12 = .ok (.iconst 1, 1) := by decide +kernel
theorem dX7_judgeNumber_13 : decode cX7_judgeNumber 13 = .ok (.ireturn, 1) := by decide +kernel
theorem dX7_judgeNumber_14 : decode cX7_judgeNumber 14 = .ok (.aload_n 0, 1) := by decide +kernel
theorem dX7_judgeNumber_15 : decode cX7_judgeNumber 15 = .ok (.getfield 12, 3) := by decide +kernel
theorem dX7_judgeNumber_18 : decode cX7_judgeNumber 18 = .ok (.getfield 90, 3) := by decide +kernel
theorem dX7_judgeNumber_21 : decode cX7_judgeNumber 21 = .ok (.iload_n 1, 1) := by decide +kernel
theorem dX7_judgeNumber_22 : decode cX7_judgeNumber 22 = .ok (.iload_n 2, 1) := by decide +kernel
theorem dX7_judgeNumber_23 : decode cX7_judgeNumber 23 = .ok (.invokestatic 93, 3) := by decide +kernel
theorem dX7_judgeNumber_26 : decode cX7_judgeNumber 26 = .ok (.ifCond .eq 7, 3) := by decide +kernel
theorem dX7_judgeNumber_29 : decode cX7_judgeNumber 29 = .ok (.iconst 0, 1) := by decide +kernel
theorem dX7_judgeNumber_30 : decode cX7_judgeNumber 30 = .ok (.goto 4, 3) := by decide +kernel
theorem dX7_judgeNumber_33 : decode cX7_judgeNumber 33 = .ok (.iconst 2, 1) := by decide +kernel
theorem dX7_judgeNumber_34 : decode cX7_judgeNumber 34 = .ok (.ireturn, 1) := by decide +kernel
theorem dX7_takeKeep_0 : decode cX7_takeKeep 0 = .ok (.aload_n 1, 1) := by decide +kernel
theorem dX7_takeKeep_1 : decode cX7_takeKeep 1 = .ok (.iconst 1, 1) := by decide +kernel
theorem dX7_takeKeep_2 : decode cX7_takeKeep 2 = .ok (.putfield 83, 3) := by decide +kernel
theorem dX7_takeKeep_5 : decode cX7_takeKeep 5 = .ok (.aload_n 1, 1) := by decide +kernel
theorem dX7_takeKeep_6 : decode cX7_takeKeep 6 = .ok (.aload_n 0, 1) := by decide +kernel
theorem dX7_takeKeep_7 : decode cX7_takeKeep 7 = .ok (.getfield 12, 3) := by decide +kernel
theorem dX7_takeKeep_10 : decode cX7_takeKeep 10 = .ok (.getfield 90, 3) := by decide +kernel
theorem dX7_takeKeep_13 : decode cX7_takeKeep 13 = .ok (.putfield 97, 3) := by decide +kernel
theorem dX7_takeKeep_16 : decode cX7_takeKeep 16 = .ok (.aload_n 0, 1) := by decide +kernel
theorem dX7_takeKeep_17 : decode cX7_takeKeep 17 = .ok (.iconst 2, 1) := by decide +kernel
theorem dX7_takeKeep_18 : decode cX7_takeKeep 18 = .ok (.putfield 42, 3) := by decide +kernel
theorem dX7_takeKeep_21 : decode cX7_takeKeep 21 = .ok (.aload_n 0, 1) := by decide +kernel
theorem dX7_takeKeep_22 : decode cX7_takeKeep 22 = .ok (.iconst 0, 1) := by decide +kernel
theorem dX7_takeKeep_23 : decode cX7_takeKeep 23 = .ok (.bipush 24, 2) := by decide +kernel
theorem dX7_takeKeep_25 : decode cX7_takeKeep 25 = .ok (.invokevirtual 100, 3) := by decide +kernel
theorem dX7_takeKeep_28 : decode cX7_takeKeep 28 = .ok (.ireturn, 1) := by decide +kernel
theorem dX7_takeKeepEnd_0 : decode cX7_takeKeepEnd 0 = .ok (.aload_n 0, 1) := by decide +kernel
theorem dX7_takeKeepEnd_1 : decode cX7_takeKeepEnd 1 = .ok (.dup, 1) := by decide +kernel
theorem dX7_takeKeepEnd_2 : decode cX7_takeKeepEnd 2 = .ok (.getfield 45, 3) := by decide +kernel
theorem dX7_takeKeepEnd_5 : decode cX7_takeKeepEnd 5 = .ok (.iconst 1, 1) := by decide +kernel
theorem dX7_takeKeepEnd_6 : decode cX7_takeKeepEnd 6 = .ok (.iadd, 1) := by decide +kernel
theorem dX7_takeKeepEnd_7 : decode cX7_takeKeepEnd 7 = .ok (.putfield 45, 3) := by decide +kernel
theorem dX7_takeKeepEnd_10 : decode cX7_takeKeepEnd 10 = .ok (.aload_n 0, 1) := by decide +kernel
theorem dX7_takeKeepEnd_11 : decode cX7_takeKeepEnd 11 = .ok (.iconst 0, 1) := by decide +kernel
theorem dX7_takeKeepEnd_12 : decode cX7_takeKeepEnd 12 = .ok (.putfield 42, 3) := by decide +kernel
theorem dX7_takeKeepEnd_15 : decode cX7_takeKeepEnd 15 = .ok (.aload_n 0, 1) := by decide +kernel
theorem dX7_takeKeepEnd_16 : decode cX7_takeKeepEnd 16 = .ok (.getfield 12, 3) := by decide +kernel
theorem dX7_takeKeepEnd_19 : decode cX7_takeKeepEnd 19 = .ok (.getfield 51, 3) := by decide +kernel
theorem dX7_takeKeepEnd_22 : decode cX7_takeKeepEnd 22 = .ok (.bipush 17, 2) := by decide +kernel
theorem dX7_takeKeepEnd_24 : decode cX7_takeKeepEnd 24 = .ok (.if_icmp .ne 7, 3) := by decide +kernel
theorem dX7_takeKeepEnd_27 : decode cX7_takeKeepEnd 27 = .ok (.iconst 0, 1) := by decide +kernel
theorem dX7_takeKeepEnd_28 : decode cX7_takeKeepEnd 28 = .ok (.goto 4, 3) := by decide +kernel
theorem dX7_takeKeepEnd_31 : decode cX7_takeKeepEnd 31 = .ok (.iconst 1, 1) := by decide +kernel
theorem dX7_takeKeepEnd_32 : decode cX7_takeKeepEnd 32 = .ok (.ireturn, 1) := by decide +kernel
theorem dX7_takeLevel_0 : decode cX7_takeLevel 0 = .ok (.aload_n 0, 1) := by decide +kernel
theorem dX7_takeLevel_1 : decode cX7_takeLevel 1 = .ok (.aload_n 0, 1) := by decide +kernel
theorem dX7_takeLevel_2 : decode cX7_takeLevel 2 = .ok (.getfield 12, 3) := by decide +kernel
theorem dX7_takeLevel_5 : decode cX7_takeLevel 5 = .ok (.getfield 90, 3) := by decide +kernel
theorem dX7_takeLevel_8 : decode cX7_takeLevel 8 = .ok (.putfield 104, 3) := by decide +kernel
theorem dX7_takeLevel_11 : decode cX7_takeLevel 11 = .ok (.aload_n 0, 1) := by decide +kernel
theorem dX7_takeLevel_12 : decode cX7_takeLevel 12 = .ok (.iconst 0, 1) := by decide +kernel
theorem dX7_takeLevel_13 : decode cX7_takeLevel 13 = .ok (.putfield 107, 3) := by decide +kernel
theorem dX7_takeLevel_16 : decode cX7_takeLevel 16 = .ok (.aload_n 0, 1) := by decide +kernel
theorem dX7_takeLevel_17 : decode cX7_takeLevel 17 = .ok (.iconst 0, 1) := by decide +kernel
theorem dX7_takeLevel_18 : decode cX7_takeLevel 18 = .ok (.putfield 110, 3) := by decide +kernel
theorem dX7_takeLevel_21 : decode cX7_takeLevel 21 = .ok (.aload_n 0, 1) := by decide +kernel
theorem dX7_takeLevel_22 : decode cX7_takeLevel 22 = .ok (.getfield 28, 3) := by decide +kernel
theorem dX7_takeLevel_25 : decode cX7_takeLevel 25 = .ok (.iconst 0, 1) := by decide +kernel
theorem dX7_takeLevel_26 : decode cX7_takeLevel 26 = .ok (.iconst 0, 1) := by decide +kernel
theorem dX7_takeLevel_27 : decode cX7_takeLevel 27 = .ok (.bastore, 1) := by decide +kernel
theorem dX7_takeLevel_28 : decode cX7_takeLevel 28 = .ok (.aload_n 0, 1) := by decide +kernel
theorem dX7_takeLevel_29 : decode cX7_takeLevel 29 = .ok (.iconst 1, 1) := by decide +kernel
theorem dX7_takeLevel_30 : decode cX7_takeLevel 30 = .ok (.putfield 113, 3) := by decide +kernel
theorem dX7_takeLevel_33 : decode cX7_takeLevel 33 = .ok (.aload_n 0, 1) := by decide +kernel
theorem dX7_takeLevel_34 : decode cX7_takeLevel 34 = .ok (.iconst 4, 1) := by decide +kernel
theorem dX7_takeLevel_35 : decode cX7_takeLevel 35 = .ok (.putfield 42, 3) := by decide +kernel
theorem dX7_takeLevel_38 : decode cX7_takeLevel 38 = .ok (.aload_n 0, 1) := by decide +kernel
theorem dX7_takeLevel_39 : decode cX7_takeLevel 39 = .ok (.iconst 1, 1) := by decide +kernel
theorem dX7_takeLevel_40 : decode cX7_takeLevel 40 = .ok (.iconst 4, 1) := by decide +kernel
theorem dX7_takeLevel_41 : decode cX7_takeLevel 41 = .ok (.invokevirtual 100, 3) := by decide +kernel
theorem dX7_takeLevel_44 : decode cX7_takeLevel 44 = .ok (.ireturn, 1) := by decide +kernel
theorem dX7_takeAheadOfOperand_0 : decode cX7_takeAheadOfOperand 0 = .ok (.aload_n 0, 1) := by decide +kernel
theorem dX7_takeAheadOfOperand_1 : decode cX7_takeAheadOfOperand 1 = .ok (.getfield 12, 3) := by decide +kernel
theorem dX7_takeAheadOfOperand_4 : decode cX7_takeAheadOfOperand 4 = .ok (.getfield 51, 3) := by decide +kernel
theorem dX7_takeAheadOfOperand_7 : decode cX7_takeAheadOfOperand 7 = .ok (.istore_n 2, 1) := by decide +kernel
theorem dX7_takeAheadOfOperand_8 : decode cX7_takeAheadOfOperand 8 = .ok (.iload_n 2, 1) := by decide +kernel
theorem dX7_takeAheadOfOperand_9 : decode cX7_takeAheadOfOperand 9 = .ok (.bipush 18, 2) := by decide +kernel
theorem dX7_takeAheadOfOperand_11 : decode cX7_takeAheadOfOperand 11 = .ok (.if_icmp .ne 8, 3) := by decide +kernel
theorem dX7_takeAheadOfOperand_14 : decode cX7_takeAheadOfOperand 14 = .ok (.aload_n 0, 1) := by decide +kernel
theorem dX7_takeAheadOfOperand_15 : decode cX7_takeAheadOfOperand 15 = .ok (.invokevirtual 116, 3) := by decide +kernel
theorem dX7_takeAheadOfOperand_18 : decode cX7_takeAheadOfOperand 18 = .ok (.ireturn, 1) := by decide +kernel
theorem dX7_takeAheadOfOperand_19 : decode cX7_takeAheadOfOperand 19 = .ok (.iload_n 2, 1) := by decide +kernel
theorem dX7_takeAheadOfOperand_20 : decode cX7_takeAheadOfOperand 20 = .ok (.bipush 16, 2) := by decide +kernel
theorem dX7_takeAheadOfOperand_22 : decode cX7_takeAheadOfOperand 22 = .ok (.if_icmp .ne 9, 3) := by decide +kernel
theorem dX7_takeAheadOfOperand_25 : decode cX7_takeAheadOfOperand 25 = .ok (.aload_n 0, 1) := by decide +kernel
theorem dX7_takeAheadOfOperand_26 : decode cX7_takeAheadOfOperand 26 = .ok (.aload_n 1, 1) := by decide +kernel
theorem dX7_takeAheadOfOperand_27 : decode cX7_takeAheadOfOperand 27 = .ok (.invokevirtual 119, 3) := by decide +kernel
theorem dX7_takeAheadOfOperand_30 : decode cX7_takeAheadOfOperand 30 = .ok (.ireturn, 1) := by decide +kernel
theorem dX7_takeAheadOfOperand_31 : decode cX7_takeAheadOfOperand 31 = .ok (.iload_n 2, 1) := by decide +kernel
theorem dX7_takeAheadOfOperand_32 : decode cX7_takeAheadOfOperand 32 = .ok (.iconst 5, 1) := by decide +kernel
theorem dX7_takeAheadOfOperand_33 : decode cX7_takeAheadOfOperand 33 = .ok (.if_icmp .lt 26, 3) := by decide +kernel
theorem dX7_takeAheadOfOperand_36 : decode cX7_takeAheadOfOperand 36 = .ok (.iload_n 2, 1) := by decide +kernel
theorem dX7_takeAheadOfOperand_37 : decode cX7_takeAheadOfOperand 37 = .ok (.bipush 11, 2) := by decide +kernel
theorem dX7_takeAheadOfOperand_39 : decode cX7_takeAheadOfOperand 39 = .ok (.if_icmp .gt 20, 3) := by decide +kernel
theorem dX7_takeAheadOfOperand_42 : decode cX7_takeAheadOfOperand 42 = .ok (.aload_n 0, 1) := by decide +kernel
theorem dX7_takeAheadOfOperand_43 : decode cX7_takeAheadOfOperand 43 = .ok (.iload_n 2, 1) := by decide +kernel
theorem dX7_takeAheadOfOperand_44 : decode cX7_takeAheadOfOperand 44 = .ok (.putfield 122, 3) := by decide +kernel
theorem dX7_takeAheadOfOperand_47 : decode cX7_takeAheadOfOperand 47 = .ok (.aload_n 0, 1) := by decide +kernel
theorem dX7_takeAheadOfOperand_48 : decode cX7_takeAheadOfOperand 48 = .ok (.bipush 6, 2) := by decide +kernel
theorem dX7_takeAheadOfOperand_50 : decode cX7_takeAheadOfOperand 50 = .ok (.putfield 42, 3) := by decide +kernel
theorem dX7_takeAheadOfOperand_53 : decode cX7_takeAheadOfOperand 53 = .ok (.aload_n 0, 1) := by decide +kernel
theorem dX7_takeAheadOfOperand_54 : decode cX7_takeAheadOfOperand 54 = .ok (.aload_n 1, 1) := by decide +kernel
theorem dX7_takeAheadOfOperand_55 : decode cX7_takeAheadOfOperand 55 = .ok (.invokevirtual 125, 3) := by decide +kernel
theorem dX7_takeAheadOfOperand_58 : decode cX7_takeAheadOfOperand 58 = .ok (.ireturn, 1) := by decide +kernel
theorem dX7_takeAheadOfOperand_59 : decode cX7_takeAheadOfOperand 59 = .ok (.iload_n 2, 1) := by decide +kernel
theorem dX7_takeAheadOfOperand_60 : decode cX7_takeAheadOfOperand 60 = .ok (.bipush 22, 2) := by decide +kernel
theorem dX7_takeAheadOfOperand_62 : decode cX7_takeAheadOfOperand 62 = .ok (.if_icmp .ne 20, 3) := by decide +kernel
theorem dX7_takeAheadOfOperand_65 : decode cX7_takeAheadOfOperand 65 = .ok (.aload_n 0, 1) := by decide +kernel
theorem dX7_takeAheadOfOperand_66 : decode cX7_takeAheadOfOperand 66 = .ok (.iconst 0, 1) := by decide +kernel
theorem dX7_takeAheadOfOperand_67 : decode cX7_takeAheadOfOperand 67 = .ok (.putfield 113, 3) := by decide +kernel
theorem dX7_takeAheadOfOperand_70 : decode cX7_takeAheadOfOperand 70 = .ok (.aload_n 0, 1) := by decide +kernel
theorem dX7_takeAheadOfOperand_71 : decode cX7_takeAheadOfOperand 71 = .ok (.bipush 31, 2) := by decide +kernel
theorem dX7_takeAheadOfOperand_73 : decode cX7_takeAheadOfOperand 73 = .ok (.invokevirtual 128, 3) := by decide +kernel
theorem dX7_takeAheadOfOperand_76 : decode cX7_takeAheadOfOperand 76 = .ok (.aload_n 0, 1) := by decide +kernel
theorem dX7_takeAheadOfOperand_77 : decode cX7_takeAheadOfOperand 77 = .ok (.aload_n 1, 1) := by decide +kernel
theorem dX7_takeAheadOfOperand_78 : decode cX7_takeAheadOfOperand 78 = .ok (.invokevirtual 125, 3) := by decide +kernel
theorem dX7_takeAheadOfOperand_81 : decode cX7_takeAheadOfOperand 81 = .ok (.ireturn, 1) := by decide +kernel
theorem dX7_takeAheadOfOperand_82 : decode cX7_takeAheadOfOperand 82 = .ok (.iload_n 2, 1) := by decide +kernel
theorem dX7_takeAheadOfOperand_83 : decode cX7_takeAheadOfOperand 83 = .ok (.iconst 4, 1) := by decide +kernel
theorem dX7_takeAheadOfOperand_84 : decode cX7_takeAheadOfOperand 84 = .ok (.if_icmp .ne 21, 3) := by decide +kernel
theorem dX7_takeAheadOfOperand_87 : decode cX7_takeAheadOfOperand 87 = .ok (.aload_n 0, 1) := by decide +kernel
theorem dX7_takeAheadOfOperand_88 : decode cX7_takeAheadOfOperand 88 = .ok (.getfield 113, 3) := by decide +kernel
theorem dX7_takeAheadOfOperand_91 : decode cX7_takeAheadOfOperand 91 = .ok (.ifCond .eq 14, 3) := by decide +kernel
theorem dX7_takeAheadOfOperand_94 : decode cX7_takeAheadOfOperand 94 = .ok (.aload_n 0, 1) := by decide +kernel
theorem dX7_takeAheadOfOperand_95 : decode cX7_takeAheadOfOperand 95 = .ok (.iconst 4, 1) := by decide +kernel
theorem dX7_takeAheadOfOperand_96 : decode cX7_takeAheadOfOperand 96 = .ok (.invokevirtual 128, 3) := by decide +kernel
theorem dX7_takeAheadOfOperand_99 : decode cX7_takeAheadOfOperand 99 = .ok (.aload_n 0, 1) := by decide +kernel
theorem dX7_takeAheadOfOperand_100 : decode cX7_takeAheadOfOperand 100 = .ok (.aload_n 1, 1) := by decide +kernel
theorem dX7_takeAheadOfOperand_101 : decode cX7_takeAheadOfOperand 101 = .ok (.invokevirtual 125, 3) := by decide +kernel
theorem dX7_takeAheadOfOperand_104 : decode cX7_takeAheadOfOperand 104 = .ok (.ireturn, 1) := by decide +kernel
theorem dX7_takeAheadOfOperand_105 : decode cX7_takeAheadOfOperand 105 = .ok (.iconst 1, 1) := by decide +kernel
theorem dX7_takeAheadOfOperand_106 : decode cX7_takeAheadOfOperand 106 = .ok (.ireturn, 1) := by decide +kernel
theorem dX7_takeOpen_0 : decode cX7_takeOpen 0 = .ok (.aload_n 0, 1) := by decide +kernel
theorem dX7_takeOpen_1 : decode cX7_takeOpen 1 = .ok (.getfield 110, 3) := by decide +kernel
theorem dX7_takeOpen_4 : decode cX7_takeOpen 4 = .ok (.bipush 8, 2) := by decide +kernel
theorem dX7_takeOpen_6 : decode cX7_takeOpen 6 = .ok (.if_icmp .lt 5, 3) := by decide +kernel
theorem dX7_takeOpen_9 : decode cX7_takeOpen 9 = .ok (.iconst 2, 1) := by decide +kernel
theorem dX7_takeOpen_10 : decode cX7_takeOpen 10 = .ok (.ireturn, 1) := by decide +kernel
theorem dX7_takeOpen_11 : decode cX7_takeOpen 11 = .ok (.aload_n 0, 1) := by decide +kernel
theorem dX7_takeOpen_12 : decode cX7_takeOpen 12 = .ok (.dup, 1) := by decide +kernel
theorem dX7_takeOpen_13 : decode cX7_takeOpen 13 = .ok (.getfield 110, 3) := by decide +kernel
theorem dX7_takeOpen_16 : decode cX7_takeOpen 16 = .ok (.iconst 1, 1) := by decide +kernel
theorem dX7_takeOpen_17 : decode cX7_takeOpen 17 = .ok (.iadd, 1) := by decide +kernel
theorem dX7_takeOpen_18 : decode cX7_takeOpen 18 = .ok (.putfield 110, 3) := by decide +kernel
theorem dX7_takeOpen_21 : decode cX7_takeOpen 21 = .ok (.aload_n 0, 1) := by decide +kernel
theorem dX7_takeOpen_22 : decode cX7_takeOpen 22 = .ok (.getfield 28, 3) := by decide +kernel
theorem dX7_takeOpen_25 : decode cX7_takeOpen 25 = .ok (.aload_n 0, 1) := by decide +kernel
theorem dX7_takeOpen_26 : decode cX7_takeOpen 26 = .ok (.getfield 110, 3) := by decide +kernel
theorem dX7_takeOpen_29 : decode cX7_takeOpen 29 = .ok (.iconst 0, 1) := by decide +kernel
theorem dX7_takeOpen_30 : decode cX7_takeOpen 30 = .ok (.bastore, 1) := by decide +kernel
theorem dX7_takeOpen_31 : decode cX7_takeOpen 31 = .ok (.aload_n 0, 1) := by decide +kernel
theorem dX7_takeOpen_32 : decode cX7_takeOpen 32 = .ok (.iconst 1, 1) := by decide +kernel
theorem dX7_takeOpen_33 : decode cX7_takeOpen 33 = .ok (.putfield 113, 3) := by decide +kernel
theorem dX7_takeOpen_36 : decode cX7_takeOpen 36 = .ok (.aload_n 0, 1) := by decide +kernel
theorem dX7_takeOpen_37 : decode cX7_takeOpen 37 = .ok (.bipush 18, 2) := by decide +kernel
theorem dX7_takeOpen_39 : decode cX7_takeOpen 39 = .ok (.invokevirtual 128, 3) := by decide +kernel
theorem dX7_takeOpen_42 : decode cX7_takeOpen 42 = .ok (.iconst 0, 1) := by decide +kernel
theorem dX7_takeOpen_43 : decode cX7_takeOpen 43 = .ok (.ireturn, 1) := by decide +kernel
theorem dX7_takePlainNumber_0 : decode cX7_takePlainNumber 0 = .ok (.aload_n 1, 1) := by decide +kernel
theorem dX7_takePlainNumber_1 : decode cX7_takePlainNumber 1 = .ok (.bipush 16, 2) := by decide +kernel
theorem dX7_takePlainNumber_3 : decode cX7_takePlainNumber 3 = .ok (.iconst 0, 1) := by decide +kernel
theorem dX7_takePlainNumber_4 : decode cX7_takePlainNumber 4 = .ok (.aload_n 0, 1) := by decide +kernel
theorem dX7_takePlainNumber_5 : decode cX7_takePlainNumber 5 = .ok (.getfield 12, 3) := by decide +kernel
theorem dX7_takePlainNumber_8 : decode cX7_takePlainNumber 8 = .ok (.getfield 90, 3) := by decide +kernel
theorem dX7_takePlainNumber_11 : decode cX7_takePlainNumber 11 = .ok (.invokevirtual 131, 3) := by decide +kernel
theorem dX7_takePlainNumber_14 : decode cX7_takePlainNumber 14 = .ok (.aload_n 0, 1) := by decide +kernel
theorem dX7_takePlainNumber_15 : decode cX7_takePlainNumber 15 = .ok (.iconst 5, 1) := by decide +kernel
theorem dX7_takePlainNumber_16 : decode cX7_takePlainNumber 16 = .ok (.putfield 42, 3) := by decide +kernel
theorem dX7_takePlainNumber_19 : decode cX7_takePlainNumber 19 = .ok (.aload_n 0, 1) := by decide +kernel
theorem dX7_takePlainNumber_20 : decode cX7_takePlainNumber 20 = .ok (.getfield 12, 3) := by decide +kernel
theorem dX7_takePlainNumber_23 : decode cX7_takePlainNumber 23 = .ok (.getfield 90, 3) := by decide +kernel
theorem dX7_takePlainNumber_26 : decode cX7_takePlainNumber 26 = .ok (.ldc 135, 2) := by decide +kernel
theorem dX7_takePlainNumber_28 : decode cX7_takePlainNumber 28 = .ok (.if_icmp .le 7, 3) := by decide +kernel
theorem dX7_takePlainNumber_31 : decode cX7_takePlainNumber 31 = .ok (.iconst 2, 1) := by decide +kernel
theorem dX7_takePlainNumber_32 : decode cX7_takePlainNumber 32 = .ok (.goto 8, 3) := by decide +kernel
theorem dX7_takePlainNumber_35 : decode cX7_takePlainNumber 35 = .ok (.aload_n 0, 1) := by decide +kernel
theorem dX7_takePlainNumber_36 : decode cX7_takePlainNumber 36 = .ok (.aload_n 1, 1) := by decide +kernel
theorem dX7_takePlainNumber_37 : decode cX7_takePlainNumber 37 = .ok (.invokevirtual 125, 3) := by decide +kernel
theorem dX7_takePlainNumber_40 : decode cX7_takePlainNumber 40 = .ok (.ireturn, 1) := by decide +kernel
theorem dX7_takeOfWindow_0 : decode cX7_takeOfWindow 0 = .ok (.aload_n 0, 1) := by decide +kernel
theorem dX7_takeOfWindow_1 : decode cX7_takeOfWindow 1 = .ok (.getfield 12, 3) := by decide +kernel
theorem dX7_takeOfWindow_4 : decode cX7_takeOfWindow 4 = .ok (.getfield 51, 3) := by decide +kernel
theorem dX7_takeOfWindow_7 : decode cX7_takeOfWindow 7 = .ok (.istore_n 2, 1) := by decide +kernel
theorem dX7_takeOfWindow_8 : decode cX7_takeOfWindow 8 = .ok (.aload_n 0, 1) := by decide +kernel
theorem dX7_takeOfWindow_9 : decode cX7_takeOfWindow 9 = .ok (.getfield 42, 3) := by decide +kernel
theorem dX7_takeOfWindow_12 : decode cX7_takeOfWindow 12 = .ok (.tableswitch 145 6 9 #[32, 63, 94, 112], 32) := by decide +kernel
theorem dX7_takeOfWindow_44 : decode cX7_takeOfWindow 44 = .ok (.aload_n 0, 1) := by decide +kernel
theorem dX7_takeOfWindow_45 : decode cX7_takeOfWindow 45 = .ok (.bipush 7, 2) := by decide +kernel
theorem dX7_takeOfWindow_47 : decode cX7_takeOfWindow 47 = .ok (.putfield 42, 3) := by decide +kernel
theorem dX7_takeOfWindow_50 : decode cX7_takeOfWindow 50 = .ok (.iload_n 2, 1) := by decide +kernel
theorem dX7_takeOfWindow_51 : decode cX7_takeOfWindow 51 = .ok (.bipush 18, 2) := by decide +kernel
theorem dX7_takeOfWindow_53 : decode cX7_takeOfWindow 53 = .ok (.if_icmp .eq 7, 3) := by decide +kernel
theorem dX7_takeOfWindow_56 : decode cX7_takeOfWindow 56 = .ok (.iconst 1, 1) := by decide +kernel
theorem dX7_takeOfWindow_57 : decode cX7_takeOfWindow 57 = .ok (.goto 17, 3) := by decide +kernel
theorem dX7_takeOfWindow_60 : decode cX7_takeOfWindow 60 = .ok (.aload_n 0, 1) := by decide +kernel
theorem dX7_takeOfWindow_61 : decode cX7_takeOfWindow 61 = .ok (.getfield 110, 3) := by decide +kernel
theorem dX7_takeOfWindow_64 : decode cX7_takeOfWindow 64 = .ok (.bipush 8, 2) := by decide +kernel
theorem dX7_takeOfWindow_66 : decode cX7_takeOfWindow 66 = .ok (.if_icmp .lt 7, 3) := by decide +kernel
theorem dX7_takeOfWindow_69 : decode cX7_takeOfWindow 69 = .ok (.iconst 2, 1) := by decide +kernel
theorem dX7_takeOfWindow_70 : decode cX7_takeOfWindow 70 = .ok (.goto 4, 3) := by decide +kernel
theorem dX7_takeOfWindow_73 : decode cX7_takeOfWindow 73 = .ok (.iconst 0, 1) := by decide +kernel
theorem dX7_takeOfWindow_74 : decode cX7_takeOfWindow 74 = .ok (.ireturn, 1) := by decide +kernel
theorem dX7_takeOfWindow_75 : decode cX7_takeOfWindow 75 = .ok (.aload_n 0, 1) := by decide +kernel
theorem dX7_takeOfWindow_76 : decode cX7_takeOfWindow 76 = .ok (.bipush 8, 2) := by decide +kernel
theorem dX7_takeOfWindow_78 : decode cX7_takeOfWindow 78 = .ok (.putfield 42, 3) := by decide +kernel
theorem dX7_takeOfWindow_81 : decode cX7_takeOfWindow 81 = .ok (.aload_n 0, 1) := by decide +kernel
theorem dX7_takeOfWindow_82 : decode cX7_takeOfWindow 82 = .ok (.iload_n 2, 1) := by decide +kernel
theorem dX7_takeOfWindow_83 : decode cX7_takeOfWindow 83 = .ok (.bipush 12, 2) := by decide +kernel
theorem dX7_takeOfWindow_85 : decode cX7_takeOfWindow 85 = .ok (.isub, 1) := by decide +kernel
theorem dX7_takeOfWindow_86 : decode cX7_takeOfWindow 86 = .ok (.putfield 136, 3) := by decide +kernel
theorem dX7_takeOfWindow_89 : decode cX7_takeOfWindow 89 = .ok (.iload_n 2, 1) := by decide +kernel
theorem dX7_takeOfWindow_90 : decode cX7_takeOfWindow 90 = .ok (.bipush 12, 2) := by decide +kernel
theorem dX7_takeOfWindow_92 : decode cX7_takeOfWindow 92 = .ok (.bipush 15, 2) := by decide +kernel
theorem dX7_takeOfWindow_94 : decode cX7_takeOfWindow 94 = .ok (.invokestatic 93, 3) := by decide +kernel
theorem dX7_takeOfWindow_97 : decode cX7_takeOfWindow 97 = .ok (.ifCond .eq 7, 3) := by decide +kernel
theorem dX7_takeOfWindow_100 : decode cX7_takeOfWindow 100 = .ok (.iconst 0, 1) := by decide +kernel
theorem dX7_takeOfWindow_101 : decode cX7_takeOfWindow 101 = .ok (.goto 4, 3) := by decide +kernel
theorem dX7_takeOfWindow_104 : decode cX7_takeOfWindow 104 = .ok (.iconst 1, 1) := by decide +kernel
theorem dX7_takeOfWindow_105 : decode cX7_takeOfWindow 105 = .ok (.ireturn, 1) := by decide +kernel
theorem dX7_takeOfWindow_106 : decode cX7_takeOfWindow 106 = .ok (.aload_n 0, 1) := by decide +kernel
theorem dX7_takeOfWindow_107 : decode cX7_takeOfWindow 107 = .ok (.bipush 9, 2) := by decide +kernel
theorem dX7_takeOfWindow_109 : decode cX7_takeOfWindow 109 = .ok (.putfield 42, 3) := by decide +kernel
theorem dX7_takeOfWindow_112 : decode cX7_takeOfWindow 112 = .ok (.iload_n 2, 1) := by decide +kernel
theorem dX7_takeOfWindow_113 : decode cX7_takeOfWindow 113 = .ok (.bipush 20, 2) := by decide +kernel
theorem dX7_takeOfWindow_115 : decode cX7_takeOfWindow 115 = .ok (.if_icmp .ne 7, 3) := by decide +kernel
theorem dX7_takeOfWindow_118 : decode cX7_takeOfWindow 118 = .ok (.iconst 0, 1) := by decide +kernel
theorem dX7_takeOfWindow_119 : decode cX7_takeOfWindow 119 = .ok (.goto 4, 3) := by decide +kernel
theorem dX7_takeOfWindow_122 : decode cX7_takeOfWindow 122 = .ok (.iconst 1, 1) := by decide +kernel
theorem dX7_takeOfWindow_123 : decode cX7_takeOfWindow 123 = .ok (.ireturn, 1) := by decide +kernel
theorem dX7_takeOfWindow_124 : decode cX7_takeOfWindow 124 = .ok (.aload_n 0, 1) := by decide +kernel
theorem dX7_takeOfWindow_125 : decode cX7_takeOfWindow 125 = .ok (.bipush 10, 2) := by decide +kernel
theorem dX7_takeOfWindow_127 : decode cX7_takeOfWindow 127 = .ok (.putfield 42, 3) := by decide +kernel
theorem dX7_takeOfWindow_130 : decode cX7_takeOfWindow 130 = .ok (.aload_n 1, 1) := by decide +kernel
theorem dX7_takeOfWindow_131 : decode cX7_takeOfWindow 131 = .ok (.aload_n 0, 1) := by decide +kernel
theorem dX7_takeOfWindow_132 : decode cX7_takeOfWindow 132 = .ok (.getfield 122, 3) := by decide +kernel
theorem dX7_takeOfWindow_135 : decode cX7_takeOfWindow 135 = .ok (.aload_n 0, 1) := by decide +kernel
theorem dX7_takeOfWindow_136 : decode cX7_takeOfWindow 136 = .ok (.getfield 136, 3) := by decide +kernel
theorem dX7_takeOfWindow_139 : decode cX7_takeOfWindow 139 = .ok (.aload_n 0, 1) := by decide +kernel
theorem dX7_takeOfWindow_140 : decode cX7_takeOfWindow 140 = .ok (.getfield 12, 3) := by decide +kernel
theorem dX7_takeOfWindow_143 : decode cX7_takeOfWindow 143 = .ok (.getfield 90, 3) := by decide +kernel
theorem dX7_takeOfWindow_146 : decode cX7_takeOfWindow 146 = .ok (.invokevirtual 131, 3) := by decide +kernel
theorem dX7_takeOfWindow_149 : decode cX7_takeOfWindow 149 = .ok (.aload_n 0, 1) := by decide +kernel
theorem dX7_takeOfWindow_150 : decode cX7_takeOfWindow 150 = .ok (.iconst 1, 1) := by decide +kernel
theorem dX7_takeOfWindow_151 : decode cX7_takeOfWindow 151 = .ok (.bipush 48, 2) := by decide +kernel
theorem dX7_takeOfWindow_153 : decode cX7_takeOfWindow 153 = .ok (.invokevirtual 100, 3) := by decide +kernel
theorem dX7_takeOfWindow_156 : decode cX7_takeOfWindow 156 = .ok (.ireturn, 1) := by decide +kernel
theorem dX7_takeOfWindow_157 : decode cX7_takeOfWindow 157 = .ok (.aload_n 0, 1) := by decide +kernel
theorem dX7_takeOfWindow_158 : decode cX7_takeOfWindow 158 = .ok (.iconst 5, 1) := by decide +kernel
theorem dX7_takeOfWindow_159 : decode cX7_takeOfWindow 159 = .ok (.putfield 42, 3) := by decide +kernel
theorem dX7_takeOfWindow_162 : decode cX7_takeOfWindow 162 = .ok (.iload_n 2, 1) := by decide +kernel
theorem dX7_takeOfWindow_163 : decode cX7_takeOfWindow 163 = .ok (.bipush 19, 2) := by decide +kernel
theorem dX7_takeOfWindow_165 : decode cX7_takeOfWindow 165 = .ok (.if_icmp .ne 7, 3) := by decide +kernel
theorem dX7_takeOfWindow_168 : decode cX7_takeOfWindow 168 = .ok (.iconst 0, 1) := by decide +kernel
theorem dX7_takeOfWindow_169 : decode cX7_takeOfWindow 169 = .ok (.goto 4, 3) := by decide +kernel
theorem dX7_takeOfWindow_172 : decode cX7_takeOfWindow 172 = .ok (.iconst 1, 1) := by decide +kernel
theorem dX7_takeOfWindow_173 : decode cX7_takeOfWindow 173 = .ok (.ireturn, 1) := by decide +kernel
theorem dX7_takeBehindOperand_0 : decode cX7_takeBehindOperand 0 = .ok (.aload_n 0, 1) := by decide +kernel
theorem dX7_takeBehindOperand_1 : decode cX7_takeBehindOperand 1 = .ok (.getfield 12, 3) := by decide +kernel
theorem dX7_takeBehindOperand_4 : decode cX7_takeBehindOperand 4 = .ok (.getfield 51, 3) := by decide +kernel
theorem dX7_takeBehindOperand_7 : decode cX7_takeBehindOperand 7 = .ok (.istore_n 2, 1) := by decide +kernel
theorem dX7_takeBehindOperand_8 : decode cX7_takeBehindOperand 8 = .ok (.iload_n 2, 1) := by decide +kernel
theorem dX7_takeBehindOperand_9 : decode cX7_takeBehindOperand 9 = .ok (.bipush 17, 2) := by decide +kernel
theorem dX7_takeBehindOperand_11 : decode cX7_takeBehindOperand 11 = .ok (.if_icmp .ne 41, 3) := by decide +kernel
theorem dX7_takeBehindOperand_14 : decode cX7_takeBehindOperand 14 = .ok (.aload_n 0, 1) := by decide +kernel
theorem dX7_takeBehindOperand_15 : decode cX7_takeBehindOperand 15 = .ok (.getfield 110, 3) := by decide +kernel
theorem dX7_takeBehindOperand_18 : decode cX7_takeBehindOperand 18 = .ok (.ifCond .ne 34, 3) := by decide +kernel
theorem dX7_takeBehindOperand_21 : decode cX7_takeBehindOperand 21 = .ok (.aload_n 0, 1) := by decide +kernel
theorem dX7_takeBehindOperand_22 : decode cX7_takeBehindOperand 22 = .ok (.aload_n 1, 1) := by decide +kernel
theorem dX7_takeBehindOperand_23 : decode cX7_takeBehindOperand 23 = .ok (.iconst 1, 1) := by decide +kernel
theorem dX7_takeBehindOperand_24 : decode cX7_takeBehindOperand 24 = .ok (.invokevirtual 139, 3) := by decide +kernel
theorem dX7_takeBehindOperand_27 : decode cX7_takeBehindOperand 27 = .ok (.aload_n 1, 1) := by decide +kernel
theorem dX7_takeBehindOperand_28 : decode cX7_takeBehindOperand 28 = .ok (.aload_n 0, 1) := by decide +kernel
theorem dX7_takeBehindOperand_29 : decode cX7_takeBehindOperand 29 = .ok (.getfield 104, 3) := by decide +kernel
theorem dX7_takeBehindOperand_32 : decode cX7_takeBehindOperand 32 = .ok (.invokevirtual 143, 3) := by decide +kernel
theorem dX7_takeBehindOperand_35 : decode cX7_takeBehindOperand 35 = .ok (.aload_n 0, 1) := by decide +kernel
theorem dX7_takeBehindOperand_36 : decode cX7_takeBehindOperand 36 = .ok (.dup, 1) := by decide +kernel
theorem dX7_takeBehindOperand_37 : decode cX7_takeBehindOperand 37 = .ok (.getfield 45, 3) := by decide +kernel
theorem dX7_takeBehindOperand_40 : decode cX7_takeBehindOperand 40 = .ok (.iconst 1, 1) := by decide +kernel
theorem dX7_takeBehindOperand_41 : decode cX7_takeBehindOperand 41 = .ok (.iadd, 1) := by decide +kernel
theorem dX7_takeBehindOperand_42 : decode cX7_takeBehindOperand 42 = .ok (.putfield 45, 3) := by decide +kernel
theorem dX7_takeBehindOperand_45 : decode cX7_takeBehindOperand 45 = .ok (.aload_n 0, 1) := by decide +kernel
theorem dX7_takeBehindOperand_46 : decode cX7_takeBehindOperand 46 = .ok (.iconst 0, 1) := by decide +kernel
theorem dX7_takeBehindOperand_47 : decode cX7_takeBehindOperand 47 = .ok (.putfield 42, 3) := by decide +kernel
theorem dX7_takeBehindOperand_50 : decode cX7_takeBehindOperand 50 = .ok (.iconst 0, 1) := by decide +kernel
theorem dX7_takeBehindOperand_51 : decode cX7_takeBehindOperand 51 = .ok (.ireturn, 1) := by decide +kernel
theorem dX7_takeBehindOperand_52 : decode cX7_takeBehindOperand 52 = .ok (.iload_n 2, 1) := by decide +kernel
theorem dX7_takeBehindOperand_53 : decode cX7_takeBehindOperand 53 = .ok (.bipush 19, 2) := by decide +kernel
theorem dX7_takeBehindOperand_55 : decode cX7_takeBehindOperand 55 = .ok (.if_icmp .ne 38, 3) := by decide +kernel
theorem dX7_takeBehindOperand_58 : decode cX7_takeBehindOperand 58 = .ok (.aload_n 0, 1) := by decide +kernel
theorem dX7_takeBehindOperand_59 : decode cX7_takeBehindOperand 59 = .ok (.getfield 110, 3) := by decide +kernel
theorem dX7_takeBehindOperand_62 : decode cX7_takeBehindOperand 62 = .ok (.ifCond .le 31, 3) := by decide +kernel
theorem dX7_takeBehindOperand_65 : decode cX7_takeBehindOperand 65 = .ok (.aload_n 0, 1) := by decide +kernel
theorem dX7_takeBehindOperand_66 : decode cX7_takeBehindOperand 66 = .ok (.aload_n 1, 1) := by decide +kernel
theorem dX7_takeBehindOperand_67 : decode cX7_takeBehindOperand 67 = .ok (.iconst 1, 1) := by decide +kernel
theorem dX7_takeBehindOperand_68 : decode cX7_takeBehindOperand 68 = .ok (.invokevirtual 139, 3) := by decide +kernel
theorem dX7_takeBehindOperand_71 : decode cX7_takeBehindOperand 71 = .ok (.aload_n 0, 1) := by decide +kernel
theorem dX7_takeBehindOperand_72 : decode cX7_takeBehindOperand 72 = .ok (.dup, 1) := by decide +kernel
theorem dX7_takeBehindOperand_73 : decode cX7_takeBehindOperand 73 = .ok (.getfield 107, 3) := by decide +kernel
theorem dX7_takeBehindOperand_76 : decode cX7_takeBehindOperand 76 = .ok (.iconst 1, 1) := by decide +kernel
theorem dX7_takeBehindOperand_77 : decode cX7_takeBehindOperand 77 = .ok (.isub, 1) := by decide +kernel
theorem dX7_takeBehindOperand_78 : decode cX7_takeBehindOperand 78 = .ok (.putfield 107, 3) := by decide +kernel
theorem dX7_takeBehindOperand_81 : decode cX7_takeBehindOperand 81 = .ok (.aload_n 0, 1) := by decide +kernel
theorem dX7_takeBehindOperand_82 : decode cX7_takeBehindOperand 82 = .ok (.dup, 1) := by decide +kernel
theorem dX7_takeBehindOperand_83 : decode cX7_takeBehindOperand 83 = .ok (.getfield 110, 3) := by decide +kernel
theorem dX7_takeBehindOperand_86 : decode cX7_takeBehindOperand 86 = .ok (.iconst 1, 1) := by decide +kernel
theorem dX7_takeBehindOperand_87 : decode cX7_takeBehindOperand 87 = .ok (.isub, 1) := by decide +kernel
theorem dX7_takeBehindOperand_88 : decode cX7_takeBehindOperand 88 = .ok (.putfield 110, 3) := by decide +kernel
theorem dX7_takeBehindOperand_91 : decode cX7_takeBehindOperand 91 = .ok (.iconst 0, 1) := by decide +kernel
theorem dX7_takeBehindOperand_92 : decode cX7_takeBehindOperand 92 = .ok (.ireturn, 1) := by decide +kernel
theorem dX7_takeBehindOperand_93 : decode cX7_takeBehindOperand 93 = .ok (.aload_n 0, 1) := by decide +kernel
theorem dX7_takeBehindOperand_94 : decode cX7_takeBehindOperand 94 = .ok (.aload_n 1, 1) := by decide +kernel
theorem dX7_takeBehindOperand_95 : decode cX7_takeBehindOperand 95 = .ok (.invokevirtual 146, 3) := by decide +kernel
theorem dX7_takeBehindOperand_98 : decode cX7_takeBehindOperand 98 = .ok (.ireturn, 1) := by decide +kernel
theorem dX7_takeSign_0 : decode cX7_takeSign 0 = .ok (.aload_n 0, 1) := by decide +kernel
theorem dX7_takeSign_1 : decode cX7_takeSign 1 = .ok (.getfield 12, 3) := by decide +kernel
theorem dX7_takeSign_4 : decode cX7_takeSign 4 = .ok (.getfield 51, 3) := by decide +kernel
theorem dX7_takeSign_7 : decode cX7_takeSign 7 = .ok (.istore_n 2, 1) := by decide +kernel
theorem dX7_takeSign_8 : decode cX7_takeSign 8 = .ok (.iload_n 2, 1) := by decide +kernel
theorem dX7_takeSign_9 : decode cX7_takeSign 9 = .ok (.iconst 2, 1) := by decide +kernel
theorem dX7_takeSign_10 : decode cX7_takeSign 10 = .ok (.if_icmp .eq 8, 3) := by decide +kernel
theorem dX7_takeSign_13 : decode cX7_takeSign 13 = .ok (.iload_n 2, 1) := by decide +kernel
theorem dX7_takeSign_14 : decode cX7_takeSign 14 = .ok (.iconst 3, 1) := by decide +kernel
theorem dX7_takeSign_15 : decode cX7_takeSign 15 = .ok (.if_icmp .ne 7, 3) := by decide +kernel
theorem dX7_takeSign_18 : decode cX7_takeSign 18 = .ok (.iconst 1, 1) := by decide +kernel
theorem dX7_takeSign_19 : decode cX7_takeSign 19 = .ok (.goto 4, 3) := by decide +kernel
theorem dX7_takeSign_22 : decode cX7_takeSign 22 = .ok (.iconst 0, 1) := by decide +kernel
theorem dX7_takeSign_23 : decode cX7_takeSign 23 = .ok (.istore_n 3, 1) := by decide +kernel
theorem dX7_takeSign_24 : decode cX7_takeSign 24 = .ok (.iload_n 2, 1) := by decide +kernel
theorem dX7_takeSign_25 : decode cX7_takeSign 25 = .ok (.bipush 25, 2) := by decide +kernel
theorem dX7_takeSign_27 : decode cX7_takeSign 27 = .ok (.bipush 30, 2) := by decide +kernel
theorem dX7_takeSign_29 : decode cX7_takeSign 29 = .ok (.invokestatic 93, 3) := by decide +kernel
theorem dX7_takeSign_32 : decode cX7_takeSign 32 = .ok (.istore 4, 2) := by decide +kernel
theorem dX7_takeSign_34 : decode cX7_takeSign 34 = .ok (.iload_n 2, 1) := by decide +kernel
theorem dX7_takeSign_35 : decode cX7_takeSign 35 = .ok (.bipush 21, 2) := by decide +kernel
theorem dX7_takeSign_37 : decode cX7_takeSign 37 = .ok (.bipush 24, 2) := by decide +kernel
theorem dX7_takeSign_39 : decode cX7_takeSign 39 = .ok (.invokestatic 93, 3) := by decide +kernel
theorem dX7_takeSign_42 : decode cX7_takeSign 42 = .ok (.istore 5, 2) := by decide +kernel
theorem dX7_takeSign_44 : decode cX7_takeSign 44 = .ok (.iload_n 3, 1) := by decide +kernel
theorem dX7_takeSign_45 : decode cX7_takeSign 45 = .ok (.ifCond .ne 27, 3) := by decide +kernel
theorem dX7_takeSign_48 : decode cX7_takeSign 48 = .ok (.iload 5, 2) := by decide +kernel
theorem dX7_takeSign_50 : decode cX7_takeSign 50 = .ok (.ifCond .ne 22, 3) := by decide +kernel
theorem dX7_takeSign_53 : decode cX7_takeSign 53 = .ok (.iload 4, 2) := by decide +kernel
theorem dX7_takeSign_55 : decode cX7_takeSign 55 = .ok (.ifCond .eq 15, 3) := by decide +kernel
theorem dX7_takeSign_58 : decode cX7_takeSign 58 = .ok (.aload_n 0, 1) := by decide +kernel
theorem dX7_takeSign_59 : decode cX7_takeSign 59 = .ok (.getfield 28, 3) := by decide +kernel
theorem dX7_takeSign_62 : decode cX7_takeSign 62 = .ok (.aload_n 0, 1) := by decide +kernel
theorem dX7_takeSign_63 : decode cX7_takeSign 63 = .ok (.getfield 110, 3) := by decide +kernel
theorem dX7_takeSign_66 : decode cX7_takeSign 66 = .ok (.baload, 1) := by decide +kernel
theorem dX7_takeSign_67 : decode cX7_takeSign 67 = .ok (.ifCond .eq 5, 3) := by decide +kernel
theorem dX7_takeSign_70 : decode cX7_takeSign 70 = .ok (.iconst 1, 1) := by decide +kernel
theorem dX7_takeSign_71 : decode cX7_takeSign 71 = .ok (.ireturn, 1) := by decide +kernel
theorem dX7_takeSign_72 : decode cX7_takeSign 72 = .ok (.iload 5, 2) := by decide +kernel
theorem dX7_takeSign_74 : decode cX7_takeSign 74 = .ok (.ifCond .ne 14, 3) := by decide +kernel
theorem dX7_takeSign_77 : decode cX7_takeSign 77 = .ok (.aload_n 0, 1) := by decide +kernel
theorem dX7_takeSign_78 : decode cX7_takeSign 78 = .ok (.getfield 28, 3) := by decide +kernel
theorem dX7_takeSign_81 : decode cX7_takeSign 81 = .ok (.aload_n 0, 1) := by decide +kernel
theorem dX7_takeSign_82 : decode cX7_takeSign 82 = .ok (.getfield 110, 3) := by decide +kernel
theorem dX7_takeSign_85 : decode cX7_takeSign 85 = .ok (.iload 4, 2) := by decide +kernel
theorem dX7_takeSign_87 : decode cX7_takeSign 87 = .ok (.bastore, 1) := by decide +kernel
theorem dX7_takeSign_88 : decode cX7_takeSign 88 = .ok (.aload_n 0, 1) := by decide +kernel
theorem dX7_takeSign_89 : decode cX7_takeSign 89 = .ok (.aload_n 1, 1) := by decide +kernel
theorem dX7_takeSign_90 : decode cX7_takeSign 90 = .ok (.iload_n 2, 1) := by decide +kernel
theorem dX7_takeSign_91 : decode cX7_takeSign 91 = .ok (.invokestatic 149, 3) := by decide +kernel
theorem dX7_takeSign_94 : decode cX7_takeSign 94 = .ok (.invokevirtual 139, 3) := by decide +kernel
theorem dX7_takeSign_97 : decode cX7_takeSign 97 = .ok (.aload_n 0, 1) := by decide +kernel
theorem dX7_takeSign_98 : decode cX7_takeSign 98 = .ok (.iload_n 2, 1) := by decide +kernel
theorem dX7_takeSign_99 : decode cX7_takeSign 99 = .ok (.invokevirtual 128, 3) := by decide +kernel
theorem dX7_takeSign_102 : decode cX7_takeSign 102 = .ok (.aload_n 0, 1) := by decide +kernel
theorem dX7_takeSign_103 : decode cX7_takeSign 103 = .ok (.iload_n 3, 1) := by decide +kernel
theorem dX7_takeSign_104 : decode cX7_takeSign 104 = .ok (.putfield 113, 3) := by decide +kernel
theorem dX7_takeSign_107 : decode cX7_takeSign 107 = .ok (.aload_n 0, 1) := by decide +kernel
theorem dX7_takeSign_108 : decode cX7_takeSign 108 = .ok (.iconst 4, 1) := by decide +kernel
theorem dX7_takeSign_109 : decode cX7_takeSign 109 = .ok (.putfield 42, 3) := by decide +kernel
theorem dX7_takeSign_112 : decode cX7_takeSign 112 = .ok (.aload_n 0, 1) := by decide +kernel
theorem dX7_takeSign_113 : decode cX7_takeSign 113 = .ok (.aload_n 1, 1) := by decide +kernel
theorem dX7_takeSign_114 : decode cX7_takeSign 114 = .ok (.invokevirtual 125, 3) := by decide +kernel
theorem dX7_takeSign_117 : decode cX7_takeSign 117 = .ok (.ireturn, 1) := by decide +kernel
theorem dX7_countKnot_0 : decode cX7_countKnot 0 = .ok (.aload_n 1, 1) := by decide +kernel
theorem dX7_countKnot_1 : decode cX7_countKnot 1 = .ok (.dup, 1) := by decide +kernel
theorem dX7_countKnot_2 : decode cX7_countKnot 2 = .ok (.getfield 153, 3) := by decide +kernel
theorem dX7_countKnot_5 : decode cX7_countKnot 5 = .ok (.iconst 1, 1) := by decide +kernel
theorem dX7_countKnot_6 : decode cX7_countKnot 6 = .ok (.iadd, 1) := by decide +kernel
theorem dX7_countKnot_7 : decode cX7_countKnot 7 = .ok (.putfield 153, 3) := by decide +kernel
theorem dX7_countKnot_10 : decode cX7_countKnot 10 = .ok (.aload_n 1, 1) := by decide +kernel
theorem dX7_countKnot_11 : decode cX7_countKnot 11 = .ok (.getfield 153, 3) := by decide +kernel
theorem dX7_countKnot_14 : decode cX7_countKnot 14 = .ok (.bipush 64, 2) := by decide +kernel
theorem dX7_countKnot_16 : decode cX7_countKnot 16 = .ok (.if_icmp .le 7, 3) := by decide +kernel
theorem dX7_countKnot_19 : decode cX7_countKnot 19 = .ok (.iconst 2, 1) := by decide +kernel
theorem dX7_countKnot_20 : decode cX7_countKnot 20 = .ok (.goto 4, 3) := by decide +kernel
theorem dX7_countKnot_23 : decode cX7_countKnot 23 = .ok (.iconst 0, 1) := by decide +kernel
theorem dX7_countKnot_24 : decode cX7_countKnot 24 = .ok (.ireturn, 1) := by decide +kernel
theorem dX7_await_0 : decode cX7_await 0 = .ok (.aload_n 0, 1) := by decide +kernel
theorem dX7_await_1 : decode cX7_await 1 = .ok (.getfield 107, 3) := by decide +kernel
theorem dX7_await_4 : decode cX7_await 4 = .ok (.bipush 72, 2) := by decide +kernel
theorem dX7_await_6 : decode cX7_await 6 = .ok (.if_icmp .ge 23, 3) := by decide +kernel
theorem dX7_await_9 : decode cX7_await 9 = .ok (.aload_n 0, 1) := by decide +kernel
theorem dX7_await_10 : decode cX7_await 10 = .ok (.getfield 24, 3) := by decide +kernel
theorem dX7_await_13 : decode cX7_await 13 = .ok (.aload_n 0, 1) := by decide +kernel
theorem dX7_await_14 : decode cX7_await 14 = .ok (.getfield 107, 3) := by decide +kernel
theorem dX7_await_17 : decode cX7_await 17 = .ok (.iload_n 1, 1) := by decide +kernel
theorem dX7_await_18 : decode cX7_await 18 = .ok (.iastore, 1) := by decide +kernel
theorem dX7_await_19 : decode cX7_await 19 = .ok (.aload_n 0, 1) := by decide +kernel
theorem dX7_await_20 : decode cX7_await 20 = .ok (.dup, 1) := by decide +kernel
theorem dX7_await_21 : decode cX7_await 21 = .ok (.getfield 107, 3) := by decide +kernel
theorem dX7_await_24 : decode cX7_await 24 = .ok (.iconst 1, 1) := by decide +kernel
theorem dX7_await_25 : decode cX7_await 25 = .ok (.iadd, 1) := by decide +kernel
theorem dX7_await_26 : decode cX7_await 26 = .ok (.putfield 107, 3) := by decide +kernel
theorem dX7_await_29 : decode cX7_await 29 = .ok (.return_, 1) := by decide +kernel
theorem dX7_settle_0 : decode cX7_settle 0 = .ok (.aload_n 0, 1) := by decide +kernel
theorem dX7_settle_1 : decode cX7_settle 1 = .ok (.getfield 107, 3) := by decide +kernel
theorem dX7_settle_4 : decode cX7_settle 4 = .ok (.ifCond .le 49, 3) := by decide +kernel
theorem dX7_settle_7 : decode cX7_settle 7 = .ok (.aload_n 0, 1) := by decide +kernel
theorem dX7_settle_8 : decode cX7_settle 8 = .ok (.getfield 24, 3) := by decide +kernel
theorem dX7_settle_11 : decode cX7_settle 11 = .ok (.aload_n 0, 1) := by decide +kernel
theorem dX7_settle_12 : decode cX7_settle 12 = .ok (.getfield 107, 3) := by decide +kernel
theorem dX7_settle_15 : decode cX7_settle 15 = .ok (.iconst 1, 1) := by decide +kernel
theorem dX7_settle_16 : decode cX7_settle 16 = .ok (.isub, 1) := by decide +kernel
theorem dX7_settle_17 : decode cX7_settle 17 = .ok (.iaload, 1) := by decide +kernel
theorem dX7_settle_18 : decode cX7_settle 18 = .ok (.invokestatic 149, 3) := by decide +kernel
theorem dX7_settle_21 : decode cX7_settle 21 = .ok (.iload_n 2, 1) := by decide +kernel
theorem dX7_settle_22 : decode cX7_settle 22 = .ok (.if_icmp .lt 31, 3) := by decide +kernel
theorem dX7_settle_25 : decode cX7_settle 25 = .ok (.aload_n 0, 1) := by decide +kernel
theorem dX7_settle_26 : decode cX7_settle 26 = .ok (.dup, 1) := by decide +kernel
theorem dX7_settle_27 : decode cX7_settle 27 = .ok (.getfield 107, 3) := by decide +kernel
theorem dX7_settle_30 : decode cX7_settle 30 = .ok (.iconst 1, 1) := by decide +kernel
theorem dX7_settle_31 : decode cX7_settle 31 = .ok (.isub, 1) := by decide +kernel
theorem dX7_settle_32 : decode cX7_settle 32 = .ok (.putfield 107, 3) := by decide +kernel
theorem dX7_settle_35 : decode cX7_settle 35 = .ok (.aload_n 1, 1) := by decide +kernel
theorem dX7_settle_36 : decode cX7_settle 36 = .ok (.aload_n 0, 1) := by decide +kernel
theorem dX7_settle_37 : decode cX7_settle 37 = .ok (.getfield 24, 3) := by decide +kernel
theorem dX7_settle_40 : decode cX7_settle 40 = .ok (.aload_n 0, 1) := by decide +kernel
theorem dX7_settle_41 : decode cX7_settle 41 = .ok (.getfield 107, 3) := by decide +kernel
theorem dX7_settle_44 : decode cX7_settle 44 = .ok (.iaload, 1) := by decide +kernel
theorem dX7_settle_45 : decode cX7_settle 45 = .ok (.iconst 0, 1) := by decide +kernel
theorem dX7_settle_46 : decode cX7_settle 46 = .ok (.iconst 0, 1) := by decide +kernel
theorem dX7_settle_47 : decode cX7_settle 47 = .ok (.invokevirtual 131, 3) := by decide +kernel
theorem dX7_settle_50 : decode cX7_settle 50 = .ok (.goto (-50), 3) := by decide +kernel
theorem dX7_settle_53 : decode cX7_settle 53 = .ok (.return_, 1) := by decide +kernel
theorem dX7_strength_0 : decode cX7_strength 0 = .ok (.iload_n 0, 1) := by decide +kernel
theorem dX7_strength_1 : decode cX7_strength 1 = .ok (.tableswitch 151 2 31 #[137, 139, 141, 151, 151, 151, 151, 151, 151, 151, 151, 151, 151, 151, 151, 151, 135, 151, 151, 143, 143, 145, 145, 151, 151, 151, 151, 151, 151, 148], 135) := by decide +kernel
theorem dX7_strength_136 : decode cX7_strength 136 = .ok (.iconst 0, 1) := by decide +kernel
theorem dX7_strength_137 : decode cX7_strength 137 = .ok (.ireturn, 1) := by decide +kernel
theorem dX7_strength_138 : decode cX7_strength 138 = .ok (.iconst 1, 1) := by decide +kernel
theorem dX7_strength_139 : decode cX7_strength 139 = .ok (.ireturn, 1) := by decide +kernel
theorem dX7_strength_140 : decode cX7_strength 140 = .ok (.iconst 2, 1) := by decide +kernel
theorem dX7_strength_141 : decode cX7_strength 141 = .ok (.ireturn, 1) := by decide +kernel
theorem dX7_strength_142 : decode cX7_strength 142 = .ok (.iconst 3, 1) := by decide +kernel
theorem dX7_strength_143 : decode cX7_strength 143 = .ok (.ireturn, 1) := by decide +kernel
theorem dX7_strength_144 : decode cX7_strength 144 = .ok (.iconst 5, 1) := by decide +kernel
theorem dX7_strength_145 : decode cX7_strength 145 = .ok (.ireturn, 1) := by decide +kernel
theorem dX7_strength_146 : decode cX7_strength 146 = .ok (.bipush 6, 2) := by decide +kernel
theorem dX7_strength_148 : decode cX7_strength 148 = .ok (.ireturn, 1) := by decide +kernel
theorem dX7_strength_149 : decode cX7_strength 149 = .ok (.bipush 7, 2) := by decide +kernel
theorem dX7_strength_151 : decode cX7_strength 151 = .ok (.ireturn, 1) := by decide +kernel
theorem dX7_strength_152 : decode cX7_strength 152 = .ok (.iconst 4, 1) := by decide +kernel
theorem dX7_strength_153 : decode cX7_strength 153 = .ok (.ireturn, 1) := by decide +kernel
theorem dX8_clear_0 : decode cX8_clear 0 = .ok (.aload_n 0, 1) := by decide +kernel
theorem dX8_clear_1 : decode cX8_clear 1 = .ok (.iconst 0, 1) := by decide +kernel
theorem dX8_clear_2 : decode cX8_clear 2 = .ok (.putfield 7, 3) := by decide +kernel
theorem dX8_clear_5 : decode cX8_clear 5 = .ok (.aload_n 0, 1) := by decide +kernel
theorem dX8_clear_6 : decode cX8_clear 6 = .ok (.iconst 0, 1) := by decide +kernel
theorem dX8_clear_7 : decode cX8_clear 7 = .ok (.putfield 13, 3) := by decide +kernel
theorem dX8_clear_10 : decode cX8_clear 10 = .ok (.aload_n 0, 1) := by decide +kernel
theorem dX8_clear_11 : decode cX8_clear 11 = .ok (.iconst 0, 1) := by decide +kernel
theorem dX8_clear_12 : decode cX8_clear 12 = .ok (.putfield 16, 3) := by decide +kernel
theorem dX8_clear_15 : decode cX8_clear 15 = .ok (.return_, 1) := by decide +kernel
theorem dX8_add_0 : decode cX8_add 0 = .ok (.iload_n 2, 1) := by decide +kernel
theorem dX8_add_1 : decode cX8_add 1 = .ok (.sipush (-10000), 3) := by decide +kernel
theorem dX8_add_4 : decode cX8_add 4 = .ok (.if_icmp .ne 14, 3) := by decide +kernel
theorem dX8_add_7 : decode cX8_add 7 = .ok (.aload_n 0, 1) := by decide +kernel
theorem dX8_add_8 : decode cX8_add 8 = .ok (.dup, 1) := by decide +kernel
theorem dX8_add_9 : decode cX8_add 9 = .ok (.getfield 16, 3) := by decide +kernel
theorem dX8_add_12 : decode cX8_add 12 = .ok (.iconst 1, 1) := by decide +kernel
theorem dX8_add_13 : decode cX8_add 13 = .ok (.iadd, 1) := by decide +kernel
theorem dX8_add_14 : decode cX8_add 14 = .ok (.putfield 16, 3) := by decide +kernel
theorem dX8_add_17 : decode cX8_add 17 = .ok (.return_, 1) := by decide +kernel
theorem dX8_add_18 : decode cX8_add 18 = .ok (.aload_n 0, 1) := by decide +kernel
theorem dX8_add_19 : decode cX8_add 19 = .ok (.getfield 13, 3) := by decide +kernel
theorem dX8_add_22 : decode cX8_add 22 = .ok (.ifCond .ne 7, 3) := by decide +kernel
theorem dX8_add_25 : decode cX8_add 25 = .ok (.iconst 1, 1) := by decide +kernel
theorem dX8_add_26 : decode cX8_add 26 = .ok (.goto 4, 3) := by decide +kernel
theorem dX8_add_29 : decode cX8_add 29 = .ok (.iconst 0, 1) := by decide +kernel
theorem dX8_add_30 : decode cX8_add 30 = .ok (.istore_n 3, 1) := by decide +kernel
theorem dX8_add_31 : decode cX8_add 31 = .ok (.aload_n 0, 1) := by decide +kernel
theorem dX8_add_32 : decode cX8_add 32 = .ok (.iload_n 3, 1) := by decide +kernel
theorem dX8_add_33 : decode cX8_add 33 = .ok (.ifCond .ne 11, 3) := by decide +kernel
theorem dX8_add_36 : decode cX8_add 36 = .ok (.iload_n 2, 1) := by decide +kernel
theorem dX8_add_37 : decode cX8_add 37 = .ok (.aload_n 0, 1) := by decide +kernel
theorem dX8_add_38 : decode cX8_add 38 = .ok (.getfield 21, 3) := by decide +kernel
theorem dX8_add_41 : decode cX8_add 41 = .ok (.if_icmp .le 7, 3) := by decide +kernel
theorem dX8_add_44 : decode cX8_add 44 = .ok (.iload_n 2, 1) := by decide +kernel
theorem dX8_add_45 : decode cX8_add 45 = .ok (.goto 7, 3) := by decide +kernel
theorem dX8_add_48 : decode cX8_add 48 = .ok (.aload_n 0, 1) := by decide +kernel
theorem dX8_add_49 : decode cX8_add 49 = .ok (.getfield 21, 3) := by decide +kernel
theorem dX8_add_52 : decode cX8_add 52 = .ok (.putfield 21, 3) := by decide +kernel
theorem dX8_add_55 : decode cX8_add 55 = .ok (.aload_n 0, 1) := by decide +kernel
theorem dX8_add_56 : decode cX8_add 56 = .ok (.iload_n 3, 1) := by decide +kernel
theorem dX8_add_57 : decode cX8_add 57 = .ok (.ifCond .ne 11, 3) := by decide +kernel
theorem dX8_add_60 : decode cX8_add 60 = .ok (.iload_n 2, 1) := by decide +kernel
theorem dX8_add_61 : decode cX8_add 61 = .ok (.aload_n 0, 1) := by decide +kernel
theorem dX8_add_62 : decode cX8_add 62 = .ok (.getfield 24, 3) := by decide +kernel
theorem dX8_add_65 : decode cX8_add 65 = .ok (.if_icmp .ge 7, 3) := by decide +kernel
theorem dX8_add_68 : decode cX8_add 68 = .ok (.iload_n 2, 1) := by decide +kernel
theorem dX8_add_69 : decode cX8_add 69 = .ok (.goto 7, 3) := by decide +kernel
theorem dX8_add_72 : decode cX8_add 72 = .ok (.aload_n 0, 1) := by decide +kernel
theorem dX8_add_73 : decode cX8_add 73 = .ok (.getfield 24, 3) := by decide +kernel
theorem dX8_add_76 : decode cX8_add 76 = .ok (.putfield 24, 3) := by decide +kernel
theorem dX8_add_79 : decode cX8_add 79 = .ok (.iload_n 3, 1) := by decide +kernel
theorem dX8_add_80 : decode cX8_add 80 = .ok (.ifCond .ne 27, 3) := by decide +kernel
theorem dX8_add_83 : decode cX8_add 83 = .ok (.iload_n 1, 1) := by decide +kernel
theorem dX8_add_84 : decode cX8_add 84 = .ok (.aload_n 0, 1) := by decide +kernel
theorem dX8_add_85 : decode cX8_add 85 = .ok (.getfield 27, 3) := by decide +kernel
theorem dX8_add_88 : decode cX8_add 88 = .ok (.if_icmp .lt 19, 3) := by decide +kernel
theorem dX8_add_91 : decode cX8_add 91 = .ok (.iload_n 1, 1) := by decide +kernel
theorem dX8_add_92 : decode cX8_add 92 = .ok (.aload_n 0, 1) := by decide +kernel
theorem dX8_add_93 : decode cX8_add 93 = .ok (.getfield 27, 3) := by decide +kernel
theorem dX8_add_96 : decode cX8_add 96 = .ok (.if_icmp .ne 21, 3) := by decide +kernel
theorem dX8_add_99 : decode cX8_add 99 = .ok (.iload_n 2, 1) := by decide +kernel
theorem dX8_add_100 : decode cX8_add 100 = .ok (.aload_n 0, 1) := by decide +kernel
theorem dX8_add_101 : decode cX8_add 101 = .ok (.getfield 30, 3) := by decide +kernel
theorem dX8_add_104 : decode cX8_add 104 = .ok (.if_icmp .le 13, 3) := by decide +kernel
theorem dX8_add_107 : decode cX8_add 107 = .ok (.aload_n 0, 1) := by decide +kernel
theorem dX8_add_108 : decode cX8_add 108 = .ok (.iload_n 1, 1) := by decide +kernel
theorem dX8_add_109 : decode cX8_add 109 = .ok (.putfield 27, 3) := by decide +kernel
theorem dX8_add_112 : decode cX8_add 112 = .ok (.aload_n 0, 1) := by decide +kernel
theorem dX8_add_113 : decode cX8_add 113 = .ok (.iload_n 2, 1) := by decide +kernel
theorem dX8_add_114 : decode cX8_add 114 = .ok (.putfield 30, 3) := by decide +kernel
theorem dX8_add_117 : decode cX8_add 117 = .ok (.iload_n 3, 1) := by decide +kernel
theorem dX8_add_118 : decode cX8_add 118 = .ok (.ifCond .ne 27, 3) := by decide +kernel
theorem dX8_add_121 : decode cX8_add 121 = .ok (.iload_n 1, 1) := by decide +kernel
theorem dX8_add_122 : decode cX8_add 122 = .ok (.aload_n 0, 1) := by decide +kernel
theorem dX8_add_123 : decode cX8_add 123 = .ok (.getfield 33, 3) := by decide +kernel
theorem dX8_add_126 : decode cX8_add 126 = .ok (.if_icmp .gt 19, 3) := by decide +kernel
theorem dX8_add_129 : decode cX8_add 129 = .ok (.iload_n 1, 1) := by decide +kernel
theorem dX8_add_130 : decode cX8_add 130 = .ok (.aload_n 0, 1) := by decide +kernel
theorem dX8_add_131 : decode cX8_add 131 = .ok (.getfield 33, 3) := by decide +kernel
theorem dX8_add_134 : decode cX8_add 134 = .ok (.if_icmp .ne 21, 3) := by decide +kernel
theorem dX8_add_137 : decode cX8_add 137 = .ok (.iload_n 2, 1) := by decide +kernel
theorem dX8_add_138 : decode cX8_add 138 = .ok (.aload_n 0, 1) := by decide +kernel
theorem dX8_add_139 : decode cX8_add 139 = .ok (.getfield 36, 3) := by decide +kernel
theorem dX8_add_142 : decode cX8_add 142 = .ok (.if_icmp .le 13, 3) := by decide +kernel
theorem dX8_add_145 : decode cX8_add 145 = .ok (.aload_n 0, 1) := by decide +kernel
theorem dX8_add_146 : decode cX8_add 146 = .ok (.iload_n 1, 1) := by decide +kernel
theorem dX8_add_147 : decode cX8_add 147 = .ok (.putfield 33, 3) := by decide +kernel
theorem dX8_add_150 : decode cX8_add 150 = .ok (.aload_n 0, 1) := by decide +kernel
theorem dX8_add_151 : decode cX8_add 151 = .ok (.iload_n 2, 1) := by decide +kernel
theorem dX8_add_152 : decode cX8_add 152 = .ok (.putfield 36, 3) := by decide +kernel
theorem dX8_add_155 : decode cX8_add 155 = .ok (.aload_n 0, 1) := by decide +kernel
theorem dX8_add_156 : decode cX8_add 156 = .ok (.dup, 1) := by decide +kernel
theorem dX8_add_157 : decode cX8_add 157 = .ok (.getfield 7, 3) := by decide +kernel
theorem dX8_add_160 : decode cX8_add 160 = .ok (.iload_n 2, 1) := by decide +kernel
theorem dX8_add_161 : decode cX8_add 161 = .ok (.iadd, 1) := by decide +kernel
theorem dX8_add_162 : decode cX8_add 162 = .ok (.putfield 7, 3) := by decide +kernel
theorem dX8_add_165 : decode cX8_add 165 = .ok (.aload_n 0, 1) := by decide +kernel
theorem dX8_add_166 : decode cX8_add 166 = .ok (.dup, 1) := by decide +kernel
theorem dX8_add_167 : decode cX8_add 167 = .ok (.getfield 13, 3) := by decide +kernel
theorem dX8_add_170 : decode cX8_add 170 = .ok (.iconst 1, 1) := by decide +kernel
theorem dX8_add_171 : decode cX8_add 171 = .ok (.iadd, 1) := by decide +kernel
theorem dX8_add_172 : decode cX8_add 172 = .ok (.putfield 13, 3) := by decide +kernel
theorem dX8_add_175 : decode cX8_add 175 = .ok (.return_, 1) := by decide +kernel
theorem dX8_part_0 : decode cX8_part 0 = .ok (.iload_n 1, 1) := by decide +kernel
theorem dX8_part_1 : decode cX8_part 1 = .ok (.tableswitch 53 7 11 #[35, 53, 53, 41, 47], 35) := by decide +kernel
theorem dX8_part_36 : decode cX8_part 36 = .ok (.aload_n 0, 1) := by decide +kernel
theorem dX8_part_37 : decode cX8_part 37 = .ok (.getfield 7, 3) := by decide +kernel
theorem dX8_part_40 : decode cX8_part 40 = .ok (.i2l, 1) := by decide +kernel
theorem dX8_part_41 : decode cX8_part 41 = .ok (.lreturn, 1) := by decide +kernel
theorem dX8_part_42 : decode cX8_part 42 = .ok (.aload_n 0, 1) := by decide +kernel
theorem dX8_part_43 : decode cX8_part 43 = .ok (.getfield 13, 3) := by decide +kernel
theorem dX8_part_46 : decode cX8_part 46 = .ok (.i2l, 1) := by decide +kernel
theorem dX8_part_47 : decode cX8_part 47 = .ok (.lreturn, 1) := by decide +kernel
theorem dX8_part_48 : decode cX8_part 48 = .ok (.aload_n 0, 1) := by decide +kernel
theorem dX8_part_49 : decode cX8_part 49 = .ok (.getfield 16, 3) := by decide +kernel
theorem dX8_part_52 : decode cX8_part 52 = .ok (.i2l, 1) := by decide +kernel
theorem dX8_part_53 : decode cX8_part 53 = .ok (.lreturn, 1) := by decide +kernel
theorem dX8_part_54 : decode cX8_part 54 = .ok (.aload_n 0, 1) := by decide +kernel
theorem dX8_part_55 : decode cX8_part 55 = .ok (.getfield 13, 3) := by decide +kernel
theorem dX8_part_58 : decode cX8_part 58 = .ok (.ifCond .ne 7, 3) := by decide +kernel
theorem dX8_part_61 : decode cX8_part 61 = .ok (.ldc2_w 41, 3) := by decide +kernel
theorem dX8_part_64 : decode cX8_part 64 = .ok (.lreturn, 1) := by decide +kernel
theorem dX8_part_65 : decode cX8_part 65 = .ok (.iload_n 1, 1) := by decide +kernel
theorem dX8_part_66 : decode cX8_part 66 = .ok (.tableswitch 48 6 9 #[42, 48, 30, 36], 30) := by decide +kernel
theorem dX8_part_96 : decode cX8_part 96 = .ok (.aload_n 0, 1) := by decide +kernel
theorem dX8_part_97 : decode cX8_part 97 = .ok (.getfield 21, 3) := by decide +kernel
theorem dX8_part_100 : decode cX8_part 100 = .ok (.i2l, 1) := by decide +kernel
theorem dX8_part_101 : decode cX8_part 101 = .ok (.lreturn, 1) := by decide +kernel
theorem dX8_part_102 : decode cX8_part 102 = .ok (.aload_n 0, 1) := by decide +kernel
theorem dX8_part_103 : decode cX8_part 103 = .ok (.getfield 24, 3) := by decide +kernel
theorem dX8_part_106 : decode cX8_part 106 = .ok (.i2l, 1) := by decide +kernel
theorem dX8_part_107 : decode cX8_part 107 = .ok (.lreturn, 1) := by decide +kernel
theorem dX8_part_108 : decode cX8_part 108 = .ok (.aload_n 0, 1) := by decide +kernel
theorem dX8_part_109 : decode cX8_part 109 = .ok (.getfield 30, 3) := by decide +kernel
theorem dX8_part_112 : decode cX8_part 112 = .ok (.i2l, 1) := by decide +kernel
theorem dX8_part_113 : decode cX8_part 113 = .ok (.lreturn, 1) := by decide +kernel
theorem dX8_part_114 : decode cX8_part 114 = .ok (.aload_n 0, 1) := by decide +kernel
theorem dX8_part_115 : decode cX8_part 115 = .ok (.getfield 36, 3) := by decide +kernel
theorem dX8_part_118 : decode cX8_part 118 = .ok (.i2l, 1) := by decide +kernel
theorem dX8_part_119 : decode cX8_part 119 = .ok (.lreturn, 1) := by decide +kernel
theorem dX9_hasSpace_0 : decode cX9_hasSpace 0 = .ok (.aload_n 0, 1) := by decide +kernel
theorem dX9_hasSpace_1 : decode cX9_hasSpace 1 = .ok (.getfield 13, 3) := by decide +kernel
theorem dX9_hasSpace_4 : decode cX9_hasSpace 4 = .ok (.iload_n 1, 1) := by decide +kernel
theorem dX9_hasSpace_5 : decode cX9_hasSpace 5 = .ok (.iadd, 1) := by decide +kernel
theorem dX9_hasSpace_6 : decode cX9_hasSpace 6 = .ok (.sipush 500, 3) := by decide +kernel
theorem dX9_hasSpace_9 : decode cX9_hasSpace 9 = .ok (.if_icmp .gt 7, 3) := by decide +kernel
theorem dX9_hasSpace_12 : decode cX9_hasSpace 12 = .ok (.iconst 1, 1) := by decide +kernel
theorem dX9_hasSpace_13 : decode cX9_hasSpace 13 = .ok (.goto 4, 3) := by decide +kernel
theorem dX9_hasSpace_16 : decode cX9_hasSpace 16 = .ok (.iconst 0, 1) := by decide +kernel
theorem dX9_hasSpace_17 : decode cX9_hasSpace 17 = .ok (.ireturn, 1) := by decide +kernel
theorem dX9_append_0 : decode cX9_append 0 = .ok (.bipush 24, 2) := by decide +kernel
theorem dX9_append_2 : decode cX9_append 2 = .ok (.istore_n 2, 1) := by decide +kernel
theorem dX9_append_3 : decode cX9_append 3 = .ok (.iload_n 2, 1) := by decide +kernel
theorem dX9_append_4 : decode cX9_append 4 = .ok (.ifCond .lt 45, 3) := by decide +kernel
theorem dX9_append_7 : decode cX9_append 7 = .ok (.aload_n 0, 1) := by decide +kernel
theorem dX9_append_8 : decode cX9_append 8 = .ok (.getfield 13, 3) := by decide +kernel
theorem dX9_append_11 : decode cX9_append 11 = .ok (.sipush 500, 3) := by decide +kernel
theorem dX9_append_14 : decode cX9_append 14 = .ok (.if_icmp .ge 35, 3) := by decide +kernel
theorem dX9_append_17 : decode cX9_append 17 = .ok (.aload_n 0, 1) := by decide +kernel
theorem dX9_append_18 : decode cX9_append 18 = .ok (.getfield 9, 3) := by decide +kernel
theorem dX9_append_21 : decode cX9_append 21 = .ok (.aload_n 0, 1) := by decide +kernel
theorem dX9_append_22 : decode cX9_append 22 = .ok (.getfield 13, 3) := by decide +kernel
theorem dX9_append_25 : decode cX9_append 25 = .ok (.iload_n 1, 1) := by decide +kernel
theorem dX9_append_26 : decode cX9_append 26 = .ok (.iload_n 2, 1) := by decide +kernel
theorem dX9_append_27 : decode cX9_append 27 = .ok (.iushr, 1) := by decide +kernel
theorem dX9_append_28 : decode cX9_append 28 = .ok (.sipush 255, 3) := by decide +kernel
theorem dX9_append_31 : decode cX9_append 31 = .ok (.iand, 1) := by decide +kernel
theorem dX9_append_32 : decode cX9_append 32 = .ok (.iastore, 1) := by decide +kernel
theorem dX9_append_33 : decode cX9_append 33 = .ok (.aload_n 0, 1) := by decide +kernel
theorem dX9_append_34 : decode cX9_append 34 = .ok (.dup, 1) := by decide +kernel
theorem dX9_append_35 : decode cX9_append 35 = .ok (.getfield 13, 3) := by decide +kernel
theorem dX9_append_38 : decode cX9_append 38 = .ok (.iconst 1, 1) := by decide +kernel
theorem dX9_append_39 : decode cX9_append 39 = .ok (.iadd, 1) := by decide +kernel
theorem dX9_append_40 : decode cX9_append 40 = .ok (.putfield 13, 3) := by decide +kernel
theorem dX9_append_43 : decode cX9_append 43 = .ok (.iinc 2 (-8), 3) := by decide +kernel
theorem dX9_append_46 : decode cX9_append 46 = .ok (.goto (-43), 3) := by decide +kernel
theorem dX9_append_49 : decode cX9_append 49 = .ok (.return_, 1) := by decide +kernel
theorem dX9_startText_0 : decode cX9_startText 0 = .ok (.aload_n 0, 1) := by decide +kernel
theorem dX9_startText_1 : decode cX9_startText 1 = .ok (.iconst 0, 1) := by decide +kernel
theorem dX9_startText_2 : decode cX9_startText 2 = .ok (.iload_n 1, 1) := by decide +kernel
theorem dX9_startText_3 : decode cX9_startText 3 = .ok (.aload_n 0, 1) := by decide +kernel
theorem dX9_startText_4 : decode cX9_startText 4 = .ok (.getfield 13, 3) := by decide +kernel
theorem dX9_startText_7 : decode cX9_startText 7 = .ok (.invokestatic 17, 3) := by decide +kernel
theorem dX9_startText_10 : decode cX9_startText 10 = .ok (.invokestatic 23, 3) := by decide +kernel
theorem dX9_startText_13 : decode cX9_startText 13 = .ok (.putfield 26, 3) := by decide +kernel
theorem dX9_startText_16 : decode cX9_startText 16 = .ok (.aload_n 0, 1) := by decide +kernel
theorem dX9_startText_17 : decode cX9_startText 17 = .ok (.iconst 0, 1) := by decide +kernel
theorem dX9_startText_18 : decode cX9_startText 18 = .ok (.putfield 13, 3) := by decide +kernel
theorem dX9_startText_21 : decode cX9_startText 21 = .ok (.aload_n 0, 1) := by decide +kernel
theorem dX9_startText_22 : decode cX9_startText 22 = .ok (.iconst 0, 1) := by decide +kernel
theorem dX9_startText_23 : decode cX9_startText 23 = .ok (.putfield 29, 3) := by decide +kernel
theorem dX9_startText_26 : decode cX9_startText 26 = .ok (.return_, 1) := by decide +kernel
theorem dX9_next_0 : decode cX9_next 0 = .ok (.aload_n 0, 1) := by decide +kernel
theorem dX9_next_1 : decode cX9_next 1 = .ok (.getfield 29, 3) := by decide +kernel
theorem dX9_next_4 : decode cX9_next 4 = .ok (.aload_n 0, 1) := by decide +kernel
theorem dX9_next_5 : decode cX9_next 5 = .ok (.getfield 26, 3) := by decide +kernel
theorem dX9_next_8 : decode cX9_next 8 = .ok (.if_icmp .ge 44, 3) := by decide +kernel
theorem dX9_next_11 : decode cX9_next 11 = .ok (.aload_n 0, 1) := by decide +kernel
theorem dX9_next_12 : decode cX9_next 12 = .ok (.getfield 9, 3) := by decide +kernel
theorem dX9_next_15 : decode cX9_next 15 = .ok (.aload_n 0, 1) := by decide +kernel
theorem dX9_next_16 : decode cX9_next 16 = .ok (.getfield 29, 3) := by decide +kernel
theorem dX9_next_19 : decode cX9_next 19 = .ok (.iaload, 1) := by decide +kernel
theorem dX9_next_20 : decode cX9_next 20 = .ok (.bipush 10, 2) := by decide +kernel
theorem dX9_next_22 : decode cX9_next 22 = .ok (.if_icmp .eq 17, 3) := by decide +kernel
theorem dX9_next_25 : decode cX9_next 25 = .ok (.aload_n 0, 1) := by decide +kernel
theorem dX9_next_26 : decode cX9_next 26 = .ok (.getfield 9, 3) := by decide +kernel
theorem dX9_next_29 : decode cX9_next 29 = .ok (.aload_n 0, 1) := by decide +kernel
theorem dX9_next_30 : decode cX9_next 30 = .ok (.getfield 29, 3) := by decide +kernel
theorem dX9_next_33 : decode cX9_next 33 = .ok (.iaload, 1) := by decide +kernel
theorem dX9_next_34 : decode cX9_next 34 = .ok (.bipush 32, 2) := by decide +kernel
theorem dX9_next_36 : decode cX9_next 36 = .ok (.if_icmp .ne 16, 3) := by decide +kernel
theorem dX9_next_39 : decode cX9_next 39 = .ok (.aload_n 0, 1) := by decide +kernel
theorem dX9_next_40 : decode cX9_next 40 = .ok (.dup, 1) := by decide +kernel
theorem dX9_next_41 : decode cX9_next 41 = .ok (.getfield 29, 3) := by decide +kernel
theorem dX9_next_44 : decode cX9_next 44 = .ok (.iconst 1, 1) := by decide +kernel
theorem dX9_next_45 : decode cX9_next 45 = .ok (.iadd, 1) := by decide +kernel
theorem dX9_next_46 : decode cX9_next 46 = .ok (.putfield 29, 3) := by decide +kernel
theorem dX9_next_49 : decode cX9_next 49 = .ok (.goto (-49), 3) := by decide +kernel
theorem dX9_next_52 : decode cX9_next 52 = .ok (.aload_n 0, 1) := by decide +kernel
theorem dX9_next_53 : decode cX9_next 53 = .ok (.aload_n 0, 1) := by decide +kernel
theorem dX9_next_54 : decode cX9_next 54 = .ok (.getfield 29, 3) := by decide +kernel
theorem dX9_next_57 : decode cX9_next 57 = .ok (.putfield 32, 3) := by decide +kernel
theorem dX9_next_60 : decode cX9_next 60 = .ok (.aload_n 0, 1) := by decide +kernel
theorem dX9_next_61 : decode cX9_next 61 = .ok (.getfield 29, 3) := by decide +kernel
theorem dX9_next_64 : decode cX9_next 64 = .ok (.aload_n 0, 1) := by decide +kernel
theorem dX9_next_65 : decode cX9_next 65 = .ok (.getfield 26, 3) := by decide +kernel
theorem dX9_next_68 : decode cX9_next 68 = .ok (.if_icmp .lt 12, 3) := by decide +kernel
theorem dX9_next_71 : decode cX9_next 71 = .ok (.aload_n 0, 1) := by decide +kernel
theorem dX9_next_72 : decode cX9_next 72 = .ok (.bipush 32, 2) := by decide +kernel
theorem dX9_next_74 : decode cX9_next 74 = .ok (.putfield 35, 3) := by decide +kernel
theorem dX9_next_77 : decode cX9_next 77 = .ok (.goto 51, 3) := by decide +kernel
theorem dX9_next_80 : decode cX9_next 80 = .ok (.aload_n 0, 1) := by decide +kernel
theorem dX9_next_81 : decode cX9_next 81 = .ok (.getfield 9, 3) := by decide +kernel
theorem dX9_next_84 : decode cX9_next 84 = .ok (.aload_n 0, 1) := by decide +kernel
theorem dX9_next_85 : decode cX9_next 85 = .ok (.getfield 29, 3) := by decide +kernel
theorem dX9_next_88 : decode cX9_next 88 = .ok (.iaload, 1) := by decide +kernel
theorem dX9_next_89 : decode cX9_next 89 = .ok (.invokestatic 38, 3) := by decide +kernel
theorem dX9_next_92 : decode cX9_next 92 = .ok (.ifCond .eq 10, 3) := by decide +kernel
theorem dX9_next_95 : decode cX9_next 95 = .ok (.aload_n 0, 1) := by decide +kernel
theorem dX9_next_96 : decode cX9_next 96 = .ok (.invokevirtual 42, 3) := by decide +kernel
theorem dX9_next_99 : decode cX9_next 99 = .ok (.goto 29, 3) := by decide +kernel
theorem dX9_next_102 : decode cX9_next 102 = .ok (.aload_n 0, 1) := by decide +kernel
theorem dX9_next_103 : decode cX9_next 103 = .ok (.getfield 9, 3) := by decide +kernel
theorem dX9_next_106 : decode cX9_next 106 = .ok (.aload_n 0, 1) := by decide +kernel
theorem dX9_next_107 : decode cX9_next 107 = .ok (.getfield 29, 3) := by decide +kernel
theorem dX9_next_110 : decode cX9_next 110 = .ok (.iaload, 1) := by decide +kernel
theorem dX9_next_111 : decode cX9_next 111 = .ok (.invokestatic 45, 3) := by decide +kernel
theorem dX9_next_114 : decode cX9_next 114 = .ok (.ifCond .eq 10, 3) := by decide +kernel
theorem dX9_next_117 : decode cX9_next 117 = .ok (.aload_n 0, 1) := by decide +kernel
theorem dX9_next_118 : decode cX9_next 118 = .ok (.invokevirtual 48, 3) := by decide +kernel
theorem dX9_next_121 : decode cX9_next 121 = .ok (.goto 7, 3) := by decide +kernel
theorem dX9_next_124 : decode cX9_next 124 = .ok (.aload_n 0, 1) := by decide +kernel
theorem dX9_next_125 : decode cX9_next 125 = .ok (.invokevirtual 51, 3) := by decide +kernel
theorem dX9_next_128 : decode cX9_next 128 = .ok (.return_, 1) := by decide +kernel
theorem dX9_isLetter_0 : decode cX9_isLetter 0 = .ok (.iload_n 0, 1) := by decide +kernel
theorem dX9_isLetter_1 : decode cX9_isLetter 1 = .ok (.bipush 97, 2) := by decide +kernel
theorem dX9_isLetter_3 : decode cX9_isLetter 3 = .ok (.if_icmp .lt 13, 3) := by decide +kernel
theorem dX9_isLetter_6 : decode cX9_isLetter 6 = .ok (.iload_n 0, 1) := by decide +kernel
theorem dX9_isLetter_7 : decode cX9_isLetter 7 = .ok (.bipush 122, 2) := by decide +kernel
theorem dX9_isLetter_9 : decode cX9_isLetter 9 = .ok (.if_icmp .gt 7, 3) := by decide +kernel
theorem dX9_isLetter_12 : decode cX9_isLetter 12 = .ok (.iconst 1, 1) := by decide +kernel
theorem dX9_isLetter_13 : decode cX9_isLetter 13 = .ok (.goto 4, 3) := by decide +kernel
theorem dX9_isLetter_16 : decode cX9_isLetter 16 = .ok (.iconst 0, 1) := by decide +kernel
theorem dX9_isLetter_17 : decode cX9_isLetter 17 = .ok (.ireturn, 1) := by decide +kernel
theorem dX9_isDigit_0 : decode cX9_isDigit 0 = .ok (.iload_n 0, 1) := by decide +kernel
theorem dX9_isDigit_1 : decode cX9_isDigit 1 = .ok (.bipush 48, 2) := by decide +kernel
theorem dX9_isDigit_3 : decode cX9_isDigit 3 = .ok (.if_icmp .lt 13, 3) := by decide +kernel
theorem dX9_isDigit_6 : decode cX9_isDigit 6 = .ok (.iload_n 0, 1) := by decide +kernel
theorem dX9_isDigit_7 : decode cX9_isDigit 7 = .ok (.bipush 57, 2) := by decide +kernel
theorem dX9_isDigit_9 : decode cX9_isDigit 9 = .ok (.if_icmp .gt 7, 3) := by decide +kernel
theorem dX9_isDigit_12 : decode cX9_isDigit 12 = .ok (.iconst 1, 1) := by decide +kernel
theorem dX9_isDigit_13 : decode cX9_isDigit 13 = .ok (.goto 4, 3) := by decide +kernel
theorem dX9_isDigit_16 : decode cX9_isDigit 16 = .ok (.iconst 0, 1) := by decide +kernel
theorem dX9_isDigit_17 : decode cX9_isDigit 17 = .ok (.ireturn, 1) := by decide +kernel
theorem dX9_readWord_0 : decode cX9_readWord 0 = .ok (.aload_n 0, 1) := by decide +kernel
theorem dX9_readWord_1 : decode cX9_readWord 1 = .ok (.getfield 29, 3) := by decide +kernel
theorem dX9_readWord_4 : decode cX9_readWord 4 = .ok (.aload_n 0, 1) := by decide +kernel
theorem dX9_readWord_5 : decode cX9_readWord 5 = .ok (.getfield 26, 3) := by decide +kernel
theorem dX9_readWord_8 : decode cX9_readWord 8 = .ok (.if_icmp .ge 31, 3) := by decide +kernel
theorem dX9_readWord_11 : decode cX9_readWord 11 = .ok (.aload_n 0, 1) := by decide +kernel
theorem dX9_readWord_12 : decode cX9_readWord 12 = .ok (.getfield 9, 3) := by decide +kernel
theorem dX9_readWord_15 : decode cX9_readWord 15 = .ok (.aload_n 0, 1) := by decide +kernel
theorem dX9_readWord_16 : decode cX9_readWord 16 = .ok (.getfield 29, 3) := by decide +kernel
theorem dX9_readWord_19 : decode cX9_readWord 19 = .ok (.iaload, 1) := by decide +kernel
theorem dX9_readWord_20 : decode cX9_readWord 20 = .ok (.invokestatic 38, 3) := by decide +kernel
theorem dX9_readWord_23 : decode cX9_readWord 23 = .ok (.ifCond .eq 16, 3) := by decide +kernel
theorem dX9_readWord_26 : decode cX9_readWord 26 = .ok (.aload_n 0, 1) := by decide +kernel
theorem dX9_readWord_27 : decode cX9_readWord 27 = .ok (.dup, 1) := by decide +kernel
theorem dX9_readWord_28 : decode cX9_readWord 28 = .ok (.getfield 29, 3) := by decide +kernel
theorem dX9_readWord_31 : decode cX9_readWord 31 = .ok (.iconst 1, 1) := by decide +kernel
theorem dX9_readWord_32 : decode cX9_readWord 32 = .ok (.iadd, 1) := by decide +kernel
theorem dX9_readWord_33 : decode cX9_readWord 33 = .ok (.putfield 29, 3) := by decide +kernel
theorem dX9_readWord_36 : decode cX9_readWord 36 = .ok (.goto (-36), 3) := by decide +kernel
theorem dX9_readWord_39 : decode cX9_readWord 39 = .ok (.aload_n 0, 1) := by decide +kernel
theorem dX9_readWord_40 : decode cX9_readWord 40 = .ok (.bipush 33, 2) := by decide +kernel
theorem dX9_readWord_42 : decode cX9_readWord 42 = .ok (.putfield 35, 3) := by decide +kernel
theorem dX9_readWord_45 : decode cX9_readWord 45 = .ok (.iconst 0, 1) := by decide +kernel
theorem dX9_readWord_46 : decode cX9_readWord 46 = .ok (.istore_n 1, 1) := by decide +kernel
theorem dX9_readWord_47 : decode cX9_readWord 47 = .ok (.iconst 0, 1) := by decide +kernel
theorem dX9_readWord_48 : decode cX9_readWord 48 = .ok (.istore_n 2, 1) := by decide +kernel
theorem dX9_readWord_49 : decode cX9_readWord 49 = .ok (.iconst 0, 1) := by decide +kernel
theorem dX9_readWord_50 : decode cX9_readWord 50 = .ok (.istore_n 3, 1) := by decide +kernel
theorem dX9_readWord_51 : decode cX9_readWord 51 = .ok (.iload_n 3, 1) := by decide +kernel
theorem dX9_readWord_52 : decode cX9_readWord 52 = .ok (.ldc 54, 2) := by decide +kernel
theorem dX9_readWord_54 : decode cX9_readWord 54 = .ok (.invokevirtual 56, 3) := by decide +kernel
theorem dX9_readWord_57 : decode cX9_readWord 57 = .ok (.if_icmp .ge 41, 3) := by decide +kernel
theorem dX9_readWord_60 : decode cX9_readWord 60 = .ok (.ldc 54, 2) := by decide +kernel
theorem dX9_readWord_62 : decode cX9_readWord 62 = .ok (.iload_n 3, 1) := by decide +kernel
theorem dX9_readWord_63 : decode cX9_readWord 63 = .ok (.invokevirtual 62, 3) := by decide +kernel
theorem dX9_readWord_66 : decode cX9_readWord 66 = .ok (.bipush 32, 2) := by decide +kernel
theorem dX9_readWord_68 : decode cX9_readWord 68 = .ok (.if_icmp .ne 24, 3) := by decide +kernel
theorem dX9_readWord_71 : decode cX9_readWord 71 = .ok (.aload_n 0, 1) := by decide +kernel
theorem dX9_readWord_72 : decode cX9_readWord 72 = .ok (.iload_n 2, 1) := by decide +kernel
theorem dX9_readWord_73 : decode cX9_readWord 73 = .ok (.iload_n 3, 1) := by decide +kernel
theorem dX9_readWord_74 : decode cX9_readWord 74 = .ok (.invokevirtual 66, 3) := by decide +kernel
theorem dX9_readWord_77 : decode cX9_readWord 77 = .ok (.ifCond .eq 8, 3) := by decide +kernel
theorem dX9_readWord_80 : decode cX9_readWord 80 = .ok (.aload_n 0, 1) := by decide +kernel
theorem dX9_readWord_81 : decode cX9_readWord 81 = .ok (.iload_n 1, 1) := by decide +kernel
theorem dX9_readWord_82 : decode cX9_readWord 82 = .ok (.putfield 35, 3) := by decide +kernel
theorem dX9_readWord_85 : decode cX9_readWord 85 = .ok (.iinc 1 1, 3) := by decide +kernel
theorem dX9_readWord_88 : decode cX9_readWord 88 = .ok (.iload_n 3, 1) := by decide +kernel
theorem dX9_readWord_89 : decode cX9_readWord 89 = .ok (.iconst 1, 1) := by decide +kernel
theorem dX9_readWord_90 : decode cX9_readWord 90 = .ok (.iadd, 1) := by decide +kernel
theorem dX9_readWord_91 : decode cX9_readWord 91 = .ok (.istore_n 2, 1) := by decide +kernel
theorem dX9_readWord_92 : decode cX9_readWord 92 = .ok (.iinc 3 1, 3) := by decide +kernel
theorem dX9_readWord_95 : decode cX9_readWord 95 = .ok (.goto (-44), 3) := by decide +kernel
theorem dX9_readWord_98 : decode cX9_readWord 98 = .ok (.return_, 1) := by decide +kernel
