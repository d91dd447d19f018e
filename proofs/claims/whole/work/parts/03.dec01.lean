theorem dX7_layPieces_58 : decode cX7_layPieces 58 = .ok (.istore_n 2, 1) := by decide +kernel
theorem dX7_layPieces_59 : decode cX7_layPieces 59 = .ok (.aload_n 0, 1) := by decide +kernel
theorem dX7_layPieces_60 : decode cX7_layPieces 60 = .ok (.getfield 7, 3) := by decide +kernel
theorem dX7_layPieces_63 : decode cX7_layPieces 63 = .ok (.iload 4, 2) := by decide +kernel
theorem dX7_layPieces_65 : decode cX7_layPieces 65 = .ok (.iaload, 1) := by decide +kernel
theorem dX7_layPieces_66 : decode cX7_layPieces 66 = .ok (.iconst 2, 1) := by decide +kernel
theorem dX7_layPieces_67 : decode cX7_layPieces 67 = .ok (.if_icmp .ne 59, 3) := by decide +kernel
theorem dX7_layPieces_70 : decode cX7_layPieces 70 = .ok (.aload_n 0, 1) := by decide +kernel
theorem dX7_layPieces_71 : decode cX7_layPieces 71 = .ok (.getfield 70, 3) := by decide +kernel
theorem dX7_layPieces_74 : decode cX7_layPieces 74 = .ok (.iload_n 3, 1) := by decide +kernel
theorem dX7_layPieces_75 : decode cX7_layPieces 75 = .ok (.aload_n 0, 1) := by decide +kernel
theorem dX7_layPieces_76 : decode cX7_layPieces 76 = .ok (.getfield 16, 3) := by decide +kernel
theorem dX7_layPieces_79 : decode cX7_layPieces 79 = .ok (.iload 4, 2) := by decide +kernel
theorem dX7_layPieces_81 : decode cX7_layPieces 81 = .ok (.iaload, 1) := by decide +kernel
theorem dX7_layPieces_82 : decode cX7_layPieces 82 = .ok (.iastore, 1) := by decide +kernel
theorem dX7_layPieces_83 : decode cX7_layPieces 83 = .ok (.aload_n 0, 1) := by decide +kernel
theorem dX7_layPieces_84 : decode cX7_layPieces 84 = .ok (.getfield 73, 3) := by decide +kernel
theorem dX7_layPieces_87 : decode cX7_layPieces 87 = .ok (.iload_n 3, 1) := by decide +kernel
theorem dX7_layPieces_88 : decode cX7_layPieces 88 = .ok (.iload 5, 2) := by decide +kernel
theorem dX7_layPieces_90 : decode cX7_layPieces 90 = .ok (.iconst 1, 1) := by decide +kernel
theorem dX7_layPieces_91 : decode cX7_layPieces 91 = .ok (.iadd, 1) := by decide +kernel
theorem dX7_layPieces_92 : decode cX7_layPieces 92 = .ok (.iastore, 1) := by decide +kernel
theorem dX7_layPieces_93 : decode cX7_layPieces 93 = .ok (.aload_n 0, 1) := by decide +kernel
theorem dX7_layPieces_94 : decode cX7_layPieces 94 = .ok (.getfield 70, 3) := by decide +kernel
theorem dX7_layPieces_97 : decode cX7_layPieces 97 = .ok (.iload_n 3, 1) := by decide +kernel
theorem dX7_layPieces_98 : decode cX7_layPieces 98 = .ok (.iconst 1, 1) := by decide +kernel
theorem dX7_layPieces_99 : decode cX7_layPieces 99 = .ok (.iadd, 1) := by decide +kernel
theorem dX7_layPieces_100 : decode cX7_layPieces 100 = .ok (.aload_n 0, 1) := by decide +kernel
theorem dX7_layPieces_101 : decode cX7_layPieces 101 = .ok (.getfield 13, 3) := by decide +kernel
theorem dX7_layPieces_104 : decode cX7_layPieces 104 = .ok (.iload 4, 2) := by decide +kernel
theorem dX7_layPieces_106 : decode cX7_layPieces 106 = .ok (.iaload, 1) := by decide +kernel
theorem dX7_layPieces_107 : decode cX7_layPieces 107 = .ok (.iastore, 1) := by decide +kernel
theorem dX7_layPieces_108 : decode cX7_layPieces 108 = .ok (.aload_n 0, 1) := by decide +kernel
theorem dX7_layPieces_109 : decode cX7_layPieces 109 = .ok (.getfield 73, 3) := by decide +kernel
theorem dX7_layPieces_112 : decode cX7_layPieces 112 = .ok (.iload_n 3, 1) := by decide +kernel
theorem dX7_layPieces_113 : decode cX7_layPieces 113 = .ok (.iconst 1, 1) := by decide +kernel
theorem dX7_layPieces_114 : decode cX7_layPieces 114 = .ok (.iadd, 1) := by decide +kernel
theorem dX7_layPieces_115 : decode cX7_layPieces 115 = .ok (.iload 5, 2) := by decide +kernel
theorem dX7_layPieces_117 : decode cX7_layPieces 117 = .ok (.iconst 1, 1) := by decide +kernel
theorem dX7_layPieces_118 : decode cX7_layPieces 118 = .ok (.iadd, 1) := by decide +kernel
theorem dX7_layPieces_119 : decode cX7_layPieces 119 = .ok (.iastore, 1) := by decide +kernel
theorem dX7_layPieces_120 : decode cX7_layPieces 120 = .ok (.iinc 3 2, 3) := by decide +kernel
theorem dX7_layPieces_123 : decode cX7_layPieces 123 = .ok (.goto 24, 3) := by decide +kernel
theorem dX7_layPieces_126 : decode cX7_layPieces 126 = .ok (.aload_n 0, 1) := by decide +kernel
theorem dX7_layPieces_127 : decode cX7_layPieces 127 = .ok (.getfield 67, 3) := by decide +kernel
theorem dX7_layPieces_130 : decode cX7_layPieces 130 = .ok (.aload_n 0, 1) := by decide +kernel
theorem dX7_layPieces_131 : decode cX7_layPieces 131 = .ok (.getfield 135, 3) := by decide +kernel
theorem dX7_layPieces_134 : decode cX7_layPieces 134 = .ok (.iload 4, 2) := by decide +kernel
theorem dX7_layPieces_136 : decode cX7_layPieces 136 = .ok (.iastore, 1) := by decide +kernel
theorem dX7_layPieces_137 : decode cX7_layPieces 137 = .ok (.aload_n 0, 1) := by decide +kernel
theorem dX7_layPieces_138 : decode cX7_layPieces 138 = .ok (.dup, 1) := by decide +kernel
theorem dX7_layPieces_139 : decode cX7_layPieces 139 = .ok (.getfield 135, 3) := by decide +kernel
theorem dX7_layPieces_142 : decode cX7_layPieces 142 = .ok (.iconst 1, 1) := by decide +kernel
theorem dX7_layPieces_143 : decode cX7_layPieces 143 = .ok (.iadd, 1) := by decide +kernel
theorem dX7_layPieces_144 : decode cX7_layPieces 144 = .ok (.putfield 135, 3) := by decide +kernel
theorem dX7_layPieces_147 : decode cX7_layPieces 147 = .ok (.goto (-124), 3) := by decide +kernel
theorem dX7_layPieces_150 : decode cX7_layPieces 150 = .ok (.iload_n 2, 1) := by decide +kernel
theorem dX7_layPieces_151 : decode cX7_layPieces 151 = .ok (.ireturn, 1) := by decide +kernel
theorem dX7_signOf_0 : decode cX7_signOf 0 = .ok (.aload_n 0, 1) := by decide +kernel
theorem dX7_signOf_1 : decode cX7_signOf 1 = .ok (.getfield 7, 3) := by decide +kernel
theorem dX7_signOf_4 : decode cX7_signOf 4 = .ok (.iload_n 1, 1) := by decide +kernel
theorem dX7_signOf_5 : decode cX7_signOf 5 = .ok (.iaload, 1) := by decide +kernel
theorem dX7_signOf_6 : decode cX7_signOf 6 = .ok (.iconst 1, 1) := by decide +kernel
theorem dX7_signOf_7 : decode cX7_signOf 7 = .ok (.if_icmp .ne 19, 3) := by decide +kernel
theorem dX7_signOf_10 : decode cX7_signOf 10 = .ok (.aload_n 0, 1) := by decide +kernel
theorem dX7_signOf_11 : decode cX7_signOf 11 = .ok (.getfield 31, 3) := by decide +kernel
theorem dX7_signOf_14 : decode cX7_signOf 14 = .ok (.aload_n 0, 1) := by decide +kernel
theorem dX7_signOf_15 : decode cX7_signOf 15 = .ok (.getfield 13, 3) := by decide +kernel
theorem dX7_signOf_18 : decode cX7_signOf 18 = .ok (.iload_n 1, 1) := by decide +kernel
theorem dX7_signOf_19 : decode cX7_signOf 19 = .ok (.iaload, 1) := by decide +kernel
theorem dX7_signOf_20 : decode cX7_signOf 20 = .ok (.iload_n 2, 1) := by decide +kernel
theorem dX7_signOf_21 : decode cX7_signOf 21 = .ok (.iadd, 1) := by decide +kernel
theorem dX7_signOf_22 : decode cX7_signOf 22 = .ok (.iaload, 1) := by decide +kernel
theorem dX7_signOf_23 : decode cX7_signOf 23 = .ok (.goto 28, 3) := by decide +kernel
theorem dX7_signOf_26 : decode cX7_signOf 26 = .ok (.aload_n 0, 1) := by decide +kernel
theorem dX7_signOf_27 : decode cX7_signOf 27 = .ok (.getfield 31, 3) := by decide +kernel
theorem dX7_signOf_30 : decode cX7_signOf 30 = .ok (.aload_n 0, 1) := by decide +kernel
theorem dX7_signOf_31 : decode cX7_signOf 31 = .ok (.getfield 13, 3) := by decide +kernel
theorem dX7_signOf_34 : decode cX7_signOf 34 = .ok (.aload_n 0, 1) := by decide +kernel
theorem dX7_signOf_35 : decode cX7_signOf 35 = .ok (.getfield 13, 3) := by decide +kernel
theorem dX7_signOf_38 : decode cX7_signOf 38 = .ok (.iload_n 1, 1) := by decide +kernel
theorem dX7_signOf_39 : decode cX7_signOf 39 = .ok (.iaload, 1) := by decide +kernel
theorem dX7_signOf_40 : decode cX7_signOf 40 = .ok (.iaload, 1) := by decide +kernel
theorem dX7_signOf_41 : decode cX7_signOf 41 = .ok (.aload_n 0, 1) := by decide +kernel
theorem dX7_signOf_42 : decode cX7_signOf 42 = .ok (.getfield 16, 3) := by decide +kernel
theorem dX7_signOf_45 : decode cX7_signOf 45 = .ok (.iload_n 1, 1) := by decide +kernel
theorem dX7_signOf_46 : decode cX7_signOf 46 = .ok (.iaload, 1) := by decide +kernel
theorem dX7_signOf_47 : decode cX7_signOf 47 = .ok (.iadd, 1) := by decide +kernel
theorem dX7_signOf_48 : decode cX7_signOf 48 = .ok (.iload_n 2, 1) := by decide +kernel
theorem dX7_signOf_49 : decode cX7_signOf 49 = .ok (.iadd, 1) := by decide +kernel
theorem dX7_signOf_50 : decode cX7_signOf 50 = .ok (.iaload, 1) := by decide +kernel
theorem dX7_signOf_51 : decode cX7_signOf 51 = .ok (.ireturn, 1) := by decide +kernel
theorem dX7_layText_0 : decode cX7_layText 0 = .ok (.aload_n 0, 1) := by decide +kernel
theorem dX7_layText_1 : decode cX7_layText 1 = .ok (.iload_n 1, 1) := by decide +kernel
theorem dX7_layText_2 : decode cX7_layText 2 = .ok (.invokevirtual 138, 3) := by decide +kernel
theorem dX7_layText_5 : decode cX7_layText 5 = .ok (.pop, 1) := by decide +kernel
theorem dX7_layText_6 : decode cX7_layText 6 = .ok (.iload_n 2, 1) := by decide +kernel
theorem dX7_layText_7 : decode cX7_layText 7 = .ok (.istore_n 3, 1) := by decide +kernel
theorem dX7_layText_8 : decode cX7_layText 8 = .ok (.iconst 0, 1) := by decide +kernel
theorem dX7_layText_9 : decode cX7_layText 9 = .ok (.istore 4, 2) := by decide +kernel
theorem dX7_layText_11 : decode cX7_layText 11 = .ok (.iload 4, 2) := by decide +kernel
theorem dX7_layText_13 : decode cX7_layText 13 = .ok (.aload_n 0, 1) := by decide +kernel
theorem dX7_layText_14 : decode cX7_layText 14 = .ok (.getfield 135, 3) := by decide +kernel
theorem dX7_layText_17 : decode cX7_layText 17 = .ok (.if_icmp .ge 57, 3) := by decide +kernel
theorem dX7_layText_20 : decode cX7_layText 20 = .ok (.iconst 0, 1) := by decide +kernel
theorem dX7_layText_21 : decode cX7_layText 21 = .ok (.istore 5, 2) := by decide +kernel
theorem dX7_layText_23 : decode cX7_layText 23 = .ok (.iload 5, 2) := by decide +kernel
theorem dX7_layText_25 : decode cX7_layText 25 = .ok (.aload_n 0, 1) := by decide +kernel
theorem dX7_layText_26 : decode cX7_layText 26 = .ok (.getfield 19, 3) := by decide +kernel
theorem dX7_layText_29 : decode cX7_layText 29 = .ok (.aload_n 0, 1) := by decide +kernel
theorem dX7_layText_30 : decode cX7_layText 30 = .ok (.getfield 67, 3) := by decide +kernel
theorem dX7_layText_33 : decode cX7_layText 33 = .ok (.iload 4, 2) := by decide +kernel
theorem dX7_layText_35 : decode cX7_layText 35 = .ok (.iaload, 1) := by decide +kernel
theorem dX7_layText_36 : decode cX7_layText 36 = .ok (.iaload, 1) := by decide +kernel
theorem dX7_layText_37 : decode cX7_layText 37 = .ok (.if_icmp .ge 31, 3) := by decide +kernel
theorem dX7_layText_40 : decode cX7_layText 40 = .ok (.aload_n 0, 1) := by decide +kernel
theorem dX7_layText_41 : decode cX7_layText 41 = .ok (.getfield 61, 3) := by decide +kernel
theorem dX7_layText_44 : decode cX7_layText 44 = .ok (.iload_n 3, 1) := by decide +kernel
theorem dX7_layText_45 : decode cX7_layText 45 = .ok (.aload_n 0, 1) := by decide +kernel
theorem dX7_layText_46 : decode cX7_layText 46 = .ok (.aload_n 0, 1) := by decide +kernel
theorem dX7_layText_47 : decode cX7_layText 47 = .ok (.getfield 67, 3) := by decide +kernel
theorem dX7_layText_50 : decode cX7_layText 50 = .ok (.iload 4, 2) := by decide +kernel
theorem dX7_layText_52 : decode cX7_layText 52 = .ok (.iaload, 1) := by decide +kernel
theorem dX7_layText_53 : decode cX7_layText 53 = .ok (.iload 5, 2) := by decide +kernel
theorem dX7_layText_55 : decode cX7_layText 55 = .ok (.invokevirtual 141, 3) := by decide +kernel
theorem dX7_layText_58 : decode cX7_layText 58 = .ok (.iastore, 1) := by decide +kernel
theorem dX7_layText_59 : decode cX7_layText 59 = .ok (.iinc 3 1, 3) := by decide +kernel
theorem dX7_layText_62 : decode cX7_layText 62 = .ok (.iinc 5 1, 3) := by decide +kernel
theorem dX7_layText_65 : decode cX7_layText 65 = .ok (.goto (-42), 3) := by decide +kernel
theorem dX7_layText_68 : decode cX7_layText 68 = .ok (.iinc 4 1, 3) := by decide +kernel
theorem dX7_layText_71 : decode cX7_layText 71 = .ok (.goto (-60), 3) := by decide +kernel
theorem dX7_layText_74 : decode cX7_layText 74 = .ok (.iload_n 3, 1) := by decide +kernel
theorem dX7_layText_75 : decode cX7_layText 75 = .ok (.iload_n 2, 1) := by decide +kernel
theorem dX7_layText_76 : decode cX7_layText 76 = .ok (.isub, 1) := by decide +kernel
theorem dX7_layText_77 : decode cX7_layText 77 = .ok (.ireturn, 1) := by decide +kernel
theorem dX7_push_0 : decode cX7_push 0 = .ok (.aload_n 0, 1) := by decide +kernel
theorem dX7_push_1 : decode cX7_push 1 = .ok (.getfield 76, 3) := by decide +kernel
theorem dX7_push_4 : decode cX7_push 4 = .ok (.aload_n 0, 1) := by decide +kernel
theorem dX7_push_5 : decode cX7_push 5 = .ok (.getfield 144, 3) := by decide +kernel
theorem dX7_push_8 : decode cX7_push 8 = .ok (.iload_n 1, 1) := by decide +kernel
theorem dX7_push_9 : decode cX7_push 9 = .ok (.iastore, 1) := by decide +kernel
theorem dX7_push_10 : decode cX7_push 10 = .ok (.aload_n 0, 1) := by decide +kernel
theorem dX7_push_11 : decode cX7_push 11 = .ok (.getfield 79, 3) := by decide +kernel
theorem dX7_push_14 : decode cX7_push 14 = .ok (.aload_n 0, 1) := by decide +kernel
theorem dX7_push_15 : decode cX7_push 15 = .ok (.getfield 144, 3) := by decide +kernel
theorem dX7_push_18 : decode cX7_push 18 = .ok (.iload_n 2, 1) := by decide +kernel
theorem dX7_push_19 : decode cX7_push 19 = .ok (.iastore, 1) := by decide +kernel
theorem dX7_push_20 : decode cX7_push 20 = .ok (.aload_n 0, 1) := by decide +kernel
theorem dX7_push_21 : decode cX7_push 21 = .ok (.getfield 82, 3) := by decide +kernel
theorem dX7_push_24 : decode cX7_push 24 = .ok (.aload_n 0, 1) := by decide +kernel
theorem dX7_push_25 : decode cX7_push 25 = .ok (.getfield 144, 3) := by decide +kernel
theorem dX7_push_28 : decode cX7_push 28 = .ok (.iload_n 3, 1) := by decide +kernel
theorem dX7_push_29 : decode cX7_push 29 = .ok (.bastore, 1) := by decide +kernel
theorem dX7_push_30 : decode cX7_push 30 = .ok (.aload_n 0, 1) := by decide +kernel
theorem dX7_push_31 : decode cX7_push 31 = .ok (.dup, 1) := by decide +kernel
theorem dX7_push_32 : decode cX7_push 32 = .ok (.getfield 144, 3) := by decide +kernel
theorem dX7_push_35 : decode cX7_push 35 = .ok (.iconst 1, 1) := by decide +kernel
theorem dX7_push_36 : decode cX7_push 36 = .ok (.iadd, 1) := by decide +kernel
theorem dX7_push_37 : decode cX7_push 37 = .ok (.putfield 144, 3) := by decide +kernel
theorem dX7_push_40 : decode cX7_push 40 = .ok (.return_, 1) := by decide +kernel
theorem dX7_balanced_0 : decode cX7_balanced 0 = .ok (.iconst 0, 1) := by decide +kernel
theorem dX7_balanced_1 : decode cX7_balanced 1 = .ok (.istore_n 1, 1) := by decide +kernel
theorem dX7_balanced_2 : decode cX7_balanced 2 = .ok (.aload_n 0, 1) := by decide +kernel
theorem dX7_balanced_3 : decode cX7_balanced 3 = .ok (.iconst 0, 1) := by decide +kernel
theorem dX7_balanced_4 : decode cX7_balanced 4 = .ok (.putfield 144, 3) := by decide +kernel
theorem dX7_balanced_7 : decode cX7_balanced 7 = .ok (.aload_n 0, 1) := by decide +kernel
theorem dX7_balanced_8 : decode cX7_balanced 8 = .ok (.iconst 0, 1) := by decide +kernel
theorem dX7_balanced_9 : decode cX7_balanced 9 = .ok (.aload_n 0, 1) := by decide +kernel
theorem dX7_balanced_10 : decode cX7_balanced 10 = .ok (.getfield 135, 3) := by decide +kernel
theorem dX7_balanced_13 : decode cX7_balanced 13 = .ok (.iconst 0, 1) := by decide +kernel
theorem dX7_balanced_14 : decode cX7_balanced 14 = .ok (.invokevirtual 147, 3) := by decide +kernel
theorem dX7_balanced_17 : decode cX7_balanced 17 = .ok (.aload_n 0, 1) := by decide +kernel
theorem dX7_balanced_18 : decode cX7_balanced 18 = .ok (.getfield 144, 3) := by decide +kernel
theorem dX7_balanced_21 : decode cX7_balanced 21 = .ok (.ifCond .le 137, 3) := by decide +kernel
theorem dX7_balanced_24 : decode cX7_balanced 24 = .ok (.aload_n 0, 1) := by decide +kernel
theorem dX7_balanced_25 : decode cX7_balanced 25 = .ok (.dup, 1) := by decide +kernel
theorem dX7_balanced_26 : decode cX7_balanced 26 = .ok (.getfield 144, 3) := by decide +kernel
theorem dX7_balanced_29 : decode cX7_balanced 29 = .ok (.iconst 1, 1) := by decide +kernel
theorem dX7_balanced_30 : decode cX7_balanced 30 = .ok (.isub, 1) := by decide +kernel
theorem dX7_balanced_31 : decode cX7_balanced 31 = .ok (.putfield 144, 3) := by decide +kernel
theorem dX7_balanced_34 : decode cX7_balanced 34 = .ok (.aload_n 0, 1) := by decide +kernel
theorem dX7_balanced_35 : decode cX7_balanced 35 = .ok (.getfield 76, 3) := by decide +kernel
theorem dX7_balanced_38 : decode cX7_balanced 38 = .ok (.aload_n 0, 1) := by decide +kernel
theorem dX7_balanced_39 : decode cX7_balanced 39 = .ok (.getfield 144, 3) := by decide +kernel
theorem dX7_balanced_42 : decode cX7_balanced 42 = .ok (.iaload, 1) := by decide +kernel
theorem dX7_balanced_43 : decode cX7_balanced 43 = .ok (.istore_n 2, 1) := by decide +kernel
theorem dX7_balanced_44 : decode cX7_balanced 44 = .ok (.aload_n 0, 1) := by decide +kernel
theorem dX7_balanced_45 : decode cX7_balanced 45 = .ok (.getfield 79, 3) := by decide +kernel
theorem dX7_balanced_48 : decode cX7_balanced 48 = .ok (.aload_n 0, 1) := by decide +kernel
theorem dX7_balanced_49 : decode cX7_balanced 49 = .ok (.getfield 144, 3) := by decide +kernel
theorem dX7_balanced_52 : decode cX7_balanced 52 = .ok (.iaload, 1) := by decide +kernel
theorem dX7_balanced_53 : decode cX7_balanced 53 = .ok (.istore_n 3, 1) := by decide +kernel
theorem dX7_balanced_54 : decode cX7_balanced 54 = .ok (.iload_n 3, 1) := by decide +kernel
theorem dX7_balanced_55 : decode cX7_balanced 55 = .ok (.iload_n 2, 1) := by decide +kernel
theorem dX7_balanced_56 : decode cX7_balanced 56 = .ok (.isub, 1) := by decide +kernel
theorem dX7_balanced_57 : decode cX7_balanced 57 = .ok (.iconst 1, 1) := by decide +kernel
theorem dX7_balanced_58 : decode cX7_balanced 58 = .ok (.if_icmp .ne 21, 3) := by decide +kernel
theorem dX7_balanced_61 : decode cX7_balanced 61 = .ok (.aload_n 0, 1) := by decide +kernel
theorem dX7_balanced_62 : decode cX7_balanced 62 = .ok (.getfield 85, 3) := by decide +kernel
theorem dX7_balanced_65 : decode cX7_balanced 65 = .ok (.iload_n 1, 1) := by decide +kernel
theorem dX7_balanced_66 : decode cX7_balanced 66 = .ok (.aload_n 0, 1) := by decide +kernel
theorem dX7_balanced_67 : decode cX7_balanced 67 = .ok (.getfield 67, 3) := by decide +kernel
theorem dX7_balanced_70 : decode cX7_balanced 70 = .ok (.iload_n 2, 1) := by decide +kernel
theorem dX7_balanced_71 : decode cX7_balanced 71 = .ok (.iaload, 1) := by decide +kernel
theorem dX7_balanced_72 : decode cX7_balanced 72 = .ok (.iastore, 1) := by decide +kernel
theorem dX7_balanced_73 : decode cX7_balanced 73 = .ok (.iinc 1 1, 3) := by decide +kernel
theorem dX7_balanced_76 : decode cX7_balanced 76 = .ok (.goto 79, 3) := by decide +kernel
theorem dX7_balanced_79 : decode cX7_balanced 79 = .ok (.aload_n 0, 1) := by decide +kernel
theorem dX7_balanced_80 : decode cX7_balanced 80 = .ok (.getfield 82, 3) := by decide +kernel
theorem dX7_balanced_83 : decode cX7_balanced 83 = .ok (.aload_n 0, 1) := by decide +kernel
theorem dX7_balanced_84 : decode cX7_balanced 84 = .ok (.getfield 144, 3) := by decide +kernel
theorem dX7_balanced_87 : decode cX7_balanced 87 = .ok (.baload, 1) := by decide +kernel
theorem dX7_balanced_88 : decode cX7_balanced 88 = .ok (.ifCond .eq 35, 3) := by decide +kernel
theorem dX7_balanced_91 : decode cX7_balanced 91 = .ok (.iinc 1 (-1), 3) := by decide +kernel
theorem dX7_balanced_94 : decode cX7_balanced 94 = .ok (.aload_n 0, 1) := by decide +kernel
theorem dX7_balanced_95 : decode cX7_balanced 95 = .ok (.getfield 85, 3) := by decide +kernel
theorem dX7_balanced_98 : decode cX7_balanced 98 = .ok (.iload_n 1, 1) := by decide +kernel
theorem dX7_balanced_99 : decode cX7_balanced 99 = .ok (.iconst 1, 1) := by decide +kernel
theorem dX7_balanced_100 : decode cX7_balanced 100 = .ok (.isub, 1) := by decide +kernel
theorem dX7_balanced_101 : decode cX7_balanced 101 = .ok (.aload_n 0, 1) := by decide +kernel
theorem dX7_balanced_102 : decode cX7_balanced 102 = .ok (.aload_n 0, 1) := by decide +kernel
theorem dX7_balanced_103 : decode cX7_balanced 103 = .ok (.getfield 85, 3) := by decide +kernel
theorem dX7_balanced_106 : decode cX7_balanced 106 = .ok (.iload_n 1, 1) := by decide +kernel
theorem dX7_balanced_107 : decode cX7_balanced 107 = .ok (.iconst 1, 1) := by decide +kernel
theorem dX7_balanced_108 : decode cX7_balanced 108 = .ok (.isub, 1) := by decide +kernel
theorem dX7_balanced_109 : decode cX7_balanced 109 = .ok (.iaload, 1) := by decide +kernel
theorem dX7_balanced_110 : decode cX7_balanced 110 = .ok (.aload_n 0, 1) := by decide +kernel
theorem dX7_balanced_111 : decode cX7_balanced 111 = .ok (.getfield 85, 3) := by decide +kernel
theorem dX7_balanced_114 : decode cX7_balanced 114 = .ok (.iload_n 1, 1) := by decide +kernel
theorem dX7_balanced_115 : decode cX7_balanced 115 = .ok (.iaload, 1) := by decide +kernel
theorem dX7_balanced_116 : decode cX7_balanced 116 = .ok (.invokevirtual 151, 3) := by decide +kernel
theorem dX7_balanced_119 : decode cX7_balanced 119 = .ok (.iastore, 1) := by decide +kernel
theorem dX7_balanced_120 : decode cX7_balanced 120 = .ok (.goto 35, 3) := by decide +kernel
theorem dX7_balanced_123 : decode cX7_balanced 123 = .ok (.iload_n 2, 1) := by decide +kernel
theorem dX7_balanced_124 : decode cX7_balanced 124 = .ok (.iload_n 3, 1) := by decide +kernel
theorem dX7_balanced_125 : decode cX7_balanced 125 = .ok (.iload_n 2, 1) := by decide +kernel
theorem dX7_balanced_126 : decode cX7_balanced 126 = .ok (.isub, 1) := by decide +kernel
theorem dX7_balanced_127 : decode cX7_balanced 127 = .ok (.iconst 2, 1) := by decide +kernel
theorem dX7_balanced_128 : decode cX7_balanced 128 = .ok (.idiv, 1) := by decide +kernel
theorem dX7_balanced_129 : decode cX7_balanced 129 = .ok (.iadd, 1) := by decide +kernel
theorem dX7_balanced_130 : decode cX7_balanced 130 = .ok (.istore 4, 2) := by decide +kernel
theorem dX7_balanced_132 : decode cX7_balanced 132 = .ok (.aload_n 0, 1) := by decide +kernel
theorem dX7_balanced_133 : decode cX7_balanced 133 = .ok (.iload_n 2, 1) := by decide +kernel
theorem dX7_balanced_134 : decode cX7_balanced 134 = .ok (.iload_n 3, 1) := by decide +kernel
theorem dX7_balanced_135 : decode cX7_balanced 135 = .ok (.iconst 1, 1) := by decide +kernel
theorem dX7_balanced_136 : decode cX7_balanced 136 = .ok (.invokevirtual 147, 3) := by decide +kernel
theorem dX7_balanced_139 : decode cX7_balanced 139 = .ok (.aload_n 0, 1) := by decide +kernel
theorem dX7_balanced_140 : decode cX7_balanced 140 = .ok (.iload 4, 2) := by decide +kernel
theorem dX7_balanced_142 : decode cX7_balanced 142 = .ok (.iload_n 3, 1) := by decide +kernel
theorem dX7_balanced_143 : decode cX7_balanced 143 = .ok (.iconst 0, 1) := by decide +kernel
theorem dX7_balanced_144 : decode cX7_balanced 144 = .ok (.invokevirtual 147, 3) := by decide +kernel
theorem dX7_balanced_147 : decode cX7_balanced 147 = .ok (.aload_n 0, 1) := by decide +kernel
theorem dX7_balanced_148 : decode cX7_balanced 148 = .ok (.iload_n 2, 1) := by decide +kernel
theorem dX7_balanced_149 : decode cX7_balanced 149 = .ok (.iload 4, 2) := by decide +kernel
theorem dX7_balanced_151 : decode cX7_balanced 151 = .ok (.iconst 0, 1) := by decide +kernel
theorem dX7_balanced_152 : decode cX7_balanced 152 = .ok (.invokevirtual 147, 3) := by decide +kernel
theorem dX7_balanced_155 : decode cX7_balanced 155 = .ok (.goto (-138), 3) := by decide +kernel
theorem dX7_balanced_158 : decode cX7_balanced 158 = .ok (.aload_n 0, 1) := by decide +kernel
theorem dX7_balanced_159 : decode cX7_balanced 159 = .ok (.getfield 85, 3) := by decide +kernel
theorem dX7_balanced_162 : decode cX7_balanced 162 = .ok (.iconst 0, 1) := by decide +kernel
theorem dX7_balanced_163 : decode cX7_balanced 163 = .ok (.iaload, 1) := by decide +kernel
theorem dX7_balanced_164 : decode cX7_balanced 164 = .ok (.ireturn, 1) := by decide +kernel
theorem dX7_joined_0 : decode cX7_joined 0 = .ok (.aload_n 0, 1) := by decide +kernel
theorem dX7_joined_1 : decode cX7_joined 1 = .ok (.getfield 19, 3) := by decide +kernel
theorem dX7_joined_4 : decode cX7_joined 4 = .ok (.iload_n 2, 1) := by decide +kernel
theorem dX7_joined_5 : decode cX7_joined 5 = .ok (.iaload, 1) := by decide +kernel
theorem dX7_joined_6 : decode cX7_joined 6 = .ok (.ifCond .ne 5, 3) := by decide +kernel
theorem dX7_joined_9 : decode cX7_joined 9 = .ok (.iload_n 1, 1) := by decide +kernel
theorem dX7_joined_10 : decode cX7_joined 10 = .ok (.ireturn, 1) := by decide +kernel
theorem dX7_joined_11 : decode cX7_joined 11 = .ok (.aload_n 0, 1) := by decide +kernel
theorem dX7_joined_12 : decode cX7_joined 12 = .ok (.getfield 19, 3) := by decide +kernel
theorem dX7_joined_15 : decode cX7_joined 15 = .ok (.iload_n 1, 1) := by decide +kernel
theorem dX7_joined_16 : decode cX7_joined 16 = .ok (.iaload, 1) := by decide +kernel
theorem dX7_joined_17 : decode cX7_joined 17 = .ok (.ifCond .ne 5, 3) := by decide +kernel
theorem dX7_joined_20 : decode cX7_joined 20 = .ok (.iload_n 2, 1) := by decide +kernel
theorem dX7_joined_21 : decode cX7_joined 21 = .ok (.ireturn, 1) := by decide +kernel
theorem dX7_joined_22 : decode cX7_joined 22 = .ok (.aload_n 0, 1) := by decide +kernel
theorem dX7_joined_23 : decode cX7_joined 23 = .ok (.getfield 19, 3) := by decide +kernel
theorem dX7_joined_26 : decode cX7_joined 26 = .ok (.iload_n 1, 1) := by decide +kernel
theorem dX7_joined_27 : decode cX7_joined 27 = .ok (.iaload, 1) := by decide +kernel
theorem dX7_joined_28 : decode cX7_joined 28 = .ok (.aload_n 0, 1) := by decide +kernel
theorem dX7_joined_29 : decode cX7_joined 29 = .ok (.getfield 19, 3) := by decide +kernel
theorem dX7_joined_32 : decode cX7_joined 32 = .ok (.iload_n 2, 1) := by decide +kernel
theorem dX7_joined_33 : decode cX7_joined 33 = .ok (.iaload, 1) := by decide +kernel
theorem dX7_joined_34 : decode cX7_joined 34 = .ok (.iadd, 1) := by decide +kernel
theorem dX7_joined_35 : decode cX7_joined 35 = .ok (.aload_n 0, 1) := by decide +kernel
theorem dX7_joined_36 : decode cX7_joined 36 = .ok (.getfield 52, 3) := by decide +kernel
theorem dX7_joined_39 : decode cX7_joined 39 = .ok (.if_icmp .gt 23, 3) := by decide +kernel
theorem dX7_joined_42 : decode cX7_joined 42 = .ok (.aload_n 0, 1) := by decide +kernel
theorem dX7_joined_43 : decode cX7_joined 43 = .ok (.iload_n 1, 1) := by decide +kernel
theorem dX7_joined_44 : decode cX7_joined 44 = .ok (.iconst 0, 1) := by decide +kernel
theorem dX7_joined_45 : decode cX7_joined 45 = .ok (.invokevirtual 154, 3) := by decide +kernel
theorem dX7_joined_48 : decode cX7_joined 48 = .ok (.istore_n 3, 1) := by decide +kernel
theorem dX7_joined_49 : decode cX7_joined 49 = .ok (.aload_n 0, 1) := by decide +kernel
theorem dX7_joined_50 : decode cX7_joined 50 = .ok (.iload_n 3, 1) := by decide +kernel
theorem dX7_joined_51 : decode cX7_joined 51 = .ok (.aload_n 0, 1) := by decide +kernel
theorem dX7_joined_52 : decode cX7_joined 52 = .ok (.iload_n 2, 1) := by decide +kernel
theorem dX7_joined_53 : decode cX7_joined 53 = .ok (.iload_n 3, 1) := by decide +kernel
theorem dX7_joined_54 : decode cX7_joined 54 = .ok (.invokevirtual 154, 3) := by decide +kernel
theorem dX7_joined_57 : decode cX7_joined 57 = .ok (.iadd, 1) := by decide +kernel
theorem dX7_joined_58 : decode cX7_joined 58 = .ok (.invokevirtual 100, 3) := by decide +kernel
theorem dX7_joined_61 : decode cX7_joined 61 = .ok (.ireturn, 1) := by decide +kernel
theorem dX7_joined_62 : decode cX7_joined 62 = .ok (.aload_n 0, 1) := by decide +kernel
theorem dX7_joined_63 : decode cX7_joined 63 = .ok (.iload_n 1, 1) := by decide +kernel
theorem dX7_joined_64 : decode cX7_joined 64 = .ok (.iload_n 2, 1) := by decide +kernel
theorem dX7_joined_65 : decode cX7_joined 65 = .ok (.invokevirtual 151, 3) := by decide +kernel
theorem dX7_joined_68 : decode cX7_joined 68 = .ok (.istore_n 3, 1) := by decide +kernel
theorem dX7_joined_69 : decode cX7_joined 69 = .ok (.aload_n 0, 1) := by decide +kernel
theorem dX7_joined_70 : decode cX7_joined 70 = .ok (.iload_n 3, 1) := by decide +kernel
theorem dX7_joined_71 : decode cX7_joined 71 = .ok (.invokevirtual 138, 3) := by decide +kernel
theorem dX7_joined_74 : decode cX7_joined 74 = .ok (.aload_n 0, 1) := by decide +kernel
theorem dX7_joined_75 : decode cX7_joined 75 = .ok (.getfield 55, 3) := by decide +kernel
theorem dX7_joined_78 : decode cX7_joined 78 = .ok (.if_icmp .le 10, 3) := by decide +kernel
theorem dX7_joined_81 : decode cX7_joined 81 = .ok (.aload_n 0, 1) := by decide +kernel
theorem dX7_joined_82 : decode cX7_joined 82 = .ok (.invokevirtual 157, 3) := by decide +kernel
theorem dX7_joined_85 : decode cX7_joined 85 = .ok (.goto 4, 3) := by decide +kernel
theorem dX7_joined_88 : decode cX7_joined 88 = .ok (.iload_n 3, 1) := by decide +kernel
theorem dX7_joined_89 : decode cX7_joined 89 = .ok (.ireturn, 1) := by decide +kernel
theorem dX7_toCut_0 : decode cX7_toCut 0 = .ok (.aload_n 0, 1) := by decide +kernel
theorem dX7_toCut_1 : decode cX7_toCut 1 = .ok (.getfield 88, 3) := by decide +kernel
theorem dX7_toCut_4 : decode cX7_toCut 4 = .ok (.aload_n 0, 1) := by decide +kernel
theorem dX7_toCut_5 : decode cX7_toCut 5 = .ok (.getfield 161, 3) := by decide +kernel
theorem dX7_toCut_8 : decode cX7_toCut 8 = .ok (.iload_n 1, 1) := by decide +kernel
theorem dX7_toCut_9 : decode cX7_toCut 9 = .ok (.iastore, 1) := by decide +kernel
theorem dX7_toCut_10 : decode cX7_toCut 10 = .ok (.aload_n 0, 1) := by decide +kernel
theorem dX7_toCut_11 : decode cX7_toCut 11 = .ok (.getfield 91, 3) := by decide +kernel
theorem dX7_toCut_14 : decode cX7_toCut 14 = .ok (.aload_n 0, 1) := by decide +kernel
theorem dX7_toCut_15 : decode cX7_toCut 15 = .ok (.getfield 161, 3) := by decide +kernel
theorem dX7_toCut_18 : decode cX7_toCut 18 = .ok (.iload_n 2, 1) := by decide +kernel
theorem dX7_toCut_19 : decode cX7_toCut 19 = .ok (.iastore, 1) := by decide +kernel
theorem dX7_toCut_20 : decode cX7_toCut 20 = .ok (.aload_n 0, 1) := by decide +kernel
theorem dX7_toCut_21 : decode cX7_toCut 21 = .ok (.getfield 94, 3) := by decide +kernel
theorem dX7_toCut_24 : decode cX7_toCut 24 = .ok (.aload_n 0, 1) := by decide +kernel
theorem dX7_toCut_25 : decode cX7_toCut 25 = .ok (.getfield 161, 3) := by decide +kernel
theorem dX7_toCut_28 : decode cX7_toCut 28 = .ok (.iload_n 3, 1) := by decide +kernel
theorem dX7_toCut_29 : decode cX7_toCut 29 = .ok (.iastore, 1) := by decide +kernel
theorem dX7_toCut_30 : decode cX7_toCut 30 = .ok (.aload_n 0, 1) := by decide +kernel
theorem dX7_toCut_31 : decode cX7_toCut 31 = .ok (.dup, 1) := by decide +kernel
theorem dX7_toCut_32 : decode cX7_toCut 32 = .ok (.getfield 161, 3) := by decide +kernel
theorem dX7_toCut_35 : decode cX7_toCut 35 = .ok (.iconst 1, 1) := by decide +kernel
theorem dX7_toCut_36 : decode cX7_toCut 36 = .ok (.iadd, 1) := by decide +kernel
theorem dX7_toCut_37 : decode cX7_toCut 37 = .ok (.putfield 161, 3) := by decide +kernel
theorem dX7_toCut_40 : decode cX7_toCut 40 = .ok (.return_, 1) := by decide +kernel
theorem dX7_cutLeaf_0 : decode cX7_cutLeaf 0 = .ok (.iload_n 3, 1) := by decide +kernel
theorem dX7_cutLeaf_1 : decode cX7_cutLeaf 1 = .ok (.aload_n 0, 1) := by decide +kernel
theorem dX7_cutLeaf_2 : decode cX7_cutLeaf 2 = .ok (.getfield 58, 3) := by decide +kernel
theorem dX7_cutLeaf_5 : decode cX7_cutLeaf 5 = .ok (.imul, 1) := by decide +kernel
theorem dX7_cutLeaf_6 : decode cX7_cutLeaf 6 = .ok (.aload_n 0, 1) := by decide +kernel
theorem dX7_cutLeaf_7 : decode cX7_cutLeaf 7 = .ok (.getfield 19, 3) := by decide +kernel
theorem dX7_cutLeaf_10 : decode cX7_cutLeaf 10 = .ok (.iload_n 1, 1) := by decide +kernel
theorem dX7_cutLeaf_11 : decode cX7_cutLeaf 11 = .ok (.iaload, 1) := by decide +kernel
theorem dX7_cutLeaf_12 : decode cX7_cutLeaf 12 = .ok (.if_icmp .lt 12, 3) := by decide +kernel
theorem dX7_cutLeaf_15 : decode cX7_cutLeaf 15 = .ok (.aload_n 0, 1) := by decide +kernel
theorem dX7_cutLeaf_16 : decode cX7_cutLeaf 16 = .ok (.iconst 3, 1) := by decide +kernel
theorem dX7_cutLeaf_17 : decode cX7_cutLeaf 17 = .ok (.iload_n 1, 1) := by decide +kernel
theorem dX7_cutLeaf_18 : decode cX7_cutLeaf 18 = .ok (.iload_n 2, 1) := by decide +kernel
theorem dX7_cutLeaf_19 : decode cX7_cutLeaf 19 = .ok (.iload_n 3, 1) := by decide +kernel
theorem dX7_cutLeaf_20 : decode cX7_cutLeaf 20 = .ok (.invokevirtual 114, 3) := by decide +kernel
theorem dX7_cutLeaf_23 : decode cX7_cutLeaf 23 = .ok (.ireturn, 1) := by decide +kernel
theorem dX7_cutLeaf_24 : decode cX7_cutLeaf 24 = .ok (.iconst 0, 1) := by decide +kernel
theorem dX7_cutLeaf_25 : decode cX7_cutLeaf 25 = .ok (.istore 4, 2) := by decide +kernel
theorem dX7_cutLeaf_27 : decode cX7_cutLeaf 27 = .ok (.iload 4, 2) := by decide +kernel
theorem dX7_cutLeaf_29 : decode cX7_cutLeaf 29 = .ok (.iload_n 3, 1) := by decide +kernel
theorem dX7_cutLeaf_30 : decode cX7_cutLeaf 30 = .ok (.if_icmp .ge 32, 3) := by decide +kernel
theorem dX7_cutLeaf_33 : decode cX7_cutLeaf 33 = .ok (.aload_n 0, 1) := by decide +kernel
theorem dX7_cutLeaf_34 : decode cX7_cutLeaf 34 = .ok (.getfield 61, 3) := by decide +kernel
theorem dX7_cutLeaf_37 : decode cX7_cutLeaf 37 = .ok (.iload 4, 2) := by decide +kernel
theorem dX7_cutLeaf_39 : decode cX7_cutLeaf 39 = .ok (.aload_n 0, 1) := by decide +kernel
theorem dX7_cutLeaf_40 : decode cX7_cutLeaf 40 = .ok (.getfield 31, 3) := by decide +kernel
theorem dX7_cutLeaf_43 : decode cX7_cutLeaf 43 = .ok (.aload_n 0, 1) := by decide +kernel
theorem dX7_cutLeaf_44 : decode cX7_cutLeaf 44 = .ok (.getfield 13, 3) := by decide +kernel
theorem dX7_cutLeaf_47 : decode cX7_cutLeaf 47 = .ok (.iload_n 1, 1) := by decide +kernel
theorem dX7_cutLeaf_48 : decode cX7_cutLeaf 48 = .ok (.iaload, 1) := by decide +kernel
theorem dX7_cutLeaf_49 : decode cX7_cutLeaf 49 = .ok (.iload_n 2, 1) := by decide +kernel
theorem dX7_cutLeaf_50 : decode cX7_cutLeaf 50 = .ok (.iadd, 1) := by decide +kernel
theorem dX7_cutLeaf_51 : decode cX7_cutLeaf 51 = .ok (.iload 4, 2) := by decide +kernel
theorem dX7_cutLeaf_53 : decode cX7_cutLeaf 53 = .ok (.iadd, 1) := by decide +kernel
theorem dX7_cutLeaf_54 : decode cX7_cutLeaf 54 = .ok (.iaload, 1) := by decide +kernel
theorem dX7_cutLeaf_55 : decode cX7_cutLeaf 55 = .ok (.iastore, 1) := by decide +kernel
theorem dX7_cutLeaf_56 : decode cX7_cutLeaf 56 = .ok (.iinc 4 1, 3) := by decide +kernel
theorem dX7_cutLeaf_59 : decode cX7_cutLeaf 59 = .ok (.goto (-32), 3) := by decide +kernel
theorem dX7_cutLeaf_62 : decode cX7_cutLeaf 62 = .ok (.aload_n 0, 1) := by decide +kernel
theorem dX7_cutLeaf_63 : decode cX7_cutLeaf 63 = .ok (.iload_n 3, 1) := by decide +kernel
theorem dX7_cutLeaf_64 : decode cX7_cutLeaf 64 = .ok (.invokevirtual 100, 3) := by decide +kernel
theorem dX7_cutLeaf_67 : decode cX7_cutLeaf 67 = .ok (.ireturn, 1) := by decide +kernel
theorem dX7_cutOne_0 : decode cX7_cutOne 0 = .ok (.iload_n 3, 1) := by decide +kernel
theorem dX7_cutOne_1 : decode cX7_cutOne 1 = .ok (.ifCond .ne 20, 3) := by decide +kernel
theorem dX7_cutOne_4 : decode cX7_cutOne 4 = .ok (.aload_n 0, 1) := by decide +kernel
theorem dX7_cutOne_5 : decode cX7_cutOne 5 = .ok (.getfield 97, 3) := by decide +kernel
theorem dX7_cutOne_8 : decode cX7_cutOne 8 = .ok (.iload 4, 2) := by decide +kernel
theorem dX7_cutOne_10 : decode cX7_cutOne 10 = .ok (.aload_n 0, 1) := by decide +kernel
theorem dX7_cutOne_11 : decode cX7_cutOne 11 = .ok (.iconst 0, 1) := by decide +kernel
theorem dX7_cutOne_12 : decode cX7_cutOne 12 = .ok (.invokevirtual 100, 3) := by decide +kernel
theorem dX7_cutOne_15 : decode cX7_cutOne 15 = .ok (.iastore, 1) := by decide +kernel
theorem dX7_cutOne_16 : decode cX7_cutOne 16 = .ok (.iload 4, 2) := by decide +kernel
theorem dX7_cutOne_18 : decode cX7_cutOne 18 = .ok (.iconst 1, 1) := by decide +kernel
theorem dX7_cutOne_19 : decode cX7_cutOne 19 = .ok (.iadd, 1) := by decide +kernel
theorem dX7_cutOne_20 : decode cX7_cutOne 20 = .ok (.ireturn, 1) := by decide +kernel
theorem dX7_cutOne_21 : decode cX7_cutOne 21 = .ok (.iload_n 3, 1) := by decide +kernel
theorem dX7_cutOne_22 : decode cX7_cutOne 22 = .ok (.aload_n 0, 1) := by decide +kernel
theorem dX7_cutOne_23 : decode cX7_cutOne 23 = .ok (.getfield 19, 3) := by decide +kernel
theorem dX7_cutOne_26 : decode cX7_cutOne 26 = .ok (.iload_n 1, 1) := by decide +kernel
theorem dX7_cutOne_27 : decode cX7_cutOne 27 = .ok (.iaload, 1) := by decide +kernel
theorem dX7_cutOne_28 : decode cX7_cutOne 28 = .ok (.if_icmp .ne 16, 3) := by decide +kernel
theorem dX7_cutOne_31 : decode cX7_cutOne 31 = .ok (.aload_n 0, 1) := by decide +kernel
theorem dX7_cutOne_32 : decode cX7_cutOne 32 = .ok (.getfield 97, 3) := by decide +kernel
theorem dX7_cutOne_35 : decode cX7_cutOne 35 = .ok (.iload 4, 2) := by decide +kernel
theorem dX7_cutOne_37 : decode cX7_cutOne 37 = .ok (.iload_n 1, 1) := by decide +kernel
theorem dX7_cutOne_38 : decode cX7_cutOne 38 = .ok (.iastore, 1) := by decide +kernel
theorem dX7_cutOne_39 : decode cX7_cutOne 39 = .ok (.iload 4, 2) := by decide +kernel
theorem dX7_cutOne_41 : decode cX7_cutOne 41 = .ok (.iconst 1, 1) := by decide +kernel
theorem dX7_cutOne_42 : decode cX7_cutOne 42 = .ok (.iadd, 1) := by decide +kernel
theorem dX7_cutOne_43 : decode cX7_cutOne 43 = .ok (.ireturn, 1) := by decide +kernel
theorem dX7_cutOne_44 : decode cX7_cutOne 44 = .ok (.aload_n 0, 1) := by decide +kernel
theorem dX7_cutOne_45 : decode cX7_cutOne 45 = .ok (.getfield 7, 3) := by decide +kernel
theorem dX7_cutOne_48 : decode cX7_cutOne 48 = .ok (.iload_n 1, 1) := by decide +kernel
theorem dX7_cutOne_49 : decode cX7_cutOne 49 = .ok (.iaload, 1) := by decide +kernel
theorem dX7_cutOne_50 : decode cX7_cutOne 50 = .ok (.iconst 2, 1) := by decide +kernel
theorem dX7_cutOne_51 : decode cX7_cutOne 51 = .ok (.if_icmp .eq 54, 3) := by decide +kernel
theorem dX7_cutOne_54 : decode cX7_cutOne 54 = .ok (.aload_n 0, 1) := by decide +kernel
theorem dX7_cutOne_55 : decode cX7_cutOne 55 = .ok (.getfield 97, 3) := by decide +kernel
theorem dX7_cutOne_58 : decode cX7_cutOne 58 = .ok (.iload 4, 2) := by decide +kernel
theorem dX7_cutOne_60 : decode cX7_cutOne 60 = .ok (.aload_n 0, 1) := by decide +kernel
theorem dX7_cutOne_61 : decode cX7_cutOne 61 = .ok (.getfield 7, 3) := by decide +kernel
theorem dX7_cutOne_64 : decode cX7_cutOne 64 = .ok (.iload_n 1, 1) := by decide +kernel
theorem dX7_cutOne_65 : decode cX7_cutOne 65 = .ok (.iaload, 1) := by decide +kernel
theorem dX7_cutOne_66 : decode cX7_cutOne 66 = .ok (.iconst 1, 1) := by decide +kernel
theorem dX7_cutOne_67 : decode cX7_cutOne 67 = .ok (.if_icmp .ne 13, 3) := by decide +kernel
theorem dX7_cutOne_70 : decode cX7_cutOne 70 = .ok (.aload_n 0, 1) := by decide +kernel
theorem dX7_cutOne_71 : decode cX7_cutOne 71 = .ok (.iload_n 1, 1) := by decide +kernel
theorem dX7_cutOne_72 : decode cX7_cutOne 72 = .ok (.iload_n 2, 1) := by decide +kernel
theorem dX7_cutOne_73 : decode cX7_cutOne 73 = .ok (.iload_n 3, 1) := by decide +kernel
theorem dX7_cutOne_74 : decode cX7_cutOne 74 = .ok (.invokevirtual 164, 3) := by decide +kernel
theorem dX7_cutOne_77 : decode cX7_cutOne 77 = .ok (.goto 22, 3) := by decide +kernel
theorem dX7_cutOne_80 : decode cX7_cutOne 80 = .ok (.aload_n 0, 1) := by decide +kernel
theorem dX7_cutOne_81 : decode cX7_cutOne 81 = .ok (.aload_n 0, 1) := by decide +kernel
theorem dX7_cutOne_82 : decode cX7_cutOne 82 = .ok (.getfield 13, 3) := by decide +kernel
theorem dX7_cutOne_85 : decode cX7_cutOne 85 = .ok (.iload_n 1, 1) := by decide +kernel
theorem dX7_cutOne_86 : decode cX7_cutOne 86 = .ok (.iaload, 1) := by decide +kernel
theorem dX7_cutOne_87 : decode cX7_cutOne 87 = .ok (.aload_n 0, 1) := by decide +kernel
theorem dX7_cutOne_88 : decode cX7_cutOne 88 = .ok (.getfield 16, 3) := by decide +kernel
theorem dX7_cutOne_91 : decode cX7_cutOne 91 = .ok (.iload_n 1, 1) := by decide +kernel
theorem dX7_cutOne_92 : decode cX7_cutOne 92 = .ok (.iaload, 1) := by decide +kernel
theorem dX7_cutOne_93 : decode cX7_cutOne 93 = .ok (.iload_n 2, 1) := by decide +kernel
theorem dX7_cutOne_94 : decode cX7_cutOne 94 = .ok (.iadd, 1) := by decide +kernel
theorem dX7_cutOne_95 : decode cX7_cutOne 95 = .ok (.iload_n 3, 1) := by decide +kernel
theorem dX7_cutOne_96 : decode cX7_cutOne 96 = .ok (.invokevirtual 164, 3) := by decide +kernel
theorem dX7_cutOne_99 : decode cX7_cutOne 99 = .ok (.iastore, 1) := by decide +kernel
theorem dX7_cutOne_100 : decode cX7_cutOne 100 = .ok (.iload 4, 2) := by decide +kernel
theorem dX7_cutOne_102 : decode cX7_cutOne 102 = .ok (.iconst 1, 1) := by decide +kernel
theorem dX7_cutOne_103 : decode cX7_cutOne 103 = .ok (.iadd, 1) := by decide +kernel
theorem dX7_cutOne_104 : decode cX7_cutOne 104 = .ok (.ireturn, 1) := by decide +kernel
theorem dX7_cutOne_105 : decode cX7_cutOne 105 = .ok (.aload_n 0, 1) := by decide +kernel
theorem dX7_cutOne_106 : decode cX7_cutOne 106 = .ok (.getfield 19, 3) := by decide +kernel
theorem dX7_cutOne_109 : decode cX7_cutOne 109 = .ok (.aload_n 0, 1) := by decide +kernel
theorem dX7_cutOne_110 : decode cX7_cutOne 110 = .ok (.getfield 13, 3) := by decide +kernel
theorem dX7_cutOne_113 : decode cX7_cutOne 113 = .ok (.iload_n 1, 1) := by decide +kernel
theorem dX7_cutOne_114 : decode cX7_cutOne 114 = .ok (.iaload, 1) := by decide +kernel
theorem dX7_cutOne_115 : decode cX7_cutOne 115 = .ok (.iaload, 1) := by decide +kernel
theorem dX7_cutOne_116 : decode cX7_cutOne 116 = .ok (.istore 5, 2) := by decide +kernel
theorem dX7_cutOne_118 : decode cX7_cutOne 118 = .ok (.iload_n 2, 1) := by decide +kernel
theorem dX7_cutOne_119 : decode cX7_cutOne 119 = .ok (.iload_n 3, 1) := by decide +kernel
theorem dX7_cutOne_120 : decode cX7_cutOne 120 = .ok (.iadd, 1) := by decide +kernel
theorem dX7_cutOne_121 : decode cX7_cutOne 121 = .ok (.iload 5, 2) := by decide +kernel
theorem dX7_cutOne_123 : decode cX7_cutOne 123 = .ok (.if_icmp .gt 18, 3) := by decide +kernel
theorem dX7_cutOne_126 : decode cX7_cutOne 126 = .ok (.aload_n 0, 1) := by decide +kernel
theorem dX7_cutOne_127 : decode cX7_cutOne 127 = .ok (.aload_n 0, 1) := by decide +kernel
theorem dX7_cutOne_128 : decode cX7_cutOne 128 = .ok (.getfield 13, 3) := by decide +kernel
theorem dX7_cutOne_131 : decode cX7_cutOne 131 = .ok (.iload_n 1, 1) := by decide +kernel
theorem dX7_cutOne_132 : decode cX7_cutOne 132 = .ok (.iaload, 1) := by decide +kernel
theorem dX7_cutOne_133 : decode cX7_cutOne 133 = .ok (.iload_n 2, 1) := by decide +kernel
theorem dX7_cutOne_134 : decode cX7_cutOne 134 = .ok (.iload_n 3, 1) := by decide +kernel
theorem dX7_cutOne_135 : decode cX7_cutOne 135 = .ok (.invokevirtual 168, 3) := by decide +kernel
theorem dX7_cutOne_138 : decode cX7_cutOne 138 = .ok (.goto 68, 3) := by decide +kernel
theorem dX7_cutOne_141 : decode cX7_cutOne 141 = .ok (.iload_n 2, 1) := by decide +kernel
theorem dX7_cutOne_142 : decode cX7_cutOne 142 = .ok (.iload 5, 2) := by decide +kernel
theorem dX7_cutOne_144 : decode cX7_cutOne 144 = .ok (.if_icmp .lt 21, 3) := by decide +kernel
theorem dX7_cutOne_147 : decode cX7_cutOne 147 = .ok (.aload_n 0, 1) := by decide +kernel
theorem dX7_cutOne_148 : decode cX7_cutOne 148 = .ok (.aload_n 0, 1) := by decide +kernel
theorem dX7_cutOne_149 : decode cX7_cutOne 149 = .ok (.getfield 16, 3) := by decide +kernel
theorem dX7_cutOne_152 : decode cX7_cutOne 152 = .ok (.iload_n 1, 1) := by decide +kernel
theorem dX7_cutOne_153 : decode cX7_cutOne 153 = .ok (.iaload, 1) := by decide +kernel
theorem dX7_cutOne_154 : decode cX7_cutOne 154 = .ok (.iload_n 2, 1) := by decide +kernel
theorem dX7_cutOne_155 : decode cX7_cutOne 155 = .ok (.iload 5, 2) := by decide +kernel
theorem dX7_cutOne_157 : decode cX7_cutOne 157 = .ok (.isub, 1) := by decide +kernel
theorem dX7_cutOne_158 : decode cX7_cutOne 158 = .ok (.iload_n 3, 1) := by decide +kernel
theorem dX7_cutOne_159 : decode cX7_cutOne 159 = .ok (.invokevirtual 168, 3) := by decide +kernel
theorem dX7_cutOne_162 : decode cX7_cutOne 162 = .ok (.goto 44, 3) := by decide +kernel
theorem dX7_cutOne_165 : decode cX7_cutOne 165 = .ok (.aload_n 0, 1) := by decide +kernel
theorem dX7_cutOne_166 : decode cX7_cutOne 166 = .ok (.bipush (-6), 2) := by decide +kernel
theorem dX7_cutOne_168 : decode cX7_cutOne 168 = .ok (.iconst 0, 1) := by decide +kernel
theorem dX7_cutOne_169 : decode cX7_cutOne 169 = .ok (.bipush (-6), 2) := by decide +kernel
theorem dX7_cutOne_171 : decode cX7_cutOne 171 = .ok (.invokevirtual 168, 3) := by decide +kernel
theorem dX7_cutOne_174 : decode cX7_cutOne 174 = .ok (.aload_n 0, 1) := by decide +kernel
theorem dX7_cutOne_175 : decode cX7_cutOne 175 = .ok (.aload_n 0, 1) := by decide +kernel
theorem dX7_cutOne_176 : decode cX7_cutOne 176 = .ok (.getfield 16, 3) := by decide +kernel
theorem dX7_cutOne_179 : decode cX7_cutOne 179 = .ok (.iload_n 1, 1) := by decide +kernel
theorem dX7_cutOne_180 : decode cX7_cutOne 180 = .ok (.iaload, 1) := by decide +kernel
theorem dX7_cutOne_181 : decode cX7_cutOne 181 = .ok (.iconst 0, 1) := by decide +kernel
theorem dX7_cutOne_182 : decode cX7_cutOne 182 = .ok (.iload_n 2, 1) := by decide +kernel
theorem dX7_cutOne_183 : decode cX7_cutOne 183 = .ok (.iload_n 3, 1) := by decide +kernel
theorem dX7_cutOne_184 : decode cX7_cutOne 184 = .ok (.iadd, 1) := by decide +kernel
theorem dX7_cutOne_185 : decode cX7_cutOne 185 = .ok (.iload 5, 2) := by decide +kernel
theorem dX7_cutOne_187 : decode cX7_cutOne 187 = .ok (.isub, 1) := by decide +kernel
theorem dX7_cutOne_188 : decode cX7_cutOne 188 = .ok (.invokevirtual 168, 3) := by decide +kernel
theorem dX7_cutOne_191 : decode cX7_cutOne 191 = .ok (.aload_n 0, 1) := by decide +kernel
theorem dX7_cutOne_192 : decode cX7_cutOne 192 = .ok (.aload_n 0, 1) := by decide +kernel
theorem dX7_cutOne_193 : decode cX7_cutOne 193 = .ok (.getfield 13, 3) := by decide +kernel
theorem dX7_cutOne_196 : decode cX7_cutOne 196 = .ok (.iload_n 1, 1) := by decide +kernel
theorem dX7_cutOne_197 : decode cX7_cutOne 197 = .ok (.iaload, 1) := by decide +kernel
theorem dX7_cutOne_198 : decode cX7_cutOne 198 = .ok (.iload_n 2, 1) := by decide +kernel
theorem dX7_cutOne_199 : decode cX7_cutOne 199 = .ok (.iload 5, 2) := by decide +kernel
theorem dX7_cutOne_201 : decode cX7_cutOne 201 = .ok (.iload_n 2, 1) := by decide +kernel
theorem dX7_cutOne_202 : decode cX7_cutOne 202 = .ok (.isub, 1) := by decide +kernel
theorem dX7_cutOne_203 : decode cX7_cutOne 203 = .ok (.invokevirtual 168, 3) := by decide +kernel
theorem dX7_cutOne_206 : decode cX7_cutOne 206 = .ok (.iload 4, 2) := by decide +kernel
theorem dX7_cutOne_208 : decode cX7_cutOne 208 = .ok (.ireturn, 1) := by decide +kernel
theorem dX7_cutOut_0 : decode cX7_cutOut 0 = .ok (.iconst 0, 1) := by decide +kernel
theorem dX7_cutOut_1 : decode cX7_cutOut 1 = .ok (.istore 4, 2) := by decide +kernel
theorem dX7_cutOut_3 : decode cX7_cutOut 3 = .ok (.aload_n 0, 1) := by decide +kernel
theorem dX7_cutOut_4 : decode cX7_cutOut 4 = .ok (.iconst 0, 1) := by decide +kernel
theorem dX7_cutOut_5 : decode cX7_cutOut 5 = .ok (.putfield 161, 3) := by decide +kernel
theorem dX7_cutOut_8 : decode cX7_cutOut 8 = .ok (.aload_n 0, 1) := by decide +kernel
theorem dX7_cutOut_9 : decode cX7_cutOut 9 = .ok (.iload_n 1, 1) := by decide +kernel
theorem dX7_cutOut_10 : decode cX7_cutOut 10 = .ok (.iload_n 2, 1) := by decide +kernel
theorem dX7_cutOut_11 : decode cX7_cutOut 11 = .ok (.iload_n 3, 1) := by decide +kernel
theorem dX7_cutOut_12 : decode cX7_cutOut 12 = .ok (.invokevirtual 168, 3) := by decide +kernel
theorem dX7_cutOut_15 : decode cX7_cutOut 15 = .ok (.aload_n 0, 1) := by decide +kernel
theorem dX7_cutOut_16 : decode cX7_cutOut 16 = .ok (.getfield 161, 3) := by decide +kernel
theorem dX7_cutOut_19 : decode cX7_cutOut 19 = .ok (.ifCond .le 98, 3) := by decide +kernel
theorem dX7_cutOut_22 : decode cX7_cutOut 22 = .ok (.aload_n 0, 1) := by decide +kernel
theorem dX7_cutOut_23 : decode cX7_cutOut 23 = .ok (.dup, 1) := by decide +kernel
theorem dX7_cutOut_24 : decode cX7_cutOut 24 = .ok (.getfield 161, 3) := by decide +kernel
theorem dX7_cutOut_27 : decode cX7_cutOut 27 = .ok (.iconst 1, 1) := by decide +kernel
theorem dX7_cutOut_28 : decode cX7_cutOut 28 = .ok (.isub, 1) := by decide +kernel
theorem dX7_cutOut_29 : decode cX7_cutOut 29 = .ok (.putfield 161, 3) := by decide +kernel
theorem dX7_cutOut_32 : decode cX7_cutOut 32 = .ok (.aload_n 0, 1) := by decide +kernel
theorem dX7_cutOut_33 : decode cX7_cutOut 33 = .ok (.getfield 94, 3) := by decide +kernel
theorem dX7_cutOut_36 : decode cX7_cutOut 36 = .ok (.aload_n 0, 1) := by decide +kernel
theorem dX7_cutOut_37 : decode cX7_cutOut 37 = .ok (.getfield 161, 3) := by decide +kernel
theorem dX7_cutOut_40 : decode cX7_cutOut 40 = .ok (.iaload, 1) := by decide +kernel
theorem dX7_cutOut_41 : decode cX7_cutOut 41 = .ok (.ifCond .ge 38, 3) := by decide +kernel
theorem dX7_cutOut_44 : decode cX7_cutOut 44 = .ok (.iinc 4 (-1), 3) := by decide +kernel
theorem dX7_cutOut_47 : decode cX7_cutOut 47 = .ok (.aload_n 0, 1) := by decide +kernel
theorem dX7_cutOut_48 : decode cX7_cutOut 48 = .ok (.getfield 97, 3) := by decide +kernel
theorem dX7_cutOut_51 : decode cX7_cutOut 51 = .ok (.iload 4, 2) := by decide +kernel
theorem dX7_cutOut_53 : decode cX7_cutOut 53 = .ok (.iconst 1, 1) := by decide +kernel
theorem dX7_cutOut_54 : decode cX7_cutOut 54 = .ok (.isub, 1) := by decide +kernel
theorem dX7_cutOut_55 : decode cX7_cutOut 55 = .ok (.aload_n 0, 1) := by decide +kernel
theorem dX7_cutOut_56 : decode cX7_cutOut 56 = .ok (.aload_n 0, 1) := by decide +kernel
theorem dX7_cutOut_57 : decode cX7_cutOut 57 = .ok (.getfield 97, 3) := by decide +kernel
theorem dX7_cutOut_60 : decode cX7_cutOut 60 = .ok (.iload 4, 2) := by decide +kernel
theorem dX7_cutOut_62 : decode cX7_cutOut 62 = .ok (.iconst 1, 1) := by decide +kernel
theorem dX7_cutOut_63 : decode cX7_cutOut 63 = .ok (.isub, 1) := by decide +kernel
theorem dX7_cutOut_64 : decode cX7_cutOut 64 = .ok (.iaload, 1) := by decide +kernel
theorem dX7_cutOut_65 : decode cX7_cutOut 65 = .ok (.aload_n 0, 1) := by decide +kernel
theorem dX7_cutOut_66 : decode cX7_cutOut 66 = .ok (.getfield 97, 3) := by decide +kernel
theorem dX7_cutOut_69 : decode cX7_cutOut 69 = .ok (.iload 4, 2) := by decide +kernel
theorem dX7_cutOut_71 : decode cX7_cutOut 71 = .ok (.iaload, 1) := by decide +kernel
theorem dX7_cutOut_72 : decode cX7_cutOut 72 = .ok (.invokevirtual 172, 3) := by decide +kernel
theorem dX7_cutOut_75 : decode cX7_cutOut 75 = .ok (.iastore, 1) := by decide +kernel
theorem dX7_cutOut_76 : decode cX7_cutOut 76 = .ok (.goto (-61), 3) := by decide +kernel
theorem dX7_cutOut_79 : decode cX7_cutOut 79 = .ok (.aload_n 0, 1) := by decide +kernel
theorem dX7_cutOut_80 : decode cX7_cutOut 80 = .ok (.aload_n 0, 1) := by decide +kernel
theorem dX7_cutOut_81 : decode cX7_cutOut 81 = .ok (.getfield 88, 3) := by decide +kernel
theorem dX7_cutOut_84 : decode cX7_cutOut 84 = .ok (.aload_n 0, 1) := by decide +kernel
theorem dX7_cutOut_85 : decode cX7_cutOut 85 = .ok (.getfield 161, 3) := by decide +kernel
theorem dX7_cutOut_88 : decode cX7_cutOut 88 = .ok (.iaload, 1) := by decide +kernel
theorem dX7_cutOut_89 : decode cX7_cutOut 89 = .ok (.aload_n 0, 1) := by decide +kernel
theorem dX7_cutOut_90 : decode cX7_cutOut 90 = .ok (.getfield 91, 3) := by decide +kernel
theorem dX7_cutOut_93 : decode cX7_cutOut 93 = .ok (.aload_n 0, 1) := by decide +kernel
theorem dX7_cutOut_94 : decode cX7_cutOut 94 = .ok (.getfield 161, 3) := by decide +kernel
theorem dX7_cutOut_97 : decode cX7_cutOut 97 = .ok (.iaload, 1) := by decide +kernel
theorem dX7_cutOut_98 : decode cX7_cutOut 98 = .ok (.aload_n 0, 1) := by decide +kernel
theorem dX7_cutOut_99 : decode cX7_cutOut 99 = .ok (.getfield 94, 3) := by decide +kernel
theorem dX7_cutOut_102 : decode cX7_cutOut 102 = .ok (.aload_n 0, 1) := by decide +kernel
theorem dX7_cutOut_103 : decode cX7_cutOut 103 = .ok (.getfield 161, 3) := by decide +kernel
theorem dX7_cutOut_106 : decode cX7_cutOut 106 = .ok (.iaload, 1) := by decide +kernel
theorem dX7_cutOut_107 : decode cX7_cutOut 107 = .ok (.iload 4, 2) := by decide +kernel
theorem dX7_cutOut_109 : decode cX7_cutOut 109 = .ok (.invokevirtual 175, 3) := by decide +kernel
theorem dX7_cutOut_112 : decode cX7_cutOut 112 = .ok (.istore 4, 2) := by decide +kernel
theorem dX7_cutOut_114 : decode cX7_cutOut 114 = .ok (.goto (-99), 3) := by decide +kernel
theorem dX7_cutOut_117 : decode cX7_cutOut 117 = .ok (.aload_n 0, 1) := by decide +kernel
theorem dX7_cutOut_118 : decode cX7_cutOut 118 = .ok (.getfield 97, 3) := by decide +kernel
theorem dX7_cutOut_121 : decode cX7_cutOut 121 = .ok (.iconst 0, 1) := by decide +kernel
theorem dX7_cutOut_122 : decode cX7_cutOut 122 = .ok (.iaload, 1) := by decide +kernel
theorem dX7_cutOut_123 : decode cX7_cutOut 123 = .ok (.ireturn, 1) := by decide +kernel
theorem dX7_rule_0 : decode cX7_rule 0 = .ok (.iload_n 1, 1) := by decide +kernel
theorem dX7_rule_1 : decode cX7_rule 1 = .ok (.iconst 0, 1) := by decide +kernel
theorem dX7_rule_2 : decode cX7_rule 2 = .ok (.iconst 2, 1) := by decide +kernel
theorem dX7_rule_3 : decode cX7_rule 3 = .ok (.invokestatic 104, 3) := by decide +kernel
theorem dX7_rule_6 : decode cX7_rule 6 = .ok (.ifCond .eq 40, 3) := by decide +kernel
theorem dX7_rule_9 : decode cX7_rule 9 = .ok (.iload_n 2, 1) := by decide +kernel
theorem dX7_rule_10 : decode cX7_rule 10 = .ok (.iload_n 1, 1) := by decide +kernel
theorem dX7_rule_11 : decode cX7_rule 11 = .ok (.ifCond .ne 7, 3) := by decide +kernel
theorem dX7_rule_14 : decode cX7_rule 14 = .ok (.iconst 0, 1) := by decide +kernel
theorem dX7_rule_15 : decode cX7_rule 15 = .ok (.goto 4, 3) := by decide +kernel
theorem dX7_rule_18 : decode cX7_rule 18 = .ok (.iconst 1, 1) := by decide +kernel
theorem dX7_rule_19 : decode cX7_rule 19 = .ok (.iload_n 1, 1) := by decide +kernel
theorem dX7_rule_20 : decode cX7_rule 20 = .ok (.ifCond .ne 8, 3) := by decide +kernel
