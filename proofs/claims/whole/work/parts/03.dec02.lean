theorem dX7_rule_23 : decode cX7_rule 23 = .ok (.bipush 32, 2) := by decide +kernel
theorem dX7_rule_25 : decode cX7_rule 25 = .ok (.goto 15, 3) := by decide +kernel
theorem dX7_rule_28 : decode cX7_rule 28 = .ok (.iload_n 1, 1) := by decide +kernel
theorem dX7_rule_29 : decode cX7_rule 29 = .ok (.iconst 1, 1) := by decide +kernel
theorem dX7_rule_30 : decode cX7_rule 30 = .ok (.if_icmp .ne 8, 3) := by decide +kernel
theorem dX7_rule_33 : decode cX7_rule 33 = .ok (.bipush 12, 2) := by decide +kernel
theorem dX7_rule_35 : decode cX7_rule 35 = .ok (.goto 5, 3) := by decide +kernel
theorem dX7_rule_38 : decode cX7_rule 38 = .ok (.bipush 8, 2) := by decide +kernel
theorem dX7_rule_40 : decode cX7_rule 40 = .ok (.invokestatic 104, 3) := by decide +kernel
theorem dX7_rule_43 : decode cX7_rule 43 = .ok (.ifCond .ne 6, 3) := by decide +kernel
theorem dX7_rule_46 : decode cX7_rule 46 = .ok (.bipush (-2), 2) := by decide +kernel
theorem dX7_rule_48 : decode cX7_rule 48 = .ok (.ireturn, 1) := by decide +kernel
theorem dX7_rule_49 : decode cX7_rule 49 = .ok (.iload_n 1, 1) := by decide +kernel
theorem dX7_rule_50 : decode cX7_rule 50 = .ok (.ifCond .ne 10, 3) := by decide +kernel
theorem dX7_rule_53 : decode cX7_rule 53 = .ok (.aload_n 0, 1) := by decide +kernel
theorem dX7_rule_54 : decode cX7_rule 54 = .ok (.getfield 52, 3) := by decide +kernel
theorem dX7_rule_57 : decode cX7_rule 57 = .ok (.goto 19, 3) := by decide +kernel
theorem dX7_rule_60 : decode cX7_rule 60 = .ok (.iload_n 1, 1) := by decide +kernel
theorem dX7_rule_61 : decode cX7_rule 61 = .ok (.iconst 1, 1) := by decide +kernel
theorem dX7_rule_62 : decode cX7_rule 62 = .ok (.if_icmp .ne 10, 3) := by decide +kernel
theorem dX7_rule_65 : decode cX7_rule 65 = .ok (.aload_n 0, 1) := by decide +kernel
theorem dX7_rule_66 : decode cX7_rule 66 = .ok (.getfield 55, 3) := by decide +kernel
theorem dX7_rule_69 : decode cX7_rule 69 = .ok (.goto 7, 3) := by decide +kernel
theorem dX7_rule_72 : decode cX7_rule 72 = .ok (.aload_n 0, 1) := by decide +kernel
theorem dX7_rule_73 : decode cX7_rule 73 = .ok (.getfield 58, 3) := by decide +kernel
theorem dX7_rule_76 : decode cX7_rule 76 = .ok (.istore_n 3, 1) := by decide +kernel
theorem dX7_rule_77 : decode cX7_rule 77 = .ok (.aload_n 0, 1) := by decide +kernel
theorem dX7_rule_78 : decode cX7_rule 78 = .ok (.iload_n 1, 1) := by decide +kernel
theorem dX7_rule_79 : decode cX7_rule 79 = .ok (.ifCond .ne 7, 3) := by decide +kernel
theorem dX7_rule_82 : decode cX7_rule 82 = .ok (.iload_n 2, 1) := by decide +kernel
theorem dX7_rule_83 : decode cX7_rule 83 = .ok (.goto 7, 3) := by decide +kernel
theorem dX7_rule_86 : decode cX7_rule 86 = .ok (.aload_n 0, 1) := by decide +kernel
theorem dX7_rule_87 : decode cX7_rule 87 = .ok (.getfield 52, 3) := by decide +kernel
theorem dX7_rule_90 : decode cX7_rule 90 = .ok (.putfield 52, 3) := by decide +kernel
theorem dX7_rule_93 : decode cX7_rule 93 = .ok (.aload_n 0, 1) := by decide +kernel
theorem dX7_rule_94 : decode cX7_rule 94 = .ok (.iload_n 1, 1) := by decide +kernel
theorem dX7_rule_95 : decode cX7_rule 95 = .ok (.iconst 1, 1) := by decide +kernel
theorem dX7_rule_96 : decode cX7_rule 96 = .ok (.if_icmp .ne 7, 3) := by decide +kernel
theorem dX7_rule_99 : decode cX7_rule 99 = .ok (.iload_n 2, 1) := by decide +kernel
theorem dX7_rule_100 : decode cX7_rule 100 = .ok (.goto 7, 3) := by decide +kernel
theorem dX7_rule_103 : decode cX7_rule 103 = .ok (.aload_n 0, 1) := by decide +kernel
theorem dX7_rule_104 : decode cX7_rule 104 = .ok (.getfield 55, 3) := by decide +kernel
theorem dX7_rule_107 : decode cX7_rule 107 = .ok (.putfield 55, 3) := by decide +kernel
theorem dX7_rule_110 : decode cX7_rule 110 = .ok (.aload_n 0, 1) := by decide +kernel
theorem dX7_rule_111 : decode cX7_rule 111 = .ok (.iload_n 1, 1) := by decide +kernel
theorem dX7_rule_112 : decode cX7_rule 112 = .ok (.iconst 2, 1) := by decide +kernel
theorem dX7_rule_113 : decode cX7_rule 113 = .ok (.if_icmp .ne 7, 3) := by decide +kernel
theorem dX7_rule_116 : decode cX7_rule 116 = .ok (.iload_n 2, 1) := by decide +kernel
theorem dX7_rule_117 : decode cX7_rule 117 = .ok (.goto 7, 3) := by decide +kernel
theorem dX7_rule_120 : decode cX7_rule 120 = .ok (.aload_n 0, 1) := by decide +kernel
theorem dX7_rule_121 : decode cX7_rule 121 = .ok (.getfield 58, 3) := by decide +kernel
theorem dX7_rule_124 : decode cX7_rule 124 = .ok (.putfield 58, 3) := by decide +kernel
theorem dX7_rule_127 : decode cX7_rule 127 = .ok (.iload_n 3, 1) := by decide +kernel
theorem dX7_rule_128 : decode cX7_rule 128 = .ok (.ireturn, 1) := by decide +kernel
theorem dX7_say_0 : decode cX7_say 0 = .ok (.iload_n 1, 1) := by decide +kernel
theorem dX7_say_1 : decode cX7_say 1 = .ok (.iconst 1, 1) := by decide +kernel
theorem dX7_say_2 : decode cX7_say 2 = .ok (.sipush 9999, 3) := by decide +kernel
theorem dX7_say_5 : decode cX7_say 5 = .ok (.invokestatic 104, 3) := by decide +kernel
theorem dX7_say_8 : decode cX7_say 8 = .ok (.ifCond .ne 6, 3) := by decide +kernel
theorem dX7_say_11 : decode cX7_say 11 = .ok (.bipush (-2), 2) := by decide +kernel
theorem dX7_say_13 : decode cX7_say 13 = .ok (.ireturn, 1) := by decide +kernel
theorem dX7_say_14 : decode cX7_say 14 = .ok (.aload_n 0, 1) := by decide +kernel
theorem dX7_say_15 : decode cX7_say 15 = .ok (.getfield 178, 3) := by decide +kernel
theorem dX7_say_18 : decode cX7_say 18 = .ok (.bipush 40, 2) := by decide +kernel
theorem dX7_say_20 : decode cX7_say 20 = .ok (.if_icmp .ne 6, 3) := by decide +kernel
theorem dX7_say_23 : decode cX7_say 23 = .ok (.bipush (-4), 2) := by decide +kernel
theorem dX7_say_25 : decode cX7_say 25 = .ok (.ireturn, 1) := by decide +kernel
theorem dX7_say_26 : decode cX7_say 26 = .ok (.aload_n 0, 1) := by decide +kernel
theorem dX7_say_27 : decode cX7_say 27 = .ok (.getfield 49, 3) := by decide +kernel
theorem dX7_say_30 : decode cX7_say 30 = .ok (.aload_n 0, 1) := by decide +kernel
theorem dX7_say_31 : decode cX7_say 31 = .ok (.getfield 178, 3) := by decide +kernel
theorem dX7_say_34 : decode cX7_say 34 = .ok (.iload_n 1, 1) := by decide +kernel
theorem dX7_say_35 : decode cX7_say 35 = .ok (.iastore, 1) := by decide +kernel
theorem dX7_say_36 : decode cX7_say 36 = .ok (.aload_n 0, 1) := by decide +kernel
theorem dX7_say_37 : decode cX7_say 37 = .ok (.dup, 1) := by decide +kernel
theorem dX7_say_38 : decode cX7_say 38 = .ok (.getfield 178, 3) := by decide +kernel
theorem dX7_say_41 : decode cX7_say 41 = .ok (.iconst 1, 1) := by decide +kernel
theorem dX7_say_42 : decode cX7_say 42 = .ok (.iadd, 1) := by decide +kernel
theorem dX7_say_43 : decode cX7_say 43 = .ok (.putfield 178, 3) := by decide +kernel
theorem dX7_say_46 : decode cX7_say 46 = .ok (.aload_n 0, 1) := by decide +kernel
theorem dX7_say_47 : decode cX7_say 47 = .ok (.getfield 178, 3) := by decide +kernel
theorem dX7_say_50 : decode cX7_say 50 = .ok (.ireturn, 1) := by decide +kernel
theorem dX7_put_0 : decode cX7_put 0 = .ok (.iload_n 1, 1) := by decide +kernel
theorem dX7_put_1 : decode cX7_put 1 = .ok (.invokestatic 181, 3) := by decide +kernel
theorem dX7_put_4 : decode cX7_put 4 = .ok (.ifCond .ne 5, 3) := by decide +kernel
theorem dX7_put_7 : decode cX7_put 7 = .ok (.iconst (-1), 1) := by decide +kernel
theorem dX7_put_8 : decode cX7_put 8 = .ok (.ireturn, 1) := by decide +kernel
theorem dX7_put_9 : decode cX7_put 9 = .ok (.aload_n 0, 1) := by decide +kernel
theorem dX7_put_10 : decode cX7_put 10 = .ok (.invokevirtual 185, 3) := by decide +kernel
theorem dX7_put_13 : decode cX7_put 13 = .ok (.iconst 0, 1) := by decide +kernel
theorem dX7_put_14 : decode cX7_put 14 = .ok (.istore_n 2, 1) := by decide +kernel
theorem dX7_put_15 : decode cX7_put 15 = .ok (.iload_n 2, 1) := by decide +kernel
theorem dX7_put_16 : decode cX7_put 16 = .ok (.aload_n 0, 1) := by decide +kernel
theorem dX7_put_17 : decode cX7_put 17 = .ok (.getfield 178, 3) := by decide +kernel
theorem dX7_put_20 : decode cX7_put 20 = .ok (.if_icmp .ge 21, 3) := by decide +kernel
theorem dX7_put_23 : decode cX7_put 23 = .ok (.aload_n 0, 1) := by decide +kernel
theorem dX7_put_24 : decode cX7_put 24 = .ok (.getfield 61, 3) := by decide +kernel
theorem dX7_put_27 : decode cX7_put 27 = .ok (.iload_n 2, 1) := by decide +kernel
theorem dX7_put_28 : decode cX7_put 28 = .ok (.aload_n 0, 1) := by decide +kernel
theorem dX7_put_29 : decode cX7_put 29 = .ok (.getfield 49, 3) := by decide +kernel
theorem dX7_put_32 : decode cX7_put 32 = .ok (.iload_n 2, 1) := by decide +kernel
theorem dX7_put_33 : decode cX7_put 33 = .ok (.iaload, 1) := by decide +kernel
theorem dX7_put_34 : decode cX7_put 34 = .ok (.iastore, 1) := by decide +kernel
theorem dX7_put_35 : decode cX7_put 35 = .ok (.iinc 2 1, 3) := by decide +kernel
theorem dX7_put_38 : decode cX7_put 38 = .ok (.goto (-23), 3) := by decide +kernel
theorem dX7_put_41 : decode cX7_put 41 = .ok (.aload_n 0, 1) := by decide +kernel
theorem dX7_put_42 : decode cX7_put 42 = .ok (.getfield 34, 3) := by decide +kernel
theorem dX7_put_45 : decode cX7_put 45 = .ok (.iload_n 1, 1) := by decide +kernel
theorem dX7_put_46 : decode cX7_put 46 = .ok (.aload_n 0, 1) := by decide +kernel
theorem dX7_put_47 : decode cX7_put 47 = .ok (.aload_n 0, 1) := by decide +kernel
theorem dX7_put_48 : decode cX7_put 48 = .ok (.getfield 178, 3) := by decide +kernel
theorem dX7_put_51 : decode cX7_put 51 = .ok (.invokevirtual 100, 3) := by decide +kernel
theorem dX7_put_54 : decode cX7_put 54 = .ok (.iastore, 1) := by decide +kernel
theorem dX7_put_55 : decode cX7_put 55 = .ok (.aload_n 0, 1) := by decide +kernel
theorem dX7_put_56 : decode cX7_put 56 = .ok (.iconst 0, 1) := by decide +kernel
theorem dX7_put_57 : decode cX7_put 57 = .ok (.putfield 178, 3) := by decide +kernel
theorem dX7_put_60 : decode cX7_put 60 = .ok (.aload_n 0, 1) := by decide +kernel
theorem dX7_put_61 : decode cX7_put 61 = .ok (.getfield 19, 3) := by decide +kernel
theorem dX7_put_64 : decode cX7_put 64 = .ok (.aload_n 0, 1) := by decide +kernel
theorem dX7_put_65 : decode cX7_put 65 = .ok (.getfield 34, 3) := by decide +kernel
theorem dX7_put_68 : decode cX7_put 68 = .ok (.iload_n 1, 1) := by decide +kernel
theorem dX7_put_69 : decode cX7_put 69 = .ok (.iaload, 1) := by decide +kernel
theorem dX7_put_70 : decode cX7_put 70 = .ok (.iaload, 1) := by decide +kernel
theorem dX7_put_71 : decode cX7_put 71 = .ok (.ireturn, 1) := by decide +kernel
theorem dX7_copy_0 : decode cX7_copy 0 = .ok (.iload_n 1, 1) := by decide +kernel
theorem dX7_copy_1 : decode cX7_copy 1 = .ok (.invokestatic 181, 3) := by decide +kernel
theorem dX7_copy_4 : decode cX7_copy 4 = .ok (.ifCond .eq 10, 3) := by decide +kernel
theorem dX7_copy_7 : decode cX7_copy 7 = .ok (.iload_n 2, 1) := by decide +kernel
theorem dX7_copy_8 : decode cX7_copy 8 = .ok (.invokestatic 181, 3) := by decide +kernel
theorem dX7_copy_11 : decode cX7_copy 11 = .ok (.ifCond .ne 5, 3) := by decide +kernel
theorem dX7_copy_14 : decode cX7_copy 14 = .ok (.iconst (-1), 1) := by decide +kernel
theorem dX7_copy_15 : decode cX7_copy 15 = .ok (.ireturn, 1) := by decide +kernel
theorem dX7_copy_16 : decode cX7_copy 16 = .ok (.aload_n 0, 1) := by decide +kernel
theorem dX7_copy_17 : decode cX7_copy 17 = .ok (.getfield 34, 3) := by decide +kernel
theorem dX7_copy_20 : decode cX7_copy 20 = .ok (.iload_n 1, 1) := by decide +kernel
theorem dX7_copy_21 : decode cX7_copy 21 = .ok (.aload_n 0, 1) := by decide +kernel
theorem dX7_copy_22 : decode cX7_copy 22 = .ok (.getfield 34, 3) := by decide +kernel
theorem dX7_copy_25 : decode cX7_copy 25 = .ok (.iload_n 2, 1) := by decide +kernel
theorem dX7_copy_26 : decode cX7_copy 26 = .ok (.iaload, 1) := by decide +kernel
theorem dX7_copy_27 : decode cX7_copy 27 = .ok (.iastore, 1) := by decide +kernel
theorem dX7_copy_28 : decode cX7_copy 28 = .ok (.aload_n 0, 1) := by decide +kernel
theorem dX7_copy_29 : decode cX7_copy 29 = .ok (.getfield 19, 3) := by decide +kernel
theorem dX7_copy_32 : decode cX7_copy 32 = .ok (.aload_n 0, 1) := by decide +kernel
theorem dX7_copy_33 : decode cX7_copy 33 = .ok (.getfield 34, 3) := by decide +kernel
theorem dX7_copy_36 : decode cX7_copy 36 = .ok (.iload_n 1, 1) := by decide +kernel
theorem dX7_copy_37 : decode cX7_copy 37 = .ok (.iaload, 1) := by decide +kernel
theorem dX7_copy_38 : decode cX7_copy 38 = .ok (.iaload, 1) := by decide +kernel
theorem dX7_copy_39 : decode cX7_copy 39 = .ok (.ireturn, 1) := by decide +kernel
theorem dX7_join_0 : decode cX7_join 0 = .ok (.iload_n 1, 1) := by decide +kernel
theorem dX7_join_1 : decode cX7_join 1 = .ok (.invokestatic 181, 3) := by decide +kernel
theorem dX7_join_4 : decode cX7_join 4 = .ok (.ifCond .eq 17, 3) := by decide +kernel
theorem dX7_join_7 : decode cX7_join 7 = .ok (.iload_n 2, 1) := by decide +kernel
theorem dX7_join_8 : decode cX7_join 8 = .ok (.invokestatic 181, 3) := by decide +kernel
theorem dX7_join_11 : decode cX7_join 11 = .ok (.ifCond .eq 10, 3) := by decide +kernel
theorem dX7_join_14 : decode cX7_join 14 = .ok (.iload_n 3, 1) := by decide +kernel
theorem dX7_join_15 : decode cX7_join 15 = .ok (.invokestatic 181, 3) := by decide +kernel
theorem dX7_join_18 : decode cX7_join 18 = .ok (.ifCond .ne 5, 3) := by decide +kernel
theorem dX7_join_21 : decode cX7_join 21 = .ok (.iconst (-1), 1) := by decide +kernel
theorem dX7_join_22 : decode cX7_join 22 = .ok (.ireturn, 1) := by decide +kernel
theorem dX7_join_23 : decode cX7_join 23 = .ok (.aload_n 0, 1) := by decide +kernel
theorem dX7_join_24 : decode cX7_join 24 = .ok (.getfield 19, 3) := by decide +kernel
theorem dX7_join_27 : decode cX7_join 27 = .ok (.aload_n 0, 1) := by decide +kernel
theorem dX7_join_28 : decode cX7_join 28 = .ok (.getfield 34, 3) := by decide +kernel
theorem dX7_join_31 : decode cX7_join 31 = .ok (.iload_n 2, 1) := by decide +kernel
theorem dX7_join_32 : decode cX7_join 32 = .ok (.iaload, 1) := by decide +kernel
theorem dX7_join_33 : decode cX7_join 33 = .ok (.iaload, 1) := by decide +kernel
theorem dX7_join_34 : decode cX7_join 34 = .ok (.aload_n 0, 1) := by decide +kernel
theorem dX7_join_35 : decode cX7_join 35 = .ok (.getfield 19, 3) := by decide +kernel
theorem dX7_join_38 : decode cX7_join 38 = .ok (.aload_n 0, 1) := by decide +kernel
theorem dX7_join_39 : decode cX7_join 39 = .ok (.getfield 34, 3) := by decide +kernel
theorem dX7_join_42 : decode cX7_join 42 = .ok (.iload_n 3, 1) := by decide +kernel
theorem dX7_join_43 : decode cX7_join 43 = .ok (.iaload, 1) := by decide +kernel
theorem dX7_join_44 : decode cX7_join 44 = .ok (.iaload, 1) := by decide +kernel
theorem dX7_join_45 : decode cX7_join 45 = .ok (.iadd, 1) := by decide +kernel
theorem dX7_join_46 : decode cX7_join 46 = .ok (.bipush 120, 2) := by decide +kernel
theorem dX7_join_48 : decode cX7_join 48 = .ok (.if_icmp .le 6, 3) := by decide +kernel
theorem dX7_join_51 : decode cX7_join 51 = .ok (.bipush (-4), 2) := by decide +kernel
theorem dX7_join_53 : decode cX7_join 53 = .ok (.ireturn, 1) := by decide +kernel
theorem dX7_join_54 : decode cX7_join 54 = .ok (.aload_n 0, 1) := by decide +kernel
theorem dX7_join_55 : decode cX7_join 55 = .ok (.invokevirtual 185, 3) := by decide +kernel
theorem dX7_join_58 : decode cX7_join 58 = .ok (.aload_n 0, 1) := by decide +kernel
theorem dX7_join_59 : decode cX7_join 59 = .ok (.getfield 34, 3) := by decide +kernel
theorem dX7_join_62 : decode cX7_join 62 = .ok (.iload_n 1, 1) := by decide +kernel
theorem dX7_join_63 : decode cX7_join 63 = .ok (.aload_n 0, 1) := by decide +kernel
theorem dX7_join_64 : decode cX7_join 64 = .ok (.aload_n 0, 1) := by decide +kernel
theorem dX7_join_65 : decode cX7_join 65 = .ok (.getfield 34, 3) := by decide +kernel
theorem dX7_join_68 : decode cX7_join 68 = .ok (.iload_n 2, 1) := by decide +kernel
theorem dX7_join_69 : decode cX7_join 69 = .ok (.iaload, 1) := by decide +kernel
theorem dX7_join_70 : decode cX7_join 70 = .ok (.aload_n 0, 1) := by decide +kernel
theorem dX7_join_71 : decode cX7_join 71 = .ok (.getfield 34, 3) := by decide +kernel
theorem dX7_join_74 : decode cX7_join 74 = .ok (.iload_n 3, 1) := by decide +kernel
theorem dX7_join_75 : decode cX7_join 75 = .ok (.iaload, 1) := by decide +kernel
theorem dX7_join_76 : decode cX7_join 76 = .ok (.invokevirtual 172, 3) := by decide +kernel
theorem dX7_join_79 : decode cX7_join 79 = .ok (.iastore, 1) := by decide +kernel
theorem dX7_join_80 : decode cX7_join 80 = .ok (.aload_n 0, 1) := by decide +kernel
theorem dX7_join_81 : decode cX7_join 81 = .ok (.getfield 19, 3) := by decide +kernel
theorem dX7_join_84 : decode cX7_join 84 = .ok (.aload_n 0, 1) := by decide +kernel
theorem dX7_join_85 : decode cX7_join 85 = .ok (.getfield 34, 3) := by decide +kernel
theorem dX7_join_88 : decode cX7_join 88 = .ok (.iload_n 1, 1) := by decide +kernel
theorem dX7_join_89 : decode cX7_join 89 = .ok (.iaload, 1) := by decide +kernel
theorem dX7_join_90 : decode cX7_join 90 = .ok (.iaload, 1) := by decide +kernel
theorem dX7_join_91 : decode cX7_join 91 = .ok (.ireturn, 1) := by decide +kernel
theorem dX7_cut_0 : decode cX7_cut 0 = .ok (.iload_n 1, 1) := by decide +kernel
theorem dX7_cut_1 : decode cX7_cut 1 = .ok (.invokestatic 181, 3) := by decide +kernel
theorem dX7_cut_4 : decode cX7_cut 4 = .ok (.ifCond .eq 10, 3) := by decide +kernel
theorem dX7_cut_7 : decode cX7_cut 7 = .ok (.iload_n 2, 1) := by decide +kernel
theorem dX7_cut_8 : decode cX7_cut 8 = .ok (.invokestatic 181, 3) := by decide +kernel
theorem dX7_cut_11 : decode cX7_cut 11 = .ok (.ifCond .ne 5, 3) := by decide +kernel
theorem dX7_cut_14 : decode cX7_cut 14 = .ok (.iconst (-1), 1) := by decide +kernel
theorem dX7_cut_15 : decode cX7_cut 15 = .ok (.ireturn, 1) := by decide +kernel
theorem dX7_cut_16 : decode cX7_cut 16 = .ok (.aload_n 0, 1) := by decide +kernel
theorem dX7_cut_17 : decode cX7_cut 17 = .ok (.getfield 19, 3) := by decide +kernel
theorem dX7_cut_20 : decode cX7_cut 20 = .ok (.aload_n 0, 1) := by decide +kernel
theorem dX7_cut_21 : decode cX7_cut 21 = .ok (.getfield 34, 3) := by decide +kernel
theorem dX7_cut_24 : decode cX7_cut 24 = .ok (.iload_n 2, 1) := by decide +kernel
theorem dX7_cut_25 : decode cX7_cut 25 = .ok (.iaload, 1) := by decide +kernel
theorem dX7_cut_26 : decode cX7_cut 26 = .ok (.iaload, 1) := by decide +kernel
theorem dX7_cut_27 : decode cX7_cut 27 = .ok (.istore 5, 2) := by decide +kernel
theorem dX7_cut_29 : decode cX7_cut 29 = .ok (.iload_n 3, 1) := by decide +kernel
theorem dX7_cut_30 : decode cX7_cut 30 = .ok (.iconst 0, 1) := by decide +kernel
theorem dX7_cut_31 : decode cX7_cut 31 = .ok (.iload 5, 2) := by decide +kernel
theorem dX7_cut_33 : decode cX7_cut 33 = .ok (.invokestatic 104, 3) := by decide +kernel
theorem dX7_cut_36 : decode cX7_cut 36 = .ok (.ifCond .eq 16, 3) := by decide +kernel
theorem dX7_cut_39 : decode cX7_cut 39 = .ok (.iload 4, 2) := by decide +kernel
theorem dX7_cut_41 : decode cX7_cut 41 = .ok (.iconst 0, 1) := by decide +kernel
theorem dX7_cut_42 : decode cX7_cut 42 = .ok (.iload 5, 2) := by decide +kernel
theorem dX7_cut_44 : decode cX7_cut 44 = .ok (.iload_n 3, 1) := by decide +kernel
theorem dX7_cut_45 : decode cX7_cut 45 = .ok (.isub, 1) := by decide +kernel
theorem dX7_cut_46 : decode cX7_cut 46 = .ok (.invokestatic 104, 3) := by decide +kernel
theorem dX7_cut_49 : decode cX7_cut 49 = .ok (.ifCond .ne 6, 3) := by decide +kernel
theorem dX7_cut_52 : decode cX7_cut 52 = .ok (.bipush (-2), 2) := by decide +kernel
theorem dX7_cut_54 : decode cX7_cut 54 = .ok (.ireturn, 1) := by decide +kernel
theorem dX7_cut_55 : decode cX7_cut 55 = .ok (.aload_n 0, 1) := by decide +kernel
theorem dX7_cut_56 : decode cX7_cut 56 = .ok (.invokevirtual 185, 3) := by decide +kernel
theorem dX7_cut_59 : decode cX7_cut 59 = .ok (.aload_n 0, 1) := by decide +kernel
theorem dX7_cut_60 : decode cX7_cut 60 = .ok (.getfield 34, 3) := by decide +kernel
theorem dX7_cut_63 : decode cX7_cut 63 = .ok (.iload_n 1, 1) := by decide +kernel
theorem dX7_cut_64 : decode cX7_cut 64 = .ok (.aload_n 0, 1) := by decide +kernel
theorem dX7_cut_65 : decode cX7_cut 65 = .ok (.aload_n 0, 1) := by decide +kernel
theorem dX7_cut_66 : decode cX7_cut 66 = .ok (.getfield 34, 3) := by decide +kernel
theorem dX7_cut_69 : decode cX7_cut 69 = .ok (.iload_n 2, 1) := by decide +kernel
theorem dX7_cut_70 : decode cX7_cut 70 = .ok (.iaload, 1) := by decide +kernel
theorem dX7_cut_71 : decode cX7_cut 71 = .ok (.iload_n 3, 1) := by decide +kernel
theorem dX7_cut_72 : decode cX7_cut 72 = .ok (.iload 4, 2) := by decide +kernel
theorem dX7_cut_74 : decode cX7_cut 74 = .ok (.invokevirtual 188, 3) := by decide +kernel
theorem dX7_cut_77 : decode cX7_cut 77 = .ok (.iastore, 1) := by decide +kernel
theorem dX7_cut_78 : decode cX7_cut 78 = .ok (.iload 4, 2) := by decide +kernel
theorem dX7_cut_80 : decode cX7_cut 80 = .ok (.ireturn, 1) := by decide +kernel
theorem dX7_flat_0 : decode cX7_flat 0 = .ok (.iload_n 1, 1) := by decide +kernel
theorem dX7_flat_1 : decode cX7_flat 1 = .ok (.invokestatic 181, 3) := by decide +kernel
theorem dX7_flat_4 : decode cX7_flat 4 = .ok (.ifCond .ne 5, 3) := by decide +kernel
theorem dX7_flat_7 : decode cX7_flat 7 = .ok (.iconst (-1), 1) := by decide +kernel
theorem dX7_flat_8 : decode cX7_flat 8 = .ok (.ireturn, 1) := by decide +kernel
theorem dX7_flat_9 : decode cX7_flat 9 = .ok (.aload_n 0, 1) := by decide +kernel
theorem dX7_flat_10 : decode cX7_flat 10 = .ok (.invokevirtual 185, 3) := by decide +kernel
theorem dX7_flat_13 : decode cX7_flat 13 = .ok (.aload_n 0, 1) := by decide +kernel
theorem dX7_flat_14 : decode cX7_flat 14 = .ok (.getfield 34, 3) := by decide +kernel
theorem dX7_flat_17 : decode cX7_flat 17 = .ok (.iload_n 1, 1) := by decide +kernel
theorem dX7_flat_18 : decode cX7_flat 18 = .ok (.iaload, 1) := by decide +kernel
theorem dX7_flat_19 : decode cX7_flat 19 = .ok (.istore_n 2, 1) := by decide +kernel
theorem dX7_flat_20 : decode cX7_flat 20 = .ok (.aload_n 0, 1) := by decide +kernel
theorem dX7_flat_21 : decode cX7_flat 21 = .ok (.iload_n 2, 1) := by decide +kernel
theorem dX7_flat_22 : decode cX7_flat 22 = .ok (.iconst 0, 1) := by decide +kernel
theorem dX7_flat_23 : decode cX7_flat 23 = .ok (.invokevirtual 154, 3) := by decide +kernel
theorem dX7_flat_26 : decode cX7_flat 26 = .ok (.istore_n 3, 1) := by decide +kernel
theorem dX7_flat_27 : decode cX7_flat 27 = .ok (.aload_n 0, 1) := by decide +kernel
theorem dX7_flat_28 : decode cX7_flat 28 = .ok (.getfield 135, 3) := by decide +kernel
theorem dX7_flat_31 : decode cX7_flat 31 = .ok (.istore 4, 2) := by decide +kernel
theorem dX7_flat_33 : decode cX7_flat 33 = .ok (.aload_n 0, 1) := by decide +kernel
theorem dX7_flat_34 : decode cX7_flat 34 = .ok (.getfield 7, 3) := by decide +kernel
theorem dX7_flat_37 : decode cX7_flat 37 = .ok (.iload_n 2, 1) := by decide +kernel
theorem dX7_flat_38 : decode cX7_flat 38 = .ok (.iaload, 1) := by decide +kernel
theorem dX7_flat_39 : decode cX7_flat 39 = .ok (.iconst 1, 1) := by decide +kernel
theorem dX7_flat_40 : decode cX7_flat 40 = .ok (.if_icmp .eq 22, 3) := by decide +kernel
theorem dX7_flat_43 : decode cX7_flat 43 = .ok (.aload_n 0, 1) := by decide +kernel
theorem dX7_flat_44 : decode cX7_flat 44 = .ok (.getfield 7, 3) := by decide +kernel
theorem dX7_flat_47 : decode cX7_flat 47 = .ok (.iload_n 2, 1) := by decide +kernel
theorem dX7_flat_48 : decode cX7_flat 48 = .ok (.iconst 1, 1) := by decide +kernel
theorem dX7_flat_49 : decode cX7_flat 49 = .ok (.iastore, 1) := by decide +kernel
theorem dX7_flat_50 : decode cX7_flat 50 = .ok (.aload_n 0, 1) := by decide +kernel
theorem dX7_flat_51 : decode cX7_flat 51 = .ok (.getfield 13, 3) := by decide +kernel
theorem dX7_flat_54 : decode cX7_flat 54 = .ok (.iload_n 2, 1) := by decide +kernel
theorem dX7_flat_55 : decode cX7_flat 55 = .ok (.aload_n 0, 1) := by decide +kernel
theorem dX7_flat_56 : decode cX7_flat 56 = .ok (.iload_n 2, 1) := by decide +kernel
theorem dX7_flat_57 : decode cX7_flat 57 = .ok (.iload_n 3, 1) := by decide +kernel
theorem dX7_flat_58 : decode cX7_flat 58 = .ok (.invokevirtual 118, 3) := by decide +kernel
theorem dX7_flat_61 : decode cX7_flat 61 = .ok (.iastore, 1) := by decide +kernel
theorem dX7_flat_62 : decode cX7_flat 62 = .ok (.iload 4, 2) := by decide +kernel
theorem dX7_flat_64 : decode cX7_flat 64 = .ok (.ireturn, 1) := by decide +kernel
theorem dX7_sign_0 : decode cX7_sign 0 = .ok (.iload_n 1, 1) := by decide +kernel
theorem dX7_sign_1 : decode cX7_sign 1 = .ok (.invokestatic 181, 3) := by decide +kernel
theorem dX7_sign_4 : decode cX7_sign 4 = .ok (.ifCond .ne 5, 3) := by decide +kernel
theorem dX7_sign_7 : decode cX7_sign 7 = .ok (.iconst (-1), 1) := by decide +kernel
theorem dX7_sign_8 : decode cX7_sign 8 = .ok (.ireturn, 1) := by decide +kernel
theorem dX7_sign_9 : decode cX7_sign 9 = .ok (.aload_n 0, 1) := by decide +kernel
theorem dX7_sign_10 : decode cX7_sign 10 = .ok (.aload_n 0, 1) := by decide +kernel
theorem dX7_sign_11 : decode cX7_sign 11 = .ok (.getfield 34, 3) := by decide +kernel
theorem dX7_sign_14 : decode cX7_sign 14 = .ok (.iload_n 1, 1) := by decide +kernel
theorem dX7_sign_15 : decode cX7_sign 15 = .ok (.iaload, 1) := by decide +kernel
theorem dX7_sign_16 : decode cX7_sign 16 = .ok (.iconst 0, 1) := by decide +kernel
theorem dX7_sign_17 : decode cX7_sign 17 = .ok (.invokevirtual 154, 3) := by decide +kernel
theorem dX7_sign_20 : decode cX7_sign 20 = .ok (.istore_n 3, 1) := by decide +kernel
theorem dX7_sign_21 : decode cX7_sign 21 = .ok (.iload_n 2, 1) := by decide +kernel
theorem dX7_sign_22 : decode cX7_sign 22 = .ok (.iconst 0, 1) := by decide +kernel
theorem dX7_sign_23 : decode cX7_sign 23 = .ok (.iload_n 3, 1) := by decide +kernel
theorem dX7_sign_24 : decode cX7_sign 24 = .ok (.iconst 1, 1) := by decide +kernel
theorem dX7_sign_25 : decode cX7_sign 25 = .ok (.isub, 1) := by decide +kernel
theorem dX7_sign_26 : decode cX7_sign 26 = .ok (.invokestatic 104, 3) := by decide +kernel
theorem dX7_sign_29 : decode cX7_sign 29 = .ok (.ifCond .eq 12, 3) := by decide +kernel
theorem dX7_sign_32 : decode cX7_sign 32 = .ok (.aload_n 0, 1) := by decide +kernel
theorem dX7_sign_33 : decode cX7_sign 33 = .ok (.getfield 61, 3) := by decide +kernel
theorem dX7_sign_36 : decode cX7_sign 36 = .ok (.iload_n 2, 1) := by decide +kernel
theorem dX7_sign_37 : decode cX7_sign 37 = .ok (.iaload, 1) := by decide +kernel
theorem dX7_sign_38 : decode cX7_sign 38 = .ok (.goto 5, 3) := by decide +kernel
theorem dX7_sign_41 : decode cX7_sign 41 = .ok (.bipush (-6), 2) := by decide +kernel
theorem dX7_sign_43 : decode cX7_sign 43 = .ok (.ireturn, 1) := by decide +kernel
theorem dX7_hash_0 : decode cX7_hash 0 = .ok (.iload_n 1, 1) := by decide +kernel
theorem dX7_hash_1 : decode cX7_hash 1 = .ok (.invokestatic 181, 3) := by decide +kernel
theorem dX7_hash_4 : decode cX7_hash 4 = .ok (.ifCond .ne 5, 3) := by decide +kernel
theorem dX7_hash_7 : decode cX7_hash 7 = .ok (.iconst 0, 1) := by decide +kernel
theorem dX7_hash_8 : decode cX7_hash 8 = .ok (.ireturn, 1) := by decide +kernel
theorem dX7_hash_9 : decode cX7_hash 9 = .ok (.aload_n 0, 1) := by decide +kernel
theorem dX7_hash_10 : decode cX7_hash 10 = .ok (.aload_n 0, 1) := by decide +kernel
theorem dX7_hash_11 : decode cX7_hash 11 = .ok (.getfield 34, 3) := by decide +kernel
theorem dX7_hash_14 : decode cX7_hash 14 = .ok (.iload_n 1, 1) := by decide +kernel
theorem dX7_hash_15 : decode cX7_hash 15 = .ok (.iaload, 1) := by decide +kernel
theorem dX7_hash_16 : decode cX7_hash 16 = .ok (.iconst 0, 1) := by decide +kernel
theorem dX7_hash_17 : decode cX7_hash 17 = .ok (.invokevirtual 154, 3) := by decide +kernel
theorem dX7_hash_20 : decode cX7_hash 20 = .ok (.istore_n 2, 1) := by decide +kernel
theorem dX7_hash_21 : decode cX7_hash 21 = .ok (.iconst 0, 1) := by decide +kernel
theorem dX7_hash_22 : decode cX7_hash 22 = .ok (.istore_n 3, 1) := by decide +kernel
theorem dX7_hash_23 : decode cX7_hash 23 = .ok (.iconst 0, 1) := by decide +kernel
theorem dX7_hash_24 : decode cX7_hash 24 = .ok (.istore 4, 2) := by decide +kernel
theorem dX7_hash_26 : decode cX7_hash 26 = .ok (.iload 4, 2) := by decide +kernel
theorem dX7_hash_28 : decode cX7_hash 28 = .ok (.iload_n 2, 1) := by decide +kernel
theorem dX7_hash_29 : decode cX7_hash 29 = .ok (.if_icmp .ge 22, 3) := by decide +kernel
theorem dX7_hash_32 : decode cX7_hash 32 = .ok (.bipush 31, 2) := by decide +kernel
theorem dX7_hash_34 : decode cX7_hash 34 = .ok (.iload_n 3, 1) := by decide +kernel
theorem dX7_hash_35 : decode cX7_hash 35 = .ok (.imul, 1) := by decide +kernel
theorem dX7_hash_36 : decode cX7_hash 36 = .ok (.aload_n 0, 1) := by decide +kernel
theorem dX7_hash_37 : decode cX7_hash 37 = .ok (.getfield 61, 3) := by decide +kernel
theorem dX7_hash_40 : decode cX7_hash 40 = .ok (.iload 4, 2) := by decide +kernel
theorem dX7_hash_42 : decode cX7_hash 42 = .ok (.iaload, 1) := by decide +kernel
theorem dX7_hash_43 : decode cX7_hash 43 = .ok (.iadd, 1) := by decide +kernel
theorem dX7_hash_44 : decode cX7_hash 44 = .ok (.istore_n 3, 1) := by decide +kernel
theorem dX7_hash_45 : decode cX7_hash 45 = .ok (.iinc 4 1, 3) := by decide +kernel
theorem dX7_hash_48 : decode cX7_hash 48 = .ok (.goto (-22), 3) := by decide +kernel
theorem dX7_hash_51 : decode cX7_hash 51 = .ok (.iload_n 3, 1) := by decide +kernel
theorem dX7_hash_52 : decode cX7_hash 52 = .ok (.ireturn, 1) := by decide +kernel
theorem dX7_roomOf_0 : decode cX7_roomOf 0 = .ok (.aload_n 0, 1) := by decide +kernel
theorem dX7_roomOf_1 : decode cX7_roomOf 1 = .ok (.getfield 7, 3) := by decide +kernel
theorem dX7_roomOf_4 : decode cX7_roomOf 4 = .ok (.iload_n 1, 1) := by decide +kernel
theorem dX7_roomOf_5 : decode cX7_roomOf 5 = .ok (.iaload, 1) := by decide +kernel
theorem dX7_roomOf_6 : decode cX7_roomOf 6 = .ok (.iconst 1, 1) := by decide +kernel
theorem dX7_roomOf_7 : decode cX7_roomOf 7 = .ok (.if_icmp .eq 21, 3) := by decide +kernel
theorem dX7_roomOf_10 : decode cX7_roomOf 10 = .ok (.aload_n 0, 1) := by decide +kernel
theorem dX7_roomOf_11 : decode cX7_roomOf 11 = .ok (.getfield 7, 3) := by decide +kernel
theorem dX7_roomOf_14 : decode cX7_roomOf 14 = .ok (.iload_n 1, 1) := by decide +kernel
theorem dX7_roomOf_15 : decode cX7_roomOf 15 = .ok (.iaload, 1) := by decide +kernel
theorem dX7_roomOf_16 : decode cX7_roomOf 16 = .ok (.iconst 2, 1) := by decide +kernel
theorem dX7_roomOf_17 : decode cX7_roomOf 17 = .ok (.if_icmp .ne 8, 3) := by decide +kernel
theorem dX7_roomOf_20 : decode cX7_roomOf 20 = .ok (.bipush 24, 2) := by decide +kernel
theorem dX7_roomOf_22 : decode cX7_roomOf 22 = .ok (.goto 5, 3) := by decide +kernel
theorem dX7_roomOf_25 : decode cX7_roomOf 25 = .ok (.bipush 28, 2) := by decide +kernel
theorem dX7_roomOf_27 : decode cX7_roomOf 27 = .ok (.ireturn, 1) := by decide +kernel
theorem dX7_roomOf_28 : decode cX7_roomOf 28 = .ok (.iconst 1, 1) := by decide +kernel
theorem dX7_roomOf_29 : decode cX7_roomOf 29 = .ok (.istore_n 2, 1) := by decide +kernel
theorem dX7_roomOf_30 : decode cX7_roomOf 30 = .ok (.iconst 0, 1) := by decide +kernel
theorem dX7_roomOf_31 : decode cX7_roomOf 31 = .ok (.istore_n 3, 1) := by decide +kernel
theorem dX7_roomOf_32 : decode cX7_roomOf 32 = .ok (.iload_n 3, 1) := by decide +kernel
theorem dX7_roomOf_33 : decode cX7_roomOf 33 = .ok (.aload_n 0, 1) := by decide +kernel
theorem dX7_roomOf_34 : decode cX7_roomOf 34 = .ok (.getfield 19, 3) := by decide +kernel
theorem dX7_roomOf_37 : decode cX7_roomOf 37 = .ok (.iload_n 1, 1) := by decide +kernel
theorem dX7_roomOf_38 : decode cX7_roomOf 38 = .ok (.iaload, 1) := by decide +kernel
theorem dX7_roomOf_39 : decode cX7_roomOf 39 = .ok (.if_icmp .ge 34, 3) := by decide +kernel
theorem dX7_roomOf_42 : decode cX7_roomOf 42 = .ok (.aload_n 0, 1) := by decide +kernel
theorem dX7_roomOf_43 : decode cX7_roomOf 43 = .ok (.getfield 31, 3) := by decide +kernel
theorem dX7_roomOf_46 : decode cX7_roomOf 46 = .ok (.aload_n 0, 1) := by decide +kernel
theorem dX7_roomOf_47 : decode cX7_roomOf 47 = .ok (.getfield 13, 3) := by decide +kernel
theorem dX7_roomOf_50 : decode cX7_roomOf 50 = .ok (.iload_n 1, 1) := by decide +kernel
theorem dX7_roomOf_51 : decode cX7_roomOf 51 = .ok (.iaload, 1) := by decide +kernel
theorem dX7_roomOf_52 : decode cX7_roomOf 52 = .ok (.iload_n 3, 1) := by decide +kernel
theorem dX7_roomOf_53 : decode cX7_roomOf 53 = .ok (.iadd, 1) := by decide +kernel
theorem dX7_roomOf_54 : decode cX7_roomOf 54 = .ok (.iaload, 1) := by decide +kernel
theorem dX7_roomOf_55 : decode cX7_roomOf 55 = .ok (.sipush 255, 3) := by decide +kernel
theorem dX7_roomOf_58 : decode cX7_roomOf 58 = .ok (.if_icmp .le 7, 3) := by decide +kernel
theorem dX7_roomOf_61 : decode cX7_roomOf 61 = .ok (.iconst 2, 1) := by decide +kernel
theorem dX7_roomOf_62 : decode cX7_roomOf 62 = .ok (.goto 4, 3) := by decide +kernel
theorem dX7_roomOf_65 : decode cX7_roomOf 65 = .ok (.iload_n 2, 1) := by decide +kernel
theorem dX7_roomOf_66 : decode cX7_roomOf 66 = .ok (.istore_n 2, 1) := by decide +kernel
theorem dX7_roomOf_67 : decode cX7_roomOf 67 = .ok (.iinc 3 1, 3) := by decide +kernel
theorem dX7_roomOf_70 : decode cX7_roomOf 70 = .ok (.goto (-38), 3) := by decide +kernel
theorem dX7_roomOf_73 : decode cX7_roomOf 73 = .ok (.bipush 24, 2) := by decide +kernel
theorem dX7_roomOf_75 : decode cX7_roomOf 75 = .ok (.iload_n 2, 1) := by decide +kernel
theorem dX7_roomOf_76 : decode cX7_roomOf 76 = .ok (.aload_n 0, 1) := by decide +kernel
theorem dX7_roomOf_77 : decode cX7_roomOf 77 = .ok (.getfield 19, 3) := by decide +kernel
theorem dX7_roomOf_80 : decode cX7_roomOf 80 = .ok (.iload_n 1, 1) := by decide +kernel
theorem dX7_roomOf_81 : decode cX7_roomOf 81 = .ok (.iaload, 1) := by decide +kernel
theorem dX7_roomOf_82 : decode cX7_roomOf 82 = .ok (.imul, 1) := by decide +kernel
theorem dX7_roomOf_83 : decode cX7_roomOf 83 = .ok (.iadd, 1) := by decide +kernel
theorem dX7_roomOf_84 : decode cX7_roomOf 84 = .ok (.ireturn, 1) := by decide +kernel
theorem dX7_roomOfMarked_0 : decode cX7_roomOfMarked 0 = .ok (.iconst 0, 1) := by decide +kernel
theorem dX7_roomOfMarked_1 : decode cX7_roomOfMarked 1 = .ok (.istore_n 1, 1) := by decide +kernel
theorem dX7_roomOfMarked_2 : decode cX7_roomOfMarked 2 = .ok (.iconst 0, 1) := by decide +kernel
theorem dX7_roomOfMarked_3 : decode cX7_roomOfMarked 3 = .ok (.istore_n 2, 1) := by decide +kernel
theorem dX7_roomOfMarked_4 : decode cX7_roomOfMarked 4 = .ok (.iload_n 2, 1) := by decide +kernel
theorem dX7_roomOfMarked_5 : decode cX7_roomOfMarked 5 = .ok (.sipush 20480, 3) := by decide +kernel
theorem dX7_roomOfMarked_8 : decode cX7_roomOfMarked 8 = .ok (.if_icmp .ge 30, 3) := by decide +kernel
theorem dX7_roomOfMarked_11 : decode cX7_roomOfMarked 11 = .ok (.iload_n 1, 1) := by decide +kernel
theorem dX7_roomOfMarked_12 : decode cX7_roomOfMarked 12 = .ok (.aload_n 0, 1) := by decide +kernel
theorem dX7_roomOfMarked_13 : decode cX7_roomOfMarked 13 = .ok (.getfield 22, 3) := by decide +kernel
theorem dX7_roomOfMarked_16 : decode cX7_roomOfMarked 16 = .ok (.iload_n 2, 1) := by decide +kernel
theorem dX7_roomOfMarked_17 : decode cX7_roomOfMarked 17 = .ok (.baload, 1) := by decide +kernel
theorem dX7_roomOfMarked_18 : decode cX7_roomOfMarked 18 = .ok (.ifCond .eq 11, 3) := by decide +kernel
theorem dX7_roomOfMarked_21 : decode cX7_roomOfMarked 21 = .ok (.aload_n 0, 1) := by decide +kernel
theorem dX7_roomOfMarked_22 : decode cX7_roomOfMarked 22 = .ok (.iload_n 2, 1) := by decide +kernel
theorem dX7_roomOfMarked_23 : decode cX7_roomOfMarked 23 = .ok (.invokevirtual 191, 3) := by decide +kernel
theorem dX7_roomOfMarked_26 : decode cX7_roomOfMarked 26 = .ok (.goto 4, 3) := by decide +kernel
theorem dX7_roomOfMarked_29 : decode cX7_roomOfMarked 29 = .ok (.iconst 0, 1) := by decide +kernel
theorem dX7_roomOfMarked_30 : decode cX7_roomOfMarked 30 = .ok (.iadd, 1) := by decide +kernel
theorem dX7_roomOfMarked_31 : decode cX7_roomOfMarked 31 = .ok (.istore_n 1, 1) := by decide +kernel
theorem dX7_roomOfMarked_32 : decode cX7_roomOfMarked 32 = .ok (.iinc 2 1, 3) := by decide +kernel
theorem dX7_roomOfMarked_35 : decode cX7_roomOfMarked 35 = .ok (.goto (-31), 3) := by decide +kernel
theorem dX7_roomOfMarked_38 : decode cX7_roomOfMarked 38 = .ok (.iload_n 1, 1) := by decide +kernel
theorem dX7_roomOfMarked_39 : decode cX7_roomOfMarked 39 = .ok (.ireturn, 1) := by decide +kernel
theorem dX7_isWide_0 : decode cX7_isWide 0 = .ok (.aload_n 0, 1) := by decide +kernel
theorem dX7_isWide_1 : decode cX7_isWide 1 = .ok (.aload_n 0, 1) := by decide +kernel
theorem dX7_isWide_2 : decode cX7_isWide 2 = .ok (.getfield 34, 3) := by decide +kernel
theorem dX7_isWide_5 : decode cX7_isWide 5 = .ok (.iload_n 1, 1) := by decide +kernel
theorem dX7_isWide_6 : decode cX7_isWide 6 = .ok (.iaload, 1) := by decide +kernel
theorem dX7_isWide_7 : decode cX7_isWide 7 = .ok (.iconst 0, 1) := by decide +kernel
theorem dX7_isWide_8 : decode cX7_isWide 8 = .ok (.invokevirtual 154, 3) := by decide +kernel
theorem dX7_isWide_11 : decode cX7_isWide 11 = .ok (.istore_n 2, 1) := by decide +kernel
theorem dX7_isWide_12 : decode cX7_isWide 12 = .ok (.iconst 0, 1) := by decide +kernel
theorem dX7_isWide_13 : decode cX7_isWide 13 = .ok (.istore_n 3, 1) := by decide +kernel
theorem dX7_isWide_14 : decode cX7_isWide 14 = .ok (.iconst 0, 1) := by decide +kernel
theorem dX7_isWide_15 : decode cX7_isWide 15 = .ok (.istore 4, 2) := by decide +kernel
theorem dX7_isWide_17 : decode cX7_isWide 17 = .ok (.iload 4, 2) := by decide +kernel
theorem dX7_isWide_19 : decode cX7_isWide 19 = .ok (.iload_n 2, 1) := by decide +kernel
theorem dX7_isWide_20 : decode cX7_isWide 20 = .ok (.if_icmp .ge 32, 3) := by decide +kernel
theorem dX7_isWide_23 : decode cX7_isWide 23 = .ok (.iload_n 3, 1) := by decide +kernel
theorem dX7_isWide_24 : decode cX7_isWide 24 = .ok (.ifCond .ne 16, 3) := by decide +kernel
theorem dX7_isWide_27 : decode cX7_isWide 27 = .ok (.aload_n 0, 1) := by decide +kernel
theorem dX7_isWide_28 : decode cX7_isWide 28 = .ok (.getfield 61, 3) := by decide +kernel
theorem dX7_isWide_31 : decode cX7_isWide 31 = .ok (.iload 4, 2) := by decide +kernel
theorem dX7_isWide_33 : decode cX7_isWide 33 = .ok (.iaload, 1) := by decide +kernel
theorem dX7_isWide_34 : decode cX7_isWide 34 = .ok (.sipush 255, 3) := by decide +kernel
theorem dX7_isWide_37 : decode cX7_isWide 37 = .ok (.if_icmp .le 7, 3) := by decide +kernel
theorem dX7_isWide_40 : decode cX7_isWide 40 = .ok (.iconst 1, 1) := by decide +kernel
theorem dX7_isWide_41 : decode cX7_isWide 41 = .ok (.goto 4, 3) := by decide +kernel
theorem dX7_isWide_44 : decode cX7_isWide 44 = .ok (.iconst 0, 1) := by decide +kernel
theorem dX7_isWide_45 : decode cX7_isWide 45 = .ok (.istore_n 3, 1) := by decide +kernel
theorem dX7_isWide_46 : decode cX7_isWide 46 = .ok (.iinc 4 1, 3) := by decide +kernel
theorem dX7_isWide_49 : decode cX7_isWide 49 = .ok (.goto (-32), 3) := by decide +kernel
theorem dX7_isWide_52 : decode cX7_isWide 52 = .ok (.iload_n 3, 1) := by decide +kernel
theorem dX7_isWide_53 : decode cX7_isWide 53 = .ok (.ireturn, 1) := by decide +kernel
theorem dX7_told_0 : decode cX7_told 0 = .ok (.iload_n 1, 1) := by decide +kernel
theorem dX7_told_1 : decode cX7_told 1 = .ok (.invokestatic 181, 3) := by decide +kernel
theorem dX7_told_4 : decode cX7_told 4 = .ok (.ifCond .ne 5, 3) := by decide +kernel
theorem dX7_told_7 : decode cX7_told 7 = .ok (.iconst (-1), 1) := by decide +kernel
theorem dX7_told_8 : decode cX7_told 8 = .ok (.ireturn, 1) := by decide +kernel
theorem dX7_told_9 : decode cX7_told 9 = .ok (.aload_n 0, 1) := by decide +kernel
theorem dX7_told_10 : decode cX7_told 10 = .ok (.getfield 34, 3) := by decide +kernel
theorem dX7_told_13 : decode cX7_told 13 = .ok (.iload_n 1, 1) := by decide +kernel
theorem dX7_told_14 : decode cX7_told 14 = .ok (.iaload, 1) := by decide +kernel
theorem dX7_told_15 : decode cX7_told 15 = .ok (.istore_n 3, 1) := by decide +kernel
theorem dX7_told_16 : decode cX7_told 16 = .ok (.iload_n 2, 1) := by decide +kernel
theorem dX7_told_17 : decode cX7_told 17 = .ok (.tableswitch 115 0 6 #[43, 50, 59, 65, 76, 86, 101], 43) := by decide +kernel
theorem dX7_told_60 : decode cX7_told 60 = .ok (.aload_n 0, 1) := by decide +kernel
theorem dX7_told_61 : decode cX7_told 61 = .ok (.getfield 19, 3) := by decide +kernel
theorem dX7_told_64 : decode cX7_told 64 = .ok (.iload_n 3, 1) := by decide +kernel
theorem dX7_told_65 : decode cX7_told 65 = .ok (.iaload, 1) := by decide +kernel
theorem dX7_told_66 : decode cX7_told 66 = .ok (.ireturn, 1) := by decide +kernel
theorem dX7_told_67 : decode cX7_told 67 = .ok (.aload_n 0, 1) := by decide +kernel
theorem dX7_told_68 : decode cX7_told 68 = .ok (.getfield 7, 3) := by decide +kernel
theorem dX7_told_71 : decode cX7_told 71 = .ok (.iload_n 3, 1) := by decide +kernel
theorem dX7_told_72 : decode cX7_told 72 = .ok (.iaload, 1) := by decide +kernel
theorem dX7_told_73 : decode cX7_told 73 = .ok (.iconst 1, 1) := by decide +kernel
theorem dX7_told_74 : decode cX7_told 74 = .ok (.isub, 1) := by decide +kernel
theorem dX7_told_75 : decode cX7_told 75 = .ok (.ireturn, 1) := by decide +kernel
theorem dX7_told_76 : decode cX7_told 76 = .ok (.aload_n 0, 1) := by decide +kernel
theorem dX7_told_77 : decode cX7_told 77 = .ok (.iload_n 3, 1) := by decide +kernel
theorem dX7_told_78 : decode cX7_told 78 = .ok (.invokevirtual 138, 3) := by decide +kernel
theorem dX7_told_81 : decode cX7_told 81 = .ok (.ireturn, 1) := by decide +kernel
theorem dX7_told_82 : decode cX7_told 82 = .ok (.aload_n 0, 1) := by decide +kernel
theorem dX7_told_83 : decode cX7_told 83 = .ok (.iload_n 3, 1) := by decide +kernel
theorem dX7_told_84 : decode cX7_told 84 = .ok (.invokevirtual 138, 3) := by decide +kernel
theorem dX7_told_87 : decode cX7_told 87 = .ok (.pop, 1) := by decide +kernel
theorem dX7_told_88 : decode cX7_told 88 = .ok (.aload_n 0, 1) := by decide +kernel
theorem dX7_told_89 : decode cX7_told 89 = .ok (.getfield 135, 3) := by decide +kernel
theorem dX7_told_92 : decode cX7_told 92 = .ok (.ireturn, 1) := by decide +kernel
theorem dX7_told_93 : decode cX7_told 93 = .ok (.aload_n 0, 1) := by decide +kernel
theorem dX7_told_94 : decode cX7_told 94 = .ok (.invokevirtual 123, 3) := by decide +kernel
theorem dX7_told_97 : decode cX7_told 97 = .ok (.aload_n 0, 1) := by decide +kernel
theorem dX7_told_98 : decode cX7_told 98 = .ok (.iload_n 3, 1) := by decide +kernel
theorem dX7_told_99 : decode cX7_told 99 = .ok (.invokevirtual 126, 3) := by decide +kernel
theorem dX7_told_102 : decode cX7_told 102 = .ok (.ireturn, 1) := by decide +kernel
theorem dX7_told_103 : decode cX7_told 103 = .ok (.aload_n 0, 1) := by decide +kernel
theorem dX7_told_104 : decode cX7_told 104 = .ok (.invokevirtual 123, 3) := by decide +kernel
theorem dX7_told_107 : decode cX7_told 107 = .ok (.aload_n 0, 1) := by decide +kernel
theorem dX7_told_108 : decode cX7_told 108 = .ok (.iload_n 3, 1) := by decide +kernel
theorem dX7_told_109 : decode cX7_told 109 = .ok (.invokevirtual 126, 3) := by decide +kernel
theorem dX7_told_112 : decode cX7_told 112 = .ok (.pop, 1) := by decide +kernel
theorem dX7_told_113 : decode cX7_told 113 = .ok (.aload_n 0, 1) := by decide +kernel
theorem dX7_told_114 : decode cX7_told 114 = .ok (.invokevirtual 194, 3) := by decide +kernel
theorem dX7_told_117 : decode cX7_told 117 = .ok (.ireturn, 1) := by decide +kernel
theorem dX7_told_118 : decode cX7_told 118 = .ok (.aload_n 0, 1) := by decide +kernel
theorem dX7_told_119 : decode cX7_told 119 = .ok (.iload_n 1, 1) := by decide +kernel
theorem dX7_told_120 : decode cX7_told 120 = .ok (.invokevirtual 197, 3) := by decide +kernel
theorem dX7_told_123 : decode cX7_told 123 = .ok (.ifCond .eq 7, 3) := by decide +kernel
theorem dX7_told_126 : decode cX7_told 126 = .ok (.iconst 1, 1) := by decide +kernel
theorem dX7_told_127 : decode cX7_told 127 = .ok (.goto 4, 3) := by decide +kernel
theorem dX7_told_130 : decode cX7_told 130 = .ok (.iconst 0, 1) := by decide +kernel
theorem dX7_told_131 : decode cX7_told 131 = .ok (.ireturn, 1) := by decide +kernel
theorem dX7_told_132 : decode cX7_told 132 = .ok (.bipush (-2), 2) := by decide +kernel
theorem dX7_told_134 : decode cX7_told 134 = .ok (.ireturn, 1) := by decide +kernel
theorem dX7_piece_0 : decode cX7_piece 0 = .ok (.iload_n 1, 1) := by decide +kernel
theorem dX7_piece_1 : decode cX7_piece 1 = .ok (.invokestatic 181, 3) := by decide +kernel
theorem dX7_piece_4 : decode cX7_piece 4 = .ok (.ifCond .ne 5, 3) := by decide +kernel
theorem dX7_piece_7 : decode cX7_piece 7 = .ok (.iconst (-1), 1) := by decide +kernel
theorem dX7_piece_8 : decode cX7_piece 8 = .ok (.ireturn, 1) := by decide +kernel
theorem dX7_piece_9 : decode cX7_piece 9 = .ok (.iload_n 3, 1) := by decide +kernel
theorem dX7_piece_10 : decode cX7_piece 10 = .ok (.iconst 0, 1) := by decide +kernel
theorem dX7_piece_11 : decode cX7_piece 11 = .ok (.iconst 3, 1) := by decide +kernel
theorem dX7_piece_12 : decode cX7_piece 12 = .ok (.invokestatic 104, 3) := by decide +kernel
theorem dX7_piece_15 : decode cX7_piece 15 = .ok (.ifCond .ne 6, 3) := by decide +kernel
theorem dX7_piece_18 : decode cX7_piece 18 = .ok (.bipush (-2), 2) := by decide +kernel
theorem dX7_piece_20 : decode cX7_piece 20 = .ok (.ireturn, 1) := by decide +kernel
theorem dX7_piece_21 : decode cX7_piece 21 = .ok (.aload_n 0, 1) := by decide +kernel
theorem dX7_piece_22 : decode cX7_piece 22 = .ok (.aload_n 0, 1) := by decide +kernel
theorem dX7_piece_23 : decode cX7_piece 23 = .ok (.getfield 34, 3) := by decide +kernel
theorem dX7_piece_26 : decode cX7_piece 26 = .ok (.iload_n 1, 1) := by decide +kernel
theorem dX7_piece_27 : decode cX7_piece 27 = .ok (.iaload, 1) := by decide +kernel
theorem dX7_piece_28 : decode cX7_piece 28 = .ok (.invokevirtual 138, 3) := by decide +kernel
theorem dX7_piece_31 : decode cX7_piece 31 = .ok (.pop, 1) := by decide +kernel
theorem dX7_piece_32 : decode cX7_piece 32 = .ok (.iload_n 2, 1) := by decide +kernel
theorem dX7_piece_33 : decode cX7_piece 33 = .ok (.iconst 0, 1) := by decide +kernel
theorem dX7_piece_34 : decode cX7_piece 34 = .ok (.aload_n 0, 1) := by decide +kernel
theorem dX7_piece_35 : decode cX7_piece 35 = .ok (.getfield 135, 3) := by decide +kernel
theorem dX7_piece_38 : decode cX7_piece 38 = .ok (.iconst 1, 1) := by decide +kernel
theorem dX7_piece_39 : decode cX7_piece 39 = .ok (.isub, 1) := by decide +kernel
theorem dX7_piece_40 : decode cX7_piece 40 = .ok (.invokestatic 104, 3) := by decide +kernel
theorem dX7_piece_43 : decode cX7_piece 43 = .ok (.ifCond .ne 6, 3) := by decide +kernel
theorem dX7_piece_46 : decode cX7_piece 46 = .ok (.bipush (-6), 2) := by decide +kernel
theorem dX7_piece_48 : decode cX7_piece 48 = .ok (.ireturn, 1) := by decide +kernel
theorem dX7_piece_49 : decode cX7_piece 49 = .ok (.aload_n 0, 1) := by decide +kernel
theorem dX7_piece_50 : decode cX7_piece 50 = .ok (.getfield 67, 3) := by decide +kernel
theorem dX7_piece_53 : decode cX7_piece 53 = .ok (.iload_n 2, 1) := by decide +kernel
theorem dX7_piece_54 : decode cX7_piece 54 = .ok (.iaload, 1) := by decide +kernel
theorem dX7_piece_55 : decode cX7_piece 55 = .ok (.istore 4, 2) := by decide +kernel
theorem dX7_piece_57 : decode cX7_piece 57 = .ok (.aload_n 0, 1) := by decide +kernel
theorem dX7_piece_58 : decode cX7_piece 58 = .ok (.getfield 7, 3) := by decide +kernel
theorem dX7_piece_61 : decode cX7_piece 61 = .ok (.iload 4, 2) := by decide +kernel
theorem dX7_piece_63 : decode cX7_piece 63 = .ok (.iaload, 1) := by decide +kernel
theorem dX7_piece_64 : decode cX7_piece 64 = .ok (.iconst 3, 1) := by decide +kernel
theorem dX7_piece_65 : decode cX7_piece 65 = .ok (.if_icmp .ne 7, 3) := by decide +kernel
theorem dX7_piece_68 : decode cX7_piece 68 = .ok (.iconst 1, 1) := by decide +kernel
theorem dX7_piece_69 : decode cX7_piece 69 = .ok (.goto 4, 3) := by decide +kernel
theorem dX7_piece_72 : decode cX7_piece 72 = .ok (.iconst 0, 1) := by decide +kernel
theorem dX7_piece_73 : decode cX7_piece 73 = .ok (.istore 5, 2) := by decide +kernel
theorem dX7_piece_75 : decode cX7_piece 75 = .ok (.iconst 0, 1) := by decide +kernel
theorem dX7_piece_76 : decode cX7_piece 76 = .ok (.istore 6, 2) := by decide +kernel
theorem dX7_piece_78 : decode cX7_piece 78 = .ok (.aload_n 0, 1) := by decide +kernel
theorem dX7_piece_79 : decode cX7_piece 79 = .ok (.getfield 67, 3) := by decide +kernel
theorem dX7_piece_82 : decode cX7_piece 82 = .ok (.iload 6, 2) := by decide +kernel
theorem dX7_piece_84 : decode cX7_piece 84 = .ok (.iaload, 1) := by decide +kernel
theorem dX7_piece_85 : decode cX7_piece 85 = .ok (.iload 4, 2) := by decide +kernel
theorem dX7_piece_87 : decode cX7_piece 87 = .ok (.if_icmp .eq 9, 3) := by decide +kernel
theorem dX7_piece_90 : decode cX7_piece 90 = .ok (.iinc 6 1, 3) := by decide +kernel
theorem dX7_piece_93 : decode cX7_piece 93 = .ok (.goto (-15), 3) := by decide +kernel
theorem dX7_piece_96 : decode cX7_piece 96 = .ok (.iload_n 3, 1) := by decide +kernel
theorem dX7_piece_97 : decode cX7_piece 97 = .ok (.ifCond .ne 13, 3) := by decide +kernel
theorem dX7_piece_100 : decode cX7_piece 100 = .ok (.aload_n 0, 1) := by decide +kernel
theorem dX7_piece_101 : decode cX7_piece 101 = .ok (.getfield 19, 3) := by decide +kernel
theorem dX7_piece_104 : decode cX7_piece 104 = .ok (.iload 4, 2) := by decide +kernel
theorem dX7_piece_106 : decode cX7_piece 106 = .ok (.iaload, 1) := by decide +kernel
theorem dX7_piece_107 : decode cX7_piece 107 = .ok (.goto 59, 3) := by decide +kernel
theorem dX7_piece_110 : decode cX7_piece 110 = .ok (.iload_n 3, 1) := by decide +kernel
theorem dX7_piece_111 : decode cX7_piece 111 = .ok (.iconst 1, 1) := by decide +kernel
theorem dX7_piece_112 : decode cX7_piece 112 = .ok (.if_icmp .ne 22, 3) := by decide +kernel
theorem dX7_piece_115 : decode cX7_piece 115 = .ok (.iload 5, 2) := by decide +kernel
theorem dX7_piece_117 : decode cX7_piece 117 = .ok (.ifCond .eq 13, 3) := by decide +kernel
theorem dX7_piece_120 : decode cX7_piece 120 = .ok (.aload_n 0, 1) := by decide +kernel
theorem dX7_piece_121 : decode cX7_piece 121 = .ok (.getfield 16, 3) := by decide +kernel
theorem dX7_piece_124 : decode cX7_piece 124 = .ok (.iload 4, 2) := by decide +kernel
theorem dX7_piece_126 : decode cX7_piece 126 = .ok (.iaload, 1) := by decide +kernel
theorem dX7_piece_127 : decode cX7_piece 127 = .ok (.goto 39, 3) := by decide +kernel
theorem dX7_piece_130 : decode cX7_piece 130 = .ok (.iconst 0, 1) := by decide +kernel
theorem dX7_piece_131 : decode cX7_piece 131 = .ok (.goto 35, 3) := by decide +kernel
theorem dX7_piece_134 : decode cX7_piece 134 = .ok (.iload_n 3, 1) := by decide +kernel
theorem dX7_piece_135 : decode cX7_piece 135 = .ok (.iconst 2, 1) := by decide +kernel
theorem dX7_piece_136 : decode cX7_piece 136 = .ok (.if_icmp .ne 28, 3) := by decide +kernel
theorem dX7_piece_139 : decode cX7_piece 139 = .ok (.aload_n 0, 1) := by decide +kernel
theorem dX7_piece_140 : decode cX7_piece 140 = .ok (.getfield 19, 3) := by decide +kernel
theorem dX7_piece_143 : decode cX7_piece 143 = .ok (.iload 5, 2) := by decide +kernel
theorem dX7_piece_145 : decode cX7_piece 145 = .ok (.ifCond .eq 13, 3) := by decide +kernel
theorem dX7_piece_148 : decode cX7_piece 148 = .ok (.aload_n 0, 1) := by decide +kernel
theorem dX7_piece_149 : decode cX7_piece 149 = .ok (.getfield 13, 3) := by decide +kernel
theorem dX7_piece_152 : decode cX7_piece 152 = .ok (.iload 4, 2) := by decide +kernel
theorem dX7_piece_154 : decode cX7_piece 154 = .ok (.iaload, 1) := by decide +kernel
