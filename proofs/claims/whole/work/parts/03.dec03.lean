theorem dX7_piece_155 : decode cX7_piece 155 = .ok (.goto 5, 3) := by decide +kernel
theorem dX7_piece_158 : decode cX7_piece 158 = .ok (.iload 4, 2) := by decide +kernel
theorem dX7_piece_160 : decode cX7_piece 160 = .ok (.iaload, 1) := by decide +kernel
theorem dX7_piece_161 : decode cX7_piece 161 = .ok (.goto 5, 3) := by decide +kernel
theorem dX7_piece_164 : decode cX7_piece 164 = .ok (.iload 6, 2) := by decide +kernel
theorem dX7_piece_166 : decode cX7_piece 166 = .ok (.ireturn, 1) := by decide +kernel
theorem dX7_layBoth_0 : decode cX7_layBoth 0 = .ok (.aload_n 0, 1) := by decide +kernel
theorem dX7_layBoth_1 : decode cX7_layBoth 1 = .ok (.aload_n 0, 1) := by decide +kernel
theorem dX7_layBoth_2 : decode cX7_layBoth 2 = .ok (.iload_n 1, 1) := by decide +kernel
theorem dX7_layBoth_3 : decode cX7_layBoth 3 = .ok (.iconst 0, 1) := by decide +kernel
theorem dX7_layBoth_4 : decode cX7_layBoth 4 = .ok (.invokevirtual 154, 3) := by decide +kernel
theorem dX7_layBoth_7 : decode cX7_layBoth 7 = .ok (.putfield 200, 3) := by decide +kernel
theorem dX7_layBoth_10 : decode cX7_layBoth 10 = .ok (.aload_n 0, 1) := by decide +kernel
theorem dX7_layBoth_11 : decode cX7_layBoth 11 = .ok (.aload_n 0, 1) := by decide +kernel
theorem dX7_layBoth_12 : decode cX7_layBoth 12 = .ok (.iload_n 2, 1) := by decide +kernel
theorem dX7_layBoth_13 : decode cX7_layBoth 13 = .ok (.aload_n 0, 1) := by decide +kernel
theorem dX7_layBoth_14 : decode cX7_layBoth 14 = .ok (.getfield 200, 3) := by decide +kernel
theorem dX7_layBoth_17 : decode cX7_layBoth 17 = .ok (.invokevirtual 154, 3) := by decide +kernel
theorem dX7_layBoth_20 : decode cX7_layBoth 20 = .ok (.putfield 203, 3) := by decide +kernel
theorem dX7_layBoth_23 : decode cX7_layBoth 23 = .ok (.return_, 1) := by decide +kernel
theorem dX7_alikeSigns_0 : decode cX7_alikeSigns 0 = .ok (.iconst 0, 1) := by decide +kernel
theorem dX7_alikeSigns_1 : decode cX7_alikeSigns 1 = .ok (.istore_n 1, 1) := by decide +kernel
theorem dX7_alikeSigns_2 : decode cX7_alikeSigns 2 = .ok (.iload_n 1, 1) := by decide +kernel
theorem dX7_alikeSigns_3 : decode cX7_alikeSigns 3 = .ok (.aload_n 0, 1) := by decide +kernel
theorem dX7_alikeSigns_4 : decode cX7_alikeSigns 4 = .ok (.getfield 200, 3) := by decide +kernel
theorem dX7_alikeSigns_7 : decode cX7_alikeSigns 7 = .ok (.if_icmp .ge 37, 3) := by decide +kernel
theorem dX7_alikeSigns_10 : decode cX7_alikeSigns 10 = .ok (.iload_n 1, 1) := by decide +kernel
theorem dX7_alikeSigns_11 : decode cX7_alikeSigns 11 = .ok (.aload_n 0, 1) := by decide +kernel
theorem dX7_alikeSigns_12 : decode cX7_alikeSigns 12 = .ok (.getfield 203, 3) := by decide +kernel
theorem dX7_alikeSigns_15 : decode cX7_alikeSigns 15 = .ok (.if_icmp .ge 29, 3) := by decide +kernel
theorem dX7_alikeSigns_18 : decode cX7_alikeSigns 18 = .ok (.aload_n 0, 1) := by decide +kernel
theorem dX7_alikeSigns_19 : decode cX7_alikeSigns 19 = .ok (.getfield 61, 3) := by decide +kernel
theorem dX7_alikeSigns_22 : decode cX7_alikeSigns 22 = .ok (.iload_n 1, 1) := by decide +kernel
theorem dX7_alikeSigns_23 : decode cX7_alikeSigns 23 = .ok (.iaload, 1) := by decide +kernel
theorem dX7_alikeSigns_24 : decode cX7_alikeSigns 24 = .ok (.aload_n 0, 1) := by decide +kernel
theorem dX7_alikeSigns_25 : decode cX7_alikeSigns 25 = .ok (.getfield 61, 3) := by decide +kernel
theorem dX7_alikeSigns_28 : decode cX7_alikeSigns 28 = .ok (.aload_n 0, 1) := by decide +kernel
theorem dX7_alikeSigns_29 : decode cX7_alikeSigns 29 = .ok (.getfield 200, 3) := by decide +kernel
theorem dX7_alikeSigns_32 : decode cX7_alikeSigns 32 = .ok (.iload_n 1, 1) := by decide +kernel
theorem dX7_alikeSigns_33 : decode cX7_alikeSigns 33 = .ok (.iadd, 1) := by decide +kernel
theorem dX7_alikeSigns_34 : decode cX7_alikeSigns 34 = .ok (.iaload, 1) := by decide +kernel
theorem dX7_alikeSigns_35 : decode cX7_alikeSigns 35 = .ok (.if_icmp .ne 9, 3) := by decide +kernel
theorem dX7_alikeSigns_38 : decode cX7_alikeSigns 38 = .ok (.iinc 1 1, 3) := by decide +kernel
theorem dX7_alikeSigns_41 : decode cX7_alikeSigns 41 = .ok (.goto (-39), 3) := by decide +kernel
theorem dX7_alikeSigns_44 : decode cX7_alikeSigns 44 = .ok (.iload_n 1, 1) := by decide +kernel
theorem dX7_alikeSigns_45 : decode cX7_alikeSigns 45 = .ok (.ireturn, 1) := by decide +kernel
theorem dX7_areSame_0 : decode cX7_areSame 0 = .ok (.aload_n 0, 1) := by decide +kernel
theorem dX7_areSame_1 : decode cX7_areSame 1 = .ok (.iload_n 1, 1) := by decide +kernel
theorem dX7_areSame_2 : decode cX7_areSame 2 = .ok (.iload_n 2, 1) := by decide +kernel
theorem dX7_areSame_3 : decode cX7_areSame 3 = .ok (.invokevirtual 206, 3) := by decide +kernel
theorem dX7_areSame_6 : decode cX7_areSame 6 = .ok (.aload_n 0, 1) := by decide +kernel
theorem dX7_areSame_7 : decode cX7_areSame 7 = .ok (.getfield 200, 3) := by decide +kernel
theorem dX7_areSame_10 : decode cX7_areSame 10 = .ok (.aload_n 0, 1) := by decide +kernel
theorem dX7_areSame_11 : decode cX7_areSame 11 = .ok (.getfield 203, 3) := by decide +kernel
theorem dX7_areSame_14 : decode cX7_areSame 14 = .ok (.if_icmp .ne 18, 3) := by decide +kernel
theorem dX7_areSame_17 : decode cX7_areSame 17 = .ok (.aload_n 0, 1) := by decide +kernel
theorem dX7_areSame_18 : decode cX7_areSame 18 = .ok (.invokevirtual 210, 3) := by decide +kernel
theorem dX7_areSame_21 : decode cX7_areSame 21 = .ok (.aload_n 0, 1) := by decide +kernel
theorem dX7_areSame_22 : decode cX7_areSame 22 = .ok (.getfield 200, 3) := by decide +kernel
theorem dX7_areSame_25 : decode cX7_areSame 25 = .ok (.if_icmp .ne 7, 3) := by decide +kernel
theorem dX7_areSame_28 : decode cX7_areSame 28 = .ok (.iconst 1, 1) := by decide +kernel
theorem dX7_areSame_29 : decode cX7_areSame 29 = .ok (.goto 4, 3) := by decide +kernel
theorem dX7_areSame_32 : decode cX7_areSame 32 = .ok (.iconst 0, 1) := by decide +kernel
theorem dX7_areSame_33 : decode cX7_areSame 33 = .ok (.ireturn, 1) := by decide +kernel
theorem dX7_placeIn_0 : decode cX7_placeIn 0 = .ok (.iconst 0, 1) := by decide +kernel
theorem dX7_placeIn_1 : decode cX7_placeIn 1 = .ok (.istore_n 1, 1) := by decide +kernel
theorem dX7_placeIn_2 : decode cX7_placeIn 2 = .ok (.iload_n 1, 1) := by decide +kernel
theorem dX7_placeIn_3 : decode cX7_placeIn 3 = .ok (.aload_n 0, 1) := by decide +kernel
theorem dX7_placeIn_4 : decode cX7_placeIn 4 = .ok (.getfield 203, 3) := by decide +kernel
theorem dX7_placeIn_7 : decode cX7_placeIn 7 = .ok (.iadd, 1) := by decide +kernel
theorem dX7_placeIn_8 : decode cX7_placeIn 8 = .ok (.aload_n 0, 1) := by decide +kernel
theorem dX7_placeIn_9 : decode cX7_placeIn 9 = .ok (.getfield 200, 3) := by decide +kernel
theorem dX7_placeIn_12 : decode cX7_placeIn 12 = .ok (.if_icmp .gt 57, 3) := by decide +kernel
theorem dX7_placeIn_15 : decode cX7_placeIn 15 = .ok (.iconst 0, 1) := by decide +kernel
theorem dX7_placeIn_16 : decode cX7_placeIn 16 = .ok (.istore_n 2, 1) := by decide +kernel
theorem dX7_placeIn_17 : decode cX7_placeIn 17 = .ok (.iload_n 2, 1) := by decide +kernel
theorem dX7_placeIn_18 : decode cX7_placeIn 18 = .ok (.aload_n 0, 1) := by decide +kernel
theorem dX7_placeIn_19 : decode cX7_placeIn 19 = .ok (.getfield 203, 3) := by decide +kernel
theorem dX7_placeIn_22 : decode cX7_placeIn 22 = .ok (.if_icmp .ge 31, 3) := by decide +kernel
theorem dX7_placeIn_25 : decode cX7_placeIn 25 = .ok (.aload_n 0, 1) := by decide +kernel
theorem dX7_placeIn_26 : decode cX7_placeIn 26 = .ok (.getfield 61, 3) := by decide +kernel
theorem dX7_placeIn_29 : decode cX7_placeIn 29 = .ok (.iload_n 1, 1) := by decide +kernel
theorem dX7_placeIn_30 : decode cX7_placeIn 30 = .ok (.iload_n 2, 1) := by decide +kernel
theorem dX7_placeIn_31 : decode cX7_placeIn 31 = .ok (.iadd, 1) := by decide +kernel
theorem dX7_placeIn_32 : decode cX7_placeIn 32 = .ok (.iaload, 1) := by decide +kernel
theorem dX7_placeIn_33 : decode cX7_placeIn 33 = .ok (.aload_n 0, 1) := by decide +kernel
theorem dX7_placeIn_34 : decode cX7_placeIn 34 = .ok (.getfield 61, 3) := by decide +kernel
theorem dX7_placeIn_37 : decode cX7_placeIn 37 = .ok (.aload_n 0, 1) := by decide +kernel
theorem dX7_placeIn_38 : decode cX7_placeIn 38 = .ok (.getfield 200, 3) := by decide +kernel
theorem dX7_placeIn_41 : decode cX7_placeIn 41 = .ok (.iload_n 2, 1) := by decide +kernel
theorem dX7_placeIn_42 : decode cX7_placeIn 42 = .ok (.iadd, 1) := by decide +kernel
theorem dX7_placeIn_43 : decode cX7_placeIn 43 = .ok (.iaload, 1) := by decide +kernel
theorem dX7_placeIn_44 : decode cX7_placeIn 44 = .ok (.if_icmp .ne 9, 3) := by decide +kernel
theorem dX7_placeIn_47 : decode cX7_placeIn 47 = .ok (.iinc 2 1, 3) := by decide +kernel
theorem dX7_placeIn_50 : decode cX7_placeIn 50 = .ok (.goto (-33), 3) := by decide +kernel
theorem dX7_placeIn_53 : decode cX7_placeIn 53 = .ok (.iload_n 2, 1) := by decide +kernel
theorem dX7_placeIn_54 : decode cX7_placeIn 54 = .ok (.aload_n 0, 1) := by decide +kernel
theorem dX7_placeIn_55 : decode cX7_placeIn 55 = .ok (.getfield 203, 3) := by decide +kernel
theorem dX7_placeIn_58 : decode cX7_placeIn 58 = .ok (.if_icmp .ne 5, 3) := by decide +kernel
theorem dX7_placeIn_61 : decode cX7_placeIn 61 = .ok (.iload_n 1, 1) := by decide +kernel
theorem dX7_placeIn_62 : decode cX7_placeIn 62 = .ok (.ireturn, 1) := by decide +kernel
theorem dX7_placeIn_63 : decode cX7_placeIn 63 = .ok (.iinc 1 1, 3) := by decide +kernel
theorem dX7_placeIn_66 : decode cX7_placeIn 66 = .ok (.goto (-64), 3) := by decide +kernel
theorem dX7_placeIn_69 : decode cX7_placeIn 69 = .ok (.bipush (-6), 2) := by decide +kernel
theorem dX7_placeIn_71 : decode cX7_placeIn 71 = .ok (.ireturn, 1) := by decide +kernel
theorem dX7_comesFirst_0 : decode cX7_comesFirst 0 = .ok (.aload_n 0, 1) := by decide +kernel
theorem dX7_comesFirst_1 : decode cX7_comesFirst 1 = .ok (.invokevirtual 210, 3) := by decide +kernel
theorem dX7_comesFirst_4 : decode cX7_comesFirst 4 = .ok (.istore_n 1, 1) := by decide +kernel
theorem dX7_comesFirst_5 : decode cX7_comesFirst 5 = .ok (.iload_n 1, 1) := by decide +kernel
theorem dX7_comesFirst_6 : decode cX7_comesFirst 6 = .ok (.aload_n 0, 1) := by decide +kernel
theorem dX7_comesFirst_7 : decode cX7_comesFirst 7 = .ok (.getfield 200, 3) := by decide +kernel
theorem dX7_comesFirst_10 : decode cX7_comesFirst 10 = .ok (.if_icmp .eq 11, 3) := by decide +kernel
theorem dX7_comesFirst_13 : decode cX7_comesFirst 13 = .ok (.iload_n 1, 1) := by decide +kernel
theorem dX7_comesFirst_14 : decode cX7_comesFirst 14 = .ok (.aload_n 0, 1) := by decide +kernel
theorem dX7_comesFirst_15 : decode cX7_comesFirst 15 = .ok (.getfield 203, 3) := by decide +kernel
theorem dX7_comesFirst_18 : decode cX7_comesFirst 18 = .ok (.if_icmp .ne 20, 3) := by decide +kernel
theorem dX7_comesFirst_21 : decode cX7_comesFirst 21 = .ok (.aload_n 0, 1) := by decide +kernel
theorem dX7_comesFirst_22 : decode cX7_comesFirst 22 = .ok (.getfield 200, 3) := by decide +kernel
theorem dX7_comesFirst_25 : decode cX7_comesFirst 25 = .ok (.aload_n 0, 1) := by decide +kernel
theorem dX7_comesFirst_26 : decode cX7_comesFirst 26 = .ok (.getfield 203, 3) := by decide +kernel
theorem dX7_comesFirst_29 : decode cX7_comesFirst 29 = .ok (.if_icmp .ge 7, 3) := by decide +kernel
theorem dX7_comesFirst_32 : decode cX7_comesFirst 32 = .ok (.iconst 1, 1) := by decide +kernel
theorem dX7_comesFirst_33 : decode cX7_comesFirst 33 = .ok (.goto 4, 3) := by decide +kernel
theorem dX7_comesFirst_36 : decode cX7_comesFirst 36 = .ok (.iconst 0, 1) := by decide +kernel
theorem dX7_comesFirst_37 : decode cX7_comesFirst 37 = .ok (.ireturn, 1) := by decide +kernel
theorem dX7_comesFirst_38 : decode cX7_comesFirst 38 = .ok (.aload_n 0, 1) := by decide +kernel
theorem dX7_comesFirst_39 : decode cX7_comesFirst 39 = .ok (.getfield 61, 3) := by decide +kernel
theorem dX7_comesFirst_42 : decode cX7_comesFirst 42 = .ok (.iload_n 1, 1) := by decide +kernel
theorem dX7_comesFirst_43 : decode cX7_comesFirst 43 = .ok (.iaload, 1) := by decide +kernel
theorem dX7_comesFirst_44 : decode cX7_comesFirst 44 = .ok (.aload_n 0, 1) := by decide +kernel
theorem dX7_comesFirst_45 : decode cX7_comesFirst 45 = .ok (.getfield 61, 3) := by decide +kernel
theorem dX7_comesFirst_48 : decode cX7_comesFirst 48 = .ok (.aload_n 0, 1) := by decide +kernel
theorem dX7_comesFirst_49 : decode cX7_comesFirst 49 = .ok (.getfield 200, 3) := by decide +kernel
theorem dX7_comesFirst_52 : decode cX7_comesFirst 52 = .ok (.iload_n 1, 1) := by decide +kernel
theorem dX7_comesFirst_53 : decode cX7_comesFirst 53 = .ok (.iadd, 1) := by decide +kernel
theorem dX7_comesFirst_54 : decode cX7_comesFirst 54 = .ok (.iaload, 1) := by decide +kernel
theorem dX7_comesFirst_55 : decode cX7_comesFirst 55 = .ok (.if_icmp .ge 7, 3) := by decide +kernel
theorem dX7_comesFirst_58 : decode cX7_comesFirst 58 = .ok (.iconst 1, 1) := by decide +kernel
theorem dX7_comesFirst_59 : decode cX7_comesFirst 59 = .ok (.goto 4, 3) := by decide +kernel
theorem dX7_comesFirst_62 : decode cX7_comesFirst 62 = .ok (.iconst 0, 1) := by decide +kernel
theorem dX7_comesFirst_63 : decode cX7_comesFirst 63 = .ok (.ireturn, 1) := by decide +kernel
theorem dX7_alike_0 : decode cX7_alike 0 = .ok (.iload_n 1, 1) := by decide +kernel
theorem dX7_alike_1 : decode cX7_alike 1 = .ok (.invokestatic 181, 3) := by decide +kernel
theorem dX7_alike_4 : decode cX7_alike 4 = .ok (.ifCond .eq 10, 3) := by decide +kernel
theorem dX7_alike_7 : decode cX7_alike 7 = .ok (.iload_n 2, 1) := by decide +kernel
theorem dX7_alike_8 : decode cX7_alike 8 = .ok (.invokestatic 181, 3) := by decide +kernel
theorem dX7_alike_11 : decode cX7_alike 11 = .ok (.ifCond .ne 5, 3) := by decide +kernel
theorem dX7_alike_14 : decode cX7_alike 14 = .ok (.iconst (-1), 1) := by decide +kernel
theorem dX7_alike_15 : decode cX7_alike 15 = .ok (.ireturn, 1) := by decide +kernel
theorem dX7_alike_16 : decode cX7_alike 16 = .ok (.aload_n 0, 1) := by decide +kernel
theorem dX7_alike_17 : decode cX7_alike 17 = .ok (.aload_n 0, 1) := by decide +kernel
theorem dX7_alike_18 : decode cX7_alike 18 = .ok (.getfield 34, 3) := by decide +kernel
theorem dX7_alike_21 : decode cX7_alike 21 = .ok (.iload_n 1, 1) := by decide +kernel
theorem dX7_alike_22 : decode cX7_alike 22 = .ok (.iaload, 1) := by decide +kernel
theorem dX7_alike_23 : decode cX7_alike 23 = .ok (.aload_n 0, 1) := by decide +kernel
theorem dX7_alike_24 : decode cX7_alike 24 = .ok (.getfield 34, 3) := by decide +kernel
theorem dX7_alike_27 : decode cX7_alike 27 = .ok (.iload_n 2, 1) := by decide +kernel
theorem dX7_alike_28 : decode cX7_alike 28 = .ok (.iaload, 1) := by decide +kernel
theorem dX7_alike_29 : decode cX7_alike 29 = .ok (.invokevirtual 213, 3) := by decide +kernel
theorem dX7_alike_32 : decode cX7_alike 32 = .ok (.istore 4, 2) := by decide +kernel
theorem dX7_alike_34 : decode cX7_alike 34 = .ok (.iload_n 3, 1) := by decide +kernel
theorem dX7_alike_35 : decode cX7_alike 35 = .ok (.tableswitch 88 0 4 #[33, 44, 65, 70, 75], 33) := by decide +kernel
theorem dX7_alike_68 : decode cX7_alike 68 = .ok (.iload 4, 2) := by decide +kernel
theorem dX7_alike_70 : decode cX7_alike 70 = .ok (.ifCond .eq 7, 3) := by decide +kernel
theorem dX7_alike_73 : decode cX7_alike 73 = .ok (.iconst 1, 1) := by decide +kernel
theorem dX7_alike_74 : decode cX7_alike 74 = .ok (.goto 4, 3) := by decide +kernel
theorem dX7_alike_77 : decode cX7_alike 77 = .ok (.iconst 0, 1) := by decide +kernel
theorem dX7_alike_78 : decode cX7_alike 78 = .ok (.ireturn, 1) := by decide +kernel
theorem dX7_alike_79 : decode cX7_alike 79 = .ok (.aload_n 0, 1) := by decide +kernel
theorem dX7_alike_80 : decode cX7_alike 80 = .ok (.getfield 34, 3) := by decide +kernel
theorem dX7_alike_83 : decode cX7_alike 83 = .ok (.iload_n 1, 1) := by decide +kernel
theorem dX7_alike_84 : decode cX7_alike 84 = .ok (.iaload, 1) := by decide +kernel
theorem dX7_alike_85 : decode cX7_alike 85 = .ok (.aload_n 0, 1) := by decide +kernel
theorem dX7_alike_86 : decode cX7_alike 86 = .ok (.getfield 34, 3) := by decide +kernel
theorem dX7_alike_89 : decode cX7_alike 89 = .ok (.iload_n 2, 1) := by decide +kernel
theorem dX7_alike_90 : decode cX7_alike 90 = .ok (.iaload, 1) := by decide +kernel
theorem dX7_alike_91 : decode cX7_alike 91 = .ok (.if_icmp .ne 7, 3) := by decide +kernel
theorem dX7_alike_94 : decode cX7_alike 94 = .ok (.iconst 1, 1) := by decide +kernel
theorem dX7_alike_95 : decode cX7_alike 95 = .ok (.goto 4, 3) := by decide +kernel
theorem dX7_alike_98 : decode cX7_alike 98 = .ok (.iconst 0, 1) := by decide +kernel
theorem dX7_alike_99 : decode cX7_alike 99 = .ok (.ireturn, 1) := by decide +kernel
theorem dX7_alike_100 : decode cX7_alike 100 = .ok (.aload_n 0, 1) := by decide +kernel
theorem dX7_alike_101 : decode cX7_alike 101 = .ok (.invokevirtual 210, 3) := by decide +kernel
theorem dX7_alike_104 : decode cX7_alike 104 = .ok (.ireturn, 1) := by decide +kernel
theorem dX7_alike_105 : decode cX7_alike 105 = .ok (.aload_n 0, 1) := by decide +kernel
theorem dX7_alike_106 : decode cX7_alike 106 = .ok (.invokevirtual 217, 3) := by decide +kernel
theorem dX7_alike_109 : decode cX7_alike 109 = .ok (.ireturn, 1) := by decide +kernel
theorem dX7_alike_110 : decode cX7_alike 110 = .ok (.aload_n 0, 1) := by decide +kernel
theorem dX7_alike_111 : decode cX7_alike 111 = .ok (.invokevirtual 220, 3) := by decide +kernel
theorem dX7_alike_114 : decode cX7_alike 114 = .ok (.ifCond .eq 7, 3) := by decide +kernel
theorem dX7_alike_117 : decode cX7_alike 117 = .ok (.iconst 1, 1) := by decide +kernel
theorem dX7_alike_118 : decode cX7_alike 118 = .ok (.goto 4, 3) := by decide +kernel
theorem dX7_alike_121 : decode cX7_alike 121 = .ok (.iconst 0, 1) := by decide +kernel
theorem dX7_alike_122 : decode cX7_alike 122 = .ok (.ireturn, 1) := by decide +kernel
theorem dX7_alike_123 : decode cX7_alike 123 = .ok (.bipush (-2), 2) := by decide +kernel
theorem dX7_alike_125 : decode cX7_alike 125 = .ok (.ireturn, 1) := by decide +kernel
theorem dX7_intern_0 : decode cX7_intern 0 = .ok (.iload_n 1, 1) := by decide +kernel
theorem dX7_intern_1 : decode cX7_intern 1 = .ok (.invokestatic 181, 3) := by decide +kernel
theorem dX7_intern_4 : decode cX7_intern 4 = .ok (.ifCond .ne 5, 3) := by decide +kernel
theorem dX7_intern_7 : decode cX7_intern 7 = .ok (.iconst (-1), 1) := by decide +kernel
theorem dX7_intern_8 : decode cX7_intern 8 = .ok (.ireturn, 1) := by decide +kernel
theorem dX7_intern_9 : decode cX7_intern 9 = .ok (.iconst 0, 1) := by decide +kernel
theorem dX7_intern_10 : decode cX7_intern 10 = .ok (.istore_n 2, 1) := by decide +kernel
theorem dX7_intern_11 : decode cX7_intern 11 = .ok (.iload_n 2, 1) := by decide +kernel
theorem dX7_intern_12 : decode cX7_intern 12 = .ok (.aload_n 0, 1) := by decide +kernel
theorem dX7_intern_13 : decode cX7_intern 13 = .ok (.getfield 129, 3) := by decide +kernel
theorem dX7_intern_16 : decode cX7_intern 16 = .ok (.if_icmp .ge 47, 3) := by decide +kernel
theorem dX7_intern_19 : decode cX7_intern 19 = .ok (.aload_n 0, 1) := by decide +kernel
theorem dX7_intern_20 : decode cX7_intern 20 = .ok (.aload_n 0, 1) := by decide +kernel
theorem dX7_intern_21 : decode cX7_intern 21 = .ok (.getfield 34, 3) := by decide +kernel
theorem dX7_intern_24 : decode cX7_intern 24 = .ok (.iload_n 1, 1) := by decide +kernel
theorem dX7_intern_25 : decode cX7_intern 25 = .ok (.iaload, 1) := by decide +kernel
theorem dX7_intern_26 : decode cX7_intern 26 = .ok (.aload_n 0, 1) := by decide +kernel
theorem dX7_intern_27 : decode cX7_intern 27 = .ok (.getfield 43, 3) := by decide +kernel
theorem dX7_intern_30 : decode cX7_intern 30 = .ok (.iload_n 2, 1) := by decide +kernel
theorem dX7_intern_31 : decode cX7_intern 31 = .ok (.iaload, 1) := by decide +kernel
theorem dX7_intern_32 : decode cX7_intern 32 = .ok (.invokevirtual 213, 3) := by decide +kernel
theorem dX7_intern_35 : decode cX7_intern 35 = .ok (.ifCond .eq 22, 3) := by decide +kernel
theorem dX7_intern_38 : decode cX7_intern 38 = .ok (.aload_n 0, 1) := by decide +kernel
theorem dX7_intern_39 : decode cX7_intern 39 = .ok (.getfield 34, 3) := by decide +kernel
theorem dX7_intern_42 : decode cX7_intern 42 = .ok (.iload_n 1, 1) := by decide +kernel
theorem dX7_intern_43 : decode cX7_intern 43 = .ok (.aload_n 0, 1) := by decide +kernel
theorem dX7_intern_44 : decode cX7_intern 44 = .ok (.getfield 43, 3) := by decide +kernel
theorem dX7_intern_47 : decode cX7_intern 47 = .ok (.iload_n 2, 1) := by decide +kernel
theorem dX7_intern_48 : decode cX7_intern 48 = .ok (.iaload, 1) := by decide +kernel
theorem dX7_intern_49 : decode cX7_intern 49 = .ok (.iastore, 1) := by decide +kernel
theorem dX7_intern_50 : decode cX7_intern 50 = .ok (.aload_n 0, 1) := by decide +kernel
theorem dX7_intern_51 : decode cX7_intern 51 = .ok (.getfield 46, 3) := by decide +kernel
theorem dX7_intern_54 : decode cX7_intern 54 = .ok (.iload_n 2, 1) := by decide +kernel
theorem dX7_intern_55 : decode cX7_intern 55 = .ok (.iaload, 1) := by decide +kernel
theorem dX7_intern_56 : decode cX7_intern 56 = .ok (.ireturn, 1) := by decide +kernel
theorem dX7_intern_57 : decode cX7_intern 57 = .ok (.iinc 2 1, 3) := by decide +kernel
theorem dX7_intern_60 : decode cX7_intern 60 = .ok (.goto (-49), 3) := by decide +kernel
theorem dX7_intern_63 : decode cX7_intern 63 = .ok (.aload_n 0, 1) := by decide +kernel
theorem dX7_intern_64 : decode cX7_intern 64 = .ok (.getfield 129, 3) := by decide +kernel
theorem dX7_intern_67 : decode cX7_intern 67 = .ok (.bipush 24, 2) := by decide +kernel
theorem dX7_intern_69 : decode cX7_intern 69 = .ok (.if_icmp .ne 6, 3) := by decide +kernel
theorem dX7_intern_72 : decode cX7_intern 72 = .ok (.bipush (-4), 2) := by decide +kernel
theorem dX7_intern_74 : decode cX7_intern 74 = .ok (.ireturn, 1) := by decide +kernel
theorem dX7_intern_75 : decode cX7_intern 75 = .ok (.aload_n 0, 1) := by decide +kernel
theorem dX7_intern_76 : decode cX7_intern 76 = .ok (.getfield 43, 3) := by decide +kernel
theorem dX7_intern_79 : decode cX7_intern 79 = .ok (.aload_n 0, 1) := by decide +kernel
theorem dX7_intern_80 : decode cX7_intern 80 = .ok (.getfield 129, 3) := by decide +kernel
theorem dX7_intern_83 : decode cX7_intern 83 = .ok (.aload_n 0, 1) := by decide +kernel
theorem dX7_intern_84 : decode cX7_intern 84 = .ok (.getfield 34, 3) := by decide +kernel
theorem dX7_intern_87 : decode cX7_intern 87 = .ok (.iload_n 1, 1) := by decide +kernel
theorem dX7_intern_88 : decode cX7_intern 88 = .ok (.iaload, 1) := by decide +kernel
theorem dX7_intern_89 : decode cX7_intern 89 = .ok (.iastore, 1) := by decide +kernel
theorem dX7_intern_90 : decode cX7_intern 90 = .ok (.aload_n 0, 1) := by decide +kernel
theorem dX7_intern_91 : decode cX7_intern 91 = .ok (.getfield 46, 3) := by decide +kernel
theorem dX7_intern_94 : decode cX7_intern 94 = .ok (.aload_n 0, 1) := by decide +kernel
theorem dX7_intern_95 : decode cX7_intern 95 = .ok (.getfield 129, 3) := by decide +kernel
theorem dX7_intern_98 : decode cX7_intern 98 = .ok (.aload_n 0, 1) := by decide +kernel
theorem dX7_intern_99 : decode cX7_intern 99 = .ok (.getfield 224, 3) := by decide +kernel
theorem dX7_intern_102 : decode cX7_intern 102 = .ok (.iastore, 1) := by decide +kernel
theorem dX7_intern_103 : decode cX7_intern 103 = .ok (.aload_n 0, 1) := by decide +kernel
theorem dX7_intern_104 : decode cX7_intern 104 = .ok (.dup, 1) := by decide +kernel
theorem dX7_intern_105 : decode cX7_intern 105 = .ok (.getfield 129, 3) := by decide +kernel
theorem dX7_intern_108 : decode cX7_intern 108 = .ok (.iconst 1, 1) := by decide +kernel
theorem dX7_intern_109 : decode cX7_intern 109 = .ok (.iadd, 1) := by decide +kernel
theorem dX7_intern_110 : decode cX7_intern 110 = .ok (.putfield 129, 3) := by decide +kernel
theorem dX7_intern_113 : decode cX7_intern 113 = .ok (.aload_n 0, 1) := by decide +kernel
theorem dX7_intern_114 : decode cX7_intern 114 = .ok (.dup, 1) := by decide +kernel
theorem dX7_intern_115 : decode cX7_intern 115 = .ok (.getfield 224, 3) := by decide +kernel
theorem dX7_intern_118 : decode cX7_intern 118 = .ok (.iconst 1, 1) := by decide +kernel
theorem dX7_intern_119 : decode cX7_intern 119 = .ok (.iadd, 1) := by decide +kernel
theorem dX7_intern_120 : decode cX7_intern 120 = .ok (.putfield 224, 3) := by decide +kernel
theorem dX7_intern_123 : decode cX7_intern 123 = .ok (.aload_n 0, 1) := by decide +kernel
theorem dX7_intern_124 : decode cX7_intern 124 = .ok (.getfield 224, 3) := by decide +kernel
theorem dX7_intern_127 : decode cX7_intern 127 = .ok (.iconst 1, 1) := by decide +kernel
theorem dX7_intern_128 : decode cX7_intern 128 = .ok (.isub, 1) := by decide +kernel
theorem dX7_intern_129 : decode cX7_intern 129 = .ok (.ireturn, 1) := by decide +kernel
theorem dX7_markHeld_0 : decode cX7_markHeld 0 = .ok (.aload_n 0, 1) := by decide +kernel
theorem dX7_markHeld_1 : decode cX7_markHeld 1 = .ok (.invokevirtual 123, 3) := by decide +kernel
theorem dX7_markHeld_4 : decode cX7_markHeld 4 = .ok (.iconst 0, 1) := by decide +kernel
theorem dX7_markHeld_5 : decode cX7_markHeld 5 = .ok (.istore_n 1, 1) := by decide +kernel
theorem dX7_markHeld_6 : decode cX7_markHeld 6 = .ok (.iconst 0, 1) := by decide +kernel
theorem dX7_markHeld_7 : decode cX7_markHeld 7 = .ok (.istore_n 2, 1) := by decide +kernel
theorem dX7_markHeld_8 : decode cX7_markHeld 8 = .ok (.iload_n 2, 1) := by decide +kernel
theorem dX7_markHeld_9 : decode cX7_markHeld 9 = .ok (.bipush 8, 2) := by decide +kernel
theorem dX7_markHeld_11 : decode cX7_markHeld 11 = .ok (.if_icmp .ge 22, 3) := by decide +kernel
theorem dX7_markHeld_14 : decode cX7_markHeld 14 = .ok (.iload_n 1, 1) := by decide +kernel
theorem dX7_markHeld_15 : decode cX7_markHeld 15 = .ok (.aload_n 0, 1) := by decide +kernel
theorem dX7_markHeld_16 : decode cX7_markHeld 16 = .ok (.aload_n 0, 1) := by decide +kernel
theorem dX7_markHeld_17 : decode cX7_markHeld 17 = .ok (.getfield 34, 3) := by decide +kernel
theorem dX7_markHeld_20 : decode cX7_markHeld 20 = .ok (.iload_n 2, 1) := by decide +kernel
theorem dX7_markHeld_21 : decode cX7_markHeld 21 = .ok (.iaload, 1) := by decide +kernel
theorem dX7_markHeld_22 : decode cX7_markHeld 22 = .ok (.invokevirtual 126, 3) := by decide +kernel
theorem dX7_markHeld_25 : decode cX7_markHeld 25 = .ok (.iadd, 1) := by decide +kernel
theorem dX7_markHeld_26 : decode cX7_markHeld 26 = .ok (.istore_n 1, 1) := by decide +kernel
theorem dX7_markHeld_27 : decode cX7_markHeld 27 = .ok (.iinc 2 1, 3) := by decide +kernel
theorem dX7_markHeld_30 : decode cX7_markHeld 30 = .ok (.goto (-22), 3) := by decide +kernel
theorem dX7_markHeld_33 : decode cX7_markHeld 33 = .ok (.iload_n 1, 1) := by decide +kernel
theorem dX7_markHeld_34 : decode cX7_markHeld 34 = .ok (.ireturn, 1) := by decide +kernel
theorem dX7_sweep_0 : decode cX7_sweep 0 = .ok (.aload_n 0, 1) := by decide +kernel
theorem dX7_sweep_1 : decode cX7_sweep 1 = .ok (.invokevirtual 227, 3) := by decide +kernel
theorem dX7_sweep_4 : decode cX7_sweep 4 = .ok (.pop, 1) := by decide +kernel
theorem dX7_sweep_5 : decode cX7_sweep 5 = .ok (.iconst 0, 1) := by decide +kernel
theorem dX7_sweep_6 : decode cX7_sweep 6 = .ok (.istore_n 1, 1) := by decide +kernel
theorem dX7_sweep_7 : decode cX7_sweep 7 = .ok (.iconst 0, 1) := by decide +kernel
theorem dX7_sweep_8 : decode cX7_sweep 8 = .ok (.istore_n 2, 1) := by decide +kernel
theorem dX7_sweep_9 : decode cX7_sweep 9 = .ok (.iload_n 2, 1) := by decide +kernel
theorem dX7_sweep_10 : decode cX7_sweep 10 = .ok (.aload_n 0, 1) := by decide +kernel
theorem dX7_sweep_11 : decode cX7_sweep 11 = .ok (.getfield 129, 3) := by decide +kernel
theorem dX7_sweep_14 : decode cX7_sweep 14 = .ok (.if_icmp .ge 50, 3) := by decide +kernel
theorem dX7_sweep_17 : decode cX7_sweep 17 = .ok (.aload_n 0, 1) := by decide +kernel
theorem dX7_sweep_18 : decode cX7_sweep 18 = .ok (.getfield 22, 3) := by decide +kernel
theorem dX7_sweep_21 : decode cX7_sweep 21 = .ok (.aload_n 0, 1) := by decide +kernel
theorem dX7_sweep_22 : decode cX7_sweep 22 = .ok (.getfield 43, 3) := by decide +kernel
theorem dX7_sweep_25 : decode cX7_sweep 25 = .ok (.iload_n 2, 1) := by decide +kernel
theorem dX7_sweep_26 : decode cX7_sweep 26 = .ok (.iaload, 1) := by decide +kernel
theorem dX7_sweep_27 : decode cX7_sweep 27 = .ok (.baload, 1) := by decide +kernel
theorem dX7_sweep_28 : decode cX7_sweep 28 = .ok (.ifCond .eq 30, 3) := by decide +kernel
theorem dX7_sweep_31 : decode cX7_sweep 31 = .ok (.aload_n 0, 1) := by decide +kernel
theorem dX7_sweep_32 : decode cX7_sweep 32 = .ok (.getfield 43, 3) := by decide +kernel
theorem dX7_sweep_35 : decode cX7_sweep 35 = .ok (.iload_n 1, 1) := by decide +kernel
theorem dX7_sweep_36 : decode cX7_sweep 36 = .ok (.aload_n 0, 1) := by decide +kernel
theorem dX7_sweep_37 : decode cX7_sweep 37 = .ok (.getfield 43, 3) := by decide +kernel
theorem dX7_sweep_40 : decode cX7_sweep 40 = .ok (.iload_n 2, 1) := by decide +kernel
theorem dX7_sweep_41 : decode cX7_sweep 41 = .ok (.iaload, 1) := by decide +kernel
theorem dX7_sweep_42 : decode cX7_sweep 42 = .ok (.iastore, 1) := by decide +kernel
theorem dX7_sweep_43 : decode cX7_sweep 43 = .ok (.aload_n 0, 1) := by decide +kernel
theorem dX7_sweep_44 : decode cX7_sweep 44 = .ok (.getfield 46, 3) := by decide +kernel
theorem dX7_sweep_47 : decode cX7_sweep 47 = .ok (.iload_n 1, 1) := by decide +kernel
theorem dX7_sweep_48 : decode cX7_sweep 48 = .ok (.aload_n 0, 1) := by decide +kernel
theorem dX7_sweep_49 : decode cX7_sweep 49 = .ok (.getfield 46, 3) := by decide +kernel
theorem dX7_sweep_52 : decode cX7_sweep 52 = .ok (.iload_n 2, 1) := by decide +kernel
theorem dX7_sweep_53 : decode cX7_sweep 53 = .ok (.iaload, 1) := by decide +kernel
theorem dX7_sweep_54 : decode cX7_sweep 54 = .ok (.iastore, 1) := by decide +kernel
theorem dX7_sweep_55 : decode cX7_sweep 55 = .ok (.iinc 1 1, 3) := by decide +kernel
theorem dX7_sweep_58 : decode cX7_sweep 58 = .ok (.iinc 2 1, 3) := by decide +kernel
theorem dX7_sweep_61 : decode cX7_sweep 61 = .ok (.goto (-52), 3) := by decide +kernel
theorem dX7_sweep_64 : decode cX7_sweep 64 = .ok (.aload_n 0, 1) := by decide +kernel
theorem dX7_sweep_65 : decode cX7_sweep 65 = .ok (.getfield 129, 3) := by decide +kernel
theorem dX7_sweep_68 : decode cX7_sweep 68 = .ok (.iload_n 1, 1) := by decide +kernel
theorem dX7_sweep_69 : decode cX7_sweep 69 = .ok (.isub, 1) := by decide +kernel
theorem dX7_sweep_70 : decode cX7_sweep 70 = .ok (.istore_n 2, 1) := by decide +kernel
theorem dX7_sweep_71 : decode cX7_sweep 71 = .ok (.aload_n 0, 1) := by decide +kernel
theorem dX7_sweep_72 : decode cX7_sweep 72 = .ok (.iload_n 1, 1) := by decide +kernel
theorem dX7_sweep_73 : decode cX7_sweep 73 = .ok (.putfield 129, 3) := by decide +kernel
theorem dX7_sweep_76 : decode cX7_sweep 76 = .ok (.iload_n 2, 1) := by decide +kernel
theorem dX7_sweep_77 : decode cX7_sweep 77 = .ok (.ireturn, 1) := by decide +kernel
theorem dX7_entry_0 : decode cX7_entry 0 = .ok (.iload_n 2, 1) := by decide +kernel
theorem dX7_entry_1 : decode cX7_entry 1 = .ok (.iconst 0, 1) := by decide +kernel
theorem dX7_entry_2 : decode cX7_entry 2 = .ok (.iconst 2, 1) := by decide +kernel
theorem dX7_entry_3 : decode cX7_entry 3 = .ok (.invokestatic 104, 3) := by decide +kernel
theorem dX7_entry_6 : decode cX7_entry 6 = .ok (.ifCond .ne 6, 3) := by decide +kernel
theorem dX7_entry_9 : decode cX7_entry 9 = .ok (.bipush (-2), 2) := by decide +kernel
theorem dX7_entry_11 : decode cX7_entry 11 = .ok (.ireturn, 1) := by decide +kernel
theorem dX7_entry_12 : decode cX7_entry 12 = .ok (.iload_n 1, 1) := by decide +kernel
theorem dX7_entry_13 : decode cX7_entry 13 = .ok (.iconst 0, 1) := by decide +kernel
theorem dX7_entry_14 : decode cX7_entry 14 = .ok (.aload_n 0, 1) := by decide +kernel
theorem dX7_entry_15 : decode cX7_entry 15 = .ok (.getfield 129, 3) := by decide +kernel
theorem dX7_entry_18 : decode cX7_entry 18 = .ok (.iconst 1, 1) := by decide +kernel
theorem dX7_entry_19 : decode cX7_entry 19 = .ok (.isub, 1) := by decide +kernel
theorem dX7_entry_20 : decode cX7_entry 20 = .ok (.invokestatic 104, 3) := by decide +kernel
theorem dX7_entry_23 : decode cX7_entry 23 = .ok (.ifCond .ne 6, 3) := by decide +kernel
theorem dX7_entry_26 : decode cX7_entry 26 = .ok (.bipush (-6), 2) := by decide +kernel
theorem dX7_entry_28 : decode cX7_entry 28 = .ok (.ireturn, 1) := by decide +kernel
theorem dX7_entry_29 : decode cX7_entry 29 = .ok (.iconst 0, 1) := by decide +kernel
theorem dX7_entry_30 : decode cX7_entry 30 = .ok (.istore_n 3, 1) := by decide +kernel
theorem dX7_entry_31 : decode cX7_entry 31 = .ok (.iconst 0, 1) := by decide +kernel
theorem dX7_entry_32 : decode cX7_entry 32 = .ok (.istore 4, 2) := by decide +kernel
theorem dX7_entry_34 : decode cX7_entry 34 = .ok (.iload 4, 2) := by decide +kernel
theorem dX7_entry_36 : decode cX7_entry 36 = .ok (.bipush 8, 2) := by decide +kernel
theorem dX7_entry_38 : decode cX7_entry 38 = .ok (.if_icmp .ge 33, 3) := by decide +kernel
theorem dX7_entry_41 : decode cX7_entry 41 = .ok (.iload_n 3, 1) := by decide +kernel
theorem dX7_entry_42 : decode cX7_entry 42 = .ok (.aload_n 0, 1) := by decide +kernel
theorem dX7_entry_43 : decode cX7_entry 43 = .ok (.getfield 34, 3) := by decide +kernel
theorem dX7_entry_46 : decode cX7_entry 46 = .ok (.iload 4, 2) := by decide +kernel
theorem dX7_entry_48 : decode cX7_entry 48 = .ok (.iaload, 1) := by decide +kernel
theorem dX7_entry_49 : decode cX7_entry 49 = .ok (.aload_n 0, 1) := by decide +kernel
theorem dX7_entry_50 : decode cX7_entry 50 = .ok (.getfield 43, 3) := by decide +kernel
theorem dX7_entry_53 : decode cX7_entry 53 = .ok (.iload_n 1, 1) := by decide +kernel
theorem dX7_entry_54 : decode cX7_entry 54 = .ok (.iaload, 1) := by decide +kernel
theorem dX7_entry_55 : decode cX7_entry 55 = .ok (.if_icmp .ne 7, 3) := by decide +kernel
theorem dX7_entry_58 : decode cX7_entry 58 = .ok (.iconst 1, 1) := by decide +kernel
theorem dX7_entry_59 : decode cX7_entry 59 = .ok (.goto 4, 3) := by decide +kernel
theorem dX7_entry_62 : decode cX7_entry 62 = .ok (.iconst 0, 1) := by decide +kernel
theorem dX7_entry_63 : decode cX7_entry 63 = .ok (.iadd, 1) := by decide +kernel
theorem dX7_entry_64 : decode cX7_entry 64 = .ok (.istore_n 3, 1) := by decide +kernel
theorem dX7_entry_65 : decode cX7_entry 65 = .ok (.iinc 4 1, 3) := by decide +kernel
theorem dX7_entry_68 : decode cX7_entry 68 = .ok (.goto (-34), 3) := by decide +kernel
theorem dX7_entry_71 : decode cX7_entry 71 = .ok (.iload_n 2, 1) := by decide +kernel
theorem dX7_entry_72 : decode cX7_entry 72 = .ok (.ifCond .ne 12, 3) := by decide +kernel
theorem dX7_entry_75 : decode cX7_entry 75 = .ok (.aload_n 0, 1) := by decide +kernel
theorem dX7_entry_76 : decode cX7_entry 76 = .ok (.getfield 46, 3) := by decide +kernel
theorem dX7_entry_79 : decode cX7_entry 79 = .ok (.iload_n 1, 1) := by decide +kernel
theorem dX7_entry_80 : decode cX7_entry 80 = .ok (.iaload, 1) := by decide +kernel
theorem dX7_entry_81 : decode cX7_entry 81 = .ok (.goto 23, 3) := by decide +kernel
theorem dX7_entry_84 : decode cX7_entry 84 = .ok (.iload_n 2, 1) := by decide +kernel
theorem dX7_entry_85 : decode cX7_entry 85 = .ok (.iconst 1, 1) := by decide +kernel
theorem dX7_entry_86 : decode cX7_entry 86 = .ok (.if_icmp .ne 17, 3) := by decide +kernel
theorem dX7_entry_89 : decode cX7_entry 89 = .ok (.aload_n 0, 1) := by decide +kernel
theorem dX7_entry_90 : decode cX7_entry 90 = .ok (.getfield 19, 3) := by decide +kernel
theorem dX7_entry_93 : decode cX7_entry 93 = .ok (.aload_n 0, 1) := by decide +kernel
theorem dX7_entry_94 : decode cX7_entry 94 = .ok (.getfield 43, 3) := by decide +kernel
theorem dX7_entry_97 : decode cX7_entry 97 = .ok (.iload_n 1, 1) := by decide +kernel
theorem dX7_entry_98 : decode cX7_entry 98 = .ok (.iaload, 1) := by decide +kernel
theorem dX7_entry_99 : decode cX7_entry 99 = .ok (.iaload, 1) := by decide +kernel
theorem dX7_entry_100 : decode cX7_entry 100 = .ok (.goto 4, 3) := by decide +kernel
theorem dX7_entry_103 : decode cX7_entry 103 = .ok (.iload_n 3, 1) := by decide +kernel
theorem dX7_entry_104 : decode cX7_entry 104 = .ok (.ireturn, 1) := by decide +kernel
theorem dX7_count_0 : decode cX7_count 0 = .ok (.iload_n 1, 1) := by decide +kernel
theorem dX7_count_1 : decode cX7_count 1 = .ok (.tableswitch 142 0 12 #[67, 72, 82, 87, 92, 97, 142, 142, 142, 142, 127, 132, 137], 67) := by decide +kernel
theorem dX7_count_68 : decode cX7_count 68 = .ok (.aload_n 0, 1) := by decide +kernel
theorem dX7_count_69 : decode cX7_count 69 = .ok (.invokevirtual 227, 3) := by decide +kernel
theorem dX7_count_72 : decode cX7_count 72 = .ok (.ireturn, 1) := by decide +kernel
theorem dX7_count_73 : decode cX7_count 73 = .ok (.aload_n 0, 1) := by decide +kernel
theorem dX7_count_74 : decode cX7_count 74 = .ok (.invokevirtual 227, 3) := by decide +kernel
theorem dX7_count_77 : decode cX7_count 77 = .ok (.pop, 1) := by decide +kernel
theorem dX7_count_78 : decode cX7_count 78 = .ok (.aload_n 0, 1) := by decide +kernel
theorem dX7_count_79 : decode cX7_count 79 = .ok (.invokevirtual 194, 3) := by decide +kernel
theorem dX7_count_82 : decode cX7_count 82 = .ok (.ireturn, 1) := by decide +kernel
theorem dX7_count_83 : decode cX7_count 83 = .ok (.aload_n 0, 1) := by decide +kernel
theorem dX7_count_84 : decode cX7_count 84 = .ok (.getfield 129, 3) := by decide +kernel
theorem dX7_count_87 : decode cX7_count 87 = .ok (.ireturn, 1) := by decide +kernel
theorem dX7_count_88 : decode cX7_count 88 = .ok (.aload_n 0, 1) := by decide +kernel
theorem dX7_count_89 : decode cX7_count 89 = .ok (.getfield 224, 3) := by decide +kernel
theorem dX7_count_92 : decode cX7_count 92 = .ok (.ireturn, 1) := by decide +kernel
theorem dX7_count_93 : decode cX7_count 93 = .ok (.aload_n 0, 1) := by decide +kernel
theorem dX7_count_94 : decode cX7_count 94 = .ok (.getfield 178, 3) := by decide +kernel
theorem dX7_count_97 : decode cX7_count 97 = .ok (.ireturn, 1) := by decide +kernel
theorem dX7_count_98 : decode cX7_count 98 = .ok (.aload_n 0, 1) := by decide +kernel
theorem dX7_count_99 : decode cX7_count 99 = .ok (.getfield 40, 3) := by decide +kernel
theorem dX7_count_102 : decode cX7_count 102 = .ok (.iconst 0, 1) := by decide +kernel
theorem dX7_count_103 : decode cX7_count 103 = .ok (.baload, 1) := by decide +kernel
theorem dX7_count_104 : decode cX7_count 104 = .ok (.ifCond .eq 7, 3) := by decide +kernel
theorem dX7_count_107 : decode cX7_count 107 = .ok (.iconst 1, 1) := by decide +kernel
theorem dX7_count_108 : decode cX7_count 108 = .ok (.goto 4, 3) := by decide +kernel
theorem dX7_count_111 : decode cX7_count 111 = .ok (.iconst 0, 1) := by decide +kernel
theorem dX7_count_112 : decode cX7_count 112 = .ok (.aload_n 0, 1) := by decide +kernel
theorem dX7_count_113 : decode cX7_count 113 = .ok (.getfield 40, 3) := by decide +kernel
theorem dX7_count_116 : decode cX7_count 116 = .ok (.iconst 1, 1) := by decide +kernel
theorem dX7_count_117 : decode cX7_count 117 = .ok (.baload, 1) := by decide +kernel
theorem dX7_count_118 : decode cX7_count 118 = .ok (.ifCond .eq 7, 3) := by decide +kernel
theorem dX7_count_121 : decode cX7_count 121 = .ok (.iconst 2, 1) := by decide +kernel
theorem dX7_count_122 : decode cX7_count 122 = .ok (.goto 4, 3) := by decide +kernel
theorem dX7_count_125 : decode cX7_count 125 = .ok (.iconst 0, 1) := by decide +kernel
theorem dX7_count_126 : decode cX7_count 126 = .ok (.iadd, 1) := by decide +kernel
theorem dX7_count_127 : decode cX7_count 127 = .ok (.ireturn, 1) := by decide +kernel
theorem dX7_count_128 : decode cX7_count 128 = .ok (.aload_n 0, 1) := by decide +kernel
theorem dX7_count_129 : decode cX7_count 129 = .ok (.getfield 52, 3) := by decide +kernel
theorem dX7_count_132 : decode cX7_count 132 = .ok (.ireturn, 1) := by decide +kernel
theorem dX7_count_133 : decode cX7_count 133 = .ok (.aload_n 0, 1) := by decide +kernel
theorem dX7_count_134 : decode cX7_count 134 = .ok (.getfield 55, 3) := by decide +kernel
theorem dX7_count_137 : decode cX7_count 137 = .ok (.ireturn, 1) := by decide +kernel
theorem dX7_count_138 : decode cX7_count 138 = .ok (.aload_n 0, 1) := by decide +kernel
theorem dX7_count_139 : decode cX7_count 139 = .ok (.getfield 58, 3) := by decide +kernel
theorem dX7_count_142 : decode cX7_count 142 = .ok (.ireturn, 1) := by decide +kernel
theorem dX7_count_143 : decode cX7_count 143 = .ok (.bipush (-2), 2) := by decide +kernel
theorem dX7_count_145 : decode cX7_count 145 = .ok (.ireturn, 1) := by decide +kernel
theorem dX7_image_0 : decode cX7_image 0 = .ok (.iload_n 1, 1) := by decide +kernel
theorem dX7_image_1 : decode cX7_image 1 = .ok (.iconst 0, 1) := by decide +kernel
theorem dX7_image_2 : decode cX7_image 2 = .ok (.iconst 1, 1) := by decide +kernel
theorem dX7_image_3 : decode cX7_image 3 = .ok (.invokestatic 104, 3) := by decide +kernel
theorem dX7_image_6 : decode cX7_image 6 = .ok (.ifCond .ne 6, 3) := by decide +kernel
theorem dX7_image_9 : decode cX7_image 9 = .ok (.bipush (-2), 2) := by decide +kernel
theorem dX7_image_11 : decode cX7_image 11 = .ok (.ireturn, 1) := by decide +kernel
theorem dX7_image_12 : decode cX7_image 12 = .ok (.iconst 0, 1) := by decide +kernel
theorem dX7_image_13 : decode cX7_image 13 = .ok (.istore_n 2, 1) := by decide +kernel
theorem dX7_image_14 : decode cX7_image 14 = .ok (.iload_n 2, 1) := by decide +kernel
theorem dX7_image_15 : decode cX7_image 15 = .ok (.bipush 8, 2) := by decide +kernel
theorem dX7_image_17 : decode cX7_image 17 = .ok (.if_icmp .ge 26, 3) := by decide +kernel
theorem dX7_image_20 : decode cX7_image 20 = .ok (.aload_n 0, 1) := by decide +kernel
theorem dX7_image_21 : decode cX7_image 21 = .ok (.getfield 37, 3) := by decide +kernel
theorem dX7_image_24 : decode cX7_image 24 = .ok (.bipush 8, 2) := by decide +kernel
theorem dX7_image_26 : decode cX7_image 26 = .ok (.iload_n 1, 1) := by decide +kernel
theorem dX7_image_27 : decode cX7_image 27 = .ok (.imul, 1) := by decide +kernel
theorem dX7_image_28 : decode cX7_image 28 = .ok (.iload_n 2, 1) := by decide +kernel
theorem dX7_image_29 : decode cX7_image 29 = .ok (.iadd, 1) := by decide +kernel
theorem dX7_image_30 : decode cX7_image 30 = .ok (.aload_n 0, 1) := by decide +kernel
theorem dX7_image_31 : decode cX7_image 31 = .ok (.getfield 34, 3) := by decide +kernel
theorem dX7_image_34 : decode cX7_image 34 = .ok (.iload_n 2, 1) := by decide +kernel
theorem dX7_image_35 : decode cX7_image 35 = .ok (.iaload, 1) := by decide +kernel
theorem dX7_image_36 : decode cX7_image 36 = .ok (.iastore, 1) := by decide +kernel
theorem dX7_image_37 : decode cX7_image 37 = .ok (.iinc 2 1, 3) := by decide +kernel
theorem dX7_image_40 : decode cX7_image 40 = .ok (.goto (-26), 3) := by decide +kernel
theorem dX7_image_43 : decode cX7_image 43 = .ok (.aload_n 0, 1) := by decide +kernel
theorem dX7_image_44 : decode cX7_image 44 = .ok (.getfield 40, 3) := by decide +kernel
theorem dX7_image_47 : decode cX7_image 47 = .ok (.iload_n 1, 1) := by decide +kernel
theorem dX7_image_48 : decode cX7_image 48 = .ok (.iconst 1, 1) := by decide +kernel
theorem dX7_image_49 : decode cX7_image 49 = .ok (.bastore, 1) := by decide +kernel
theorem dX7_image_50 : decode cX7_image 50 = .ok (.iconst 1, 1) := by decide +kernel
theorem dX7_image_51 : decode cX7_image 51 = .ok (.ireturn, 1) := by decide +kernel
theorem dX7_restore_0 : decode cX7_restore 0 = .ok (.iload_n 1, 1) := by decide +kernel
theorem dX7_restore_1 : decode cX7_restore 1 = .ok (.iconst 0, 1) := by decide +kernel
theorem dX7_restore_2 : decode cX7_restore 2 = .ok (.iconst 1, 1) := by decide +kernel
theorem dX7_restore_3 : decode cX7_restore 3 = .ok (.invokestatic 104, 3) := by decide +kernel
theorem dX7_restore_6 : decode cX7_restore 6 = .ok (.ifCond .ne 6, 3) := by decide +kernel
theorem dX7_restore_9 : decode cX7_restore 9 = .ok (.bipush (-2), 2) := by decide +kernel
theorem dX7_restore_11 : decode cX7_restore 11 = .ok (.ireturn, 1) := by decide +kernel
theorem dX7_restore_12 : decode cX7_restore 12 = .ok (.aload_n 0, 1) := by decide +kernel
theorem dX7_restore_13 : decode cX7_restore 13 = .ok (.getfield 40, 3) := by decide +kernel
theorem dX7_restore_16 : decode cX7_restore 16 = .ok (.iload_n 1, 1) := by decide +kernel
theorem dX7_restore_17 : decode cX7_restore 17 = .ok (.baload, 1) := by decide +kernel
theorem dX7_restore_18 : decode cX7_restore 18 = .ok (.ifCond .ne 6, 3) := by decide +kernel
theorem dX7_restore_21 : decode cX7_restore 21 = .ok (.bipush (-3), 2) := by decide +kernel
theorem dX7_restore_23 : decode cX7_restore 23 = .ok (.ireturn, 1) := by decide +kernel
theorem dX7_restore_24 : decode cX7_restore 24 = .ok (.iconst 0, 1) := by decide +kernel
theorem dX7_restore_25 : decode cX7_restore 25 = .ok (.istore_n 2, 1) := by decide +kernel
theorem dX7_restore_26 : decode cX7_restore 26 = .ok (.iload_n 2, 1) := by decide +kernel
theorem dX7_restore_27 : decode cX7_restore 27 = .ok (.bipush 8, 2) := by decide +kernel
theorem dX7_restore_29 : decode cX7_restore 29 = .ok (.if_icmp .ge 26, 3) := by decide +kernel
theorem dX7_restore_32 : decode cX7_restore 32 = .ok (.aload_n 0, 1) := by decide +kernel
theorem dX7_restore_33 : decode cX7_restore 33 = .ok (.getfield 34, 3) := by decide +kernel
theorem dX7_restore_36 : decode cX7_restore 36 = .ok (.iload_n 2, 1) := by decide +kernel
theorem dX7_restore_37 : decode cX7_restore 37 = .ok (.aload_n 0, 1) := by decide +kernel
theorem dX7_restore_38 : decode cX7_restore 38 = .ok (.getfield 37, 3) := by decide +kernel
theorem dX7_restore_41 : decode cX7_restore 41 = .ok (.bipush 8, 2) := by decide +kernel
theorem dX7_restore_43 : decode cX7_restore 43 = .ok (.iload_n 1, 1) := by decide +kernel
theorem dX7_restore_44 : decode cX7_restore 44 = .ok (.imul, 1) := by decide +kernel
theorem dX7_restore_45 : decode cX7_restore 45 = .ok (.iload_n 2, 1) := by decide +kernel
theorem dX7_restore_46 : decode cX7_restore 46 = .ok (.iadd, 1) := by decide +kernel
theorem dX7_restore_47 : decode cX7_restore 47 = .ok (.iaload, 1) := by decide +kernel
theorem dX7_restore_48 : decode cX7_restore 48 = .ok (.iastore, 1) := by decide +kernel
theorem dX7_restore_49 : decode cX7_restore 49 = .ok (.iinc 2 1, 3) := by decide +kernel
theorem dX7_restore_52 : decode cX7_restore 52 = .ok (.goto (-26), 3) := by decide +kernel
theorem dX7_restore_55 : decode cX7_restore 55 = .ok (.iconst 1, 1) := by decide +kernel
theorem dX7_restore_56 : decode cX7_restore 56 = .ok (.ireturn, 1) := by decide +kernel
theorem dX0_init_0 : decode cX0_init 0 = .ok (.aload_n 0, 1) := by decide +kernel
theorem dX0_init_1 : decode cX0_init 1 = .ok (.invokespecial 3, 3) := by decide +kernel
theorem dX0_init_4 : decode cX0_init 4 = .ok (.return_, 1) := by decide +kernel
theorem dX0_emptyLeaf_0 : decode cX0_emptyLeaf 0 = .ok (.new 9, 3) := by decide +kernel
theorem dX0_emptyLeaf_3 : decode cX0_emptyLeaf 3 = .ok (.dup, 1) := by decide +kernel
theorem dX0_emptyLeaf_4 : decode cX0_emptyLeaf 4 = .ok (.invokespecial 11, 3) := by decide +kernel
theorem dX0_emptyLeaf_7 : decode cX0_emptyLeaf 7 = .ok (.astore_n 0, 1) := by decide +kernel
theorem dX0_emptyLeaf_8 : decode cX0_emptyLeaf 8 = .ok (.aload_n 0, 1) := by decide +kernel
theorem dX0_emptyLeaf_9 : decode cX0_emptyLeaf 9 = .ok (.iconst 0, 1) := by decide +kernel
theorem dX0_emptyLeaf_10 : decode cX0_emptyLeaf 10 = .ok (.putfield 12, 3) := by decide +kernel
theorem dX0_emptyLeaf_13 : decode cX0_emptyLeaf 13 = .ok (.aload_n 0, 1) := by decide +kernel
theorem dX0_emptyLeaf_14 : decode cX0_emptyLeaf 14 = .ok (.iconst 0, 1) := by decide +kernel
theorem dX0_emptyLeaf_15 : decode cX0_emptyLeaf 15 = .ok (.newarray .int, 2) := by decide +kernel
theorem dX0_emptyLeaf_17 : decode cX0_emptyLeaf 17 = .ok (.putfield 16, 3) := by decide +kernel
theorem dX0_emptyLeaf_20 : decode cX0_emptyLeaf 20 = .ok (.aload_n 0, 1) := by decide +kernel
theorem dX0_emptyLeaf_21 : decode cX0_emptyLeaf 21 = .ok (.areturn, 1) := by decide +kernel
theorem dX0_leaf_0 : decode cX0_leaf 0 = .ok (.new 9, 3) := by decide +kernel
theorem dX0_leaf_3 : decode cX0_leaf 3 = .ok (.dup, 1) := by decide +kernel
theorem dX0_leaf_4 : decode cX0_leaf 4 = .ok (.invokespecial 11, 3) := by decide +kernel
theorem dX0_leaf_7 : decode cX0_leaf 7 = .ok (.astore_n 1, 1) := by decide +kernel
theorem dX0_leaf_8 : decode cX0_leaf 8 = .ok (.aload_n 1, 1) := by decide +kernel
theorem dX0_leaf_9 : decode cX0_leaf 9 = .ok (.aload_n 0, 1) := by decide +kernel
theorem dX0_leaf_10 : decode cX0_leaf 10 = .ok (.getfield 20, 3) := by decide +kernel
theorem dX0_leaf_13 : decode cX0_leaf 13 = .ok (.putfield 25, 3) := by decide +kernel
theorem dX0_leaf_16 : decode cX0_leaf 16 = .ok (.aload_n 1, 1) := by decide +kernel
theorem dX0_leaf_17 : decode cX0_leaf 17 = .ok (.aload_n 0, 1) := by decide +kernel
theorem dX0_leaf_18 : decode cX0_leaf 18 = .ok (.invokevirtual 26, 3) := by decide +kernel
theorem dX0_leaf_21 : decode cX0_leaf 21 = .ok (.aload_n 1, 1) := by decide +kernel
theorem dX0_leaf_22 : decode cX0_leaf 22 = .ok (.areturn, 1) := by decide +kernel
theorem dX0_slice_0 : decode cX0_slice 0 = .ok (.new 9, 3) := by decide +kernel
theorem dX0_slice_3 : decode cX0_slice 3 = .ok (.dup, 1) := by decide +kernel
theorem dX0_slice_4 : decode cX0_slice 4 = .ok (.invokespecial 11, 3) := by decide +kernel
theorem dX0_slice_7 : decode cX0_slice 7 = .ok (.astore_n 3, 1) := by decide +kernel
theorem dX0_slice_8 : decode cX0_slice 8 = .ok (.aload_n 3, 1) := by decide +kernel
theorem dX0_slice_9 : decode cX0_slice 9 = .ok (.iconst 2, 1) := by decide +kernel
theorem dX0_slice_10 : decode cX0_slice 10 = .ok (.putfield 12, 3) := by decide +kernel
theorem dX0_slice_13 : decode cX0_slice 13 = .ok (.aload_n 3, 1) := by decide +kernel
theorem dX0_slice_14 : decode cX0_slice 14 = .ok (.aload_n 0, 1) := by decide +kernel
theorem dX0_slice_15 : decode cX0_slice 15 = .ok (.putfield 30, 3) := by decide +kernel
theorem dX0_slice_18 : decode cX0_slice 18 = .ok (.aload_n 3, 1) := by decide +kernel
theorem dX0_slice_19 : decode cX0_slice 19 = .ok (.iload_n 1, 1) := by decide +kernel
theorem dX0_slice_20 : decode cX0_slice 20 = .ok (.putfield 34, 3) := by decide +kernel
theorem dX0_slice_23 : decode cX0_slice 23 = .ok (.aload_n 3, 1) := by decide +kernel
theorem dX0_slice_24 : decode cX0_slice 24 = .ok (.iload_n 2, 1) := by decide +kernel
theorem dX0_slice_25 : decode cX0_slice 25 = .ok (.putfield 25, 3) := by decide +kernel
theorem dX0_slice_28 : decode cX0_slice 28 = .ok (.aload_n 3, 1) := by decide +kernel
theorem dX0_slice_29 : decode cX0_slice 29 = .ok (.areturn, 1) := by decide +kernel
theorem dX0_becomeLeaf_0 : decode cX0_becomeLeaf 0 = .ok (.aload_n 0, 1) := by decide +kernel
theorem dX0_becomeLeaf_1 : decode cX0_becomeLeaf 1 = .ok (.aload_n 1, 1) := by decide +kernel
theorem dX0_becomeLeaf_2 : decode cX0_becomeLeaf 2 = .ok (.invokevirtual 37, 3) := by decide +kernel
theorem dX0_becomeLeaf_5 : decode cX0_becomeLeaf 5 = .ok (.putfield 16, 3) := by decide +kernel
theorem dX0_becomeLeaf_8 : decode cX0_becomeLeaf 8 = .ok (.aload_n 0, 1) := by decide +kernel
theorem dX0_becomeLeaf_9 : decode cX0_becomeLeaf 9 = .ok (.iconst 0, 1) := by decide +kernel
theorem dX0_becomeLeaf_10 : decode cX0_becomeLeaf 10 = .ok (.putfield 12, 3) := by decide +kernel
theorem dX0_becomeLeaf_13 : decode cX0_becomeLeaf 13 = .ok (.aload_n 0, 1) := by decide +kernel
theorem dX0_becomeLeaf_14 : decode cX0_becomeLeaf 14 = .ok (.aconst_null, 1) := by decide +kernel
theorem dX0_becomeLeaf_15 : decode cX0_becomeLeaf 15 = .ok (.putfield 41, 3) := by decide +kernel
theorem dX0_becomeLeaf_18 : decode cX0_becomeLeaf 18 = .ok (.aload_n 0, 1) := by decide +kernel
theorem dX0_becomeLeaf_19 : decode cX0_becomeLeaf 19 = .ok (.aconst_null, 1) := by decide +kernel
theorem dX0_becomeLeaf_20 : decode cX0_becomeLeaf 20 = .ok (.putfield 44, 3) := by decide +kernel
theorem dX0_becomeLeaf_23 : decode cX0_becomeLeaf 23 = .ok (.aload_n 0, 1) := by decide +kernel
theorem dX0_becomeLeaf_24 : decode cX0_becomeLeaf 24 = .ok (.aconst_null, 1) := by decide +kernel
theorem dX0_becomeLeaf_25 : decode cX0_becomeLeaf 25 = .ok (.putfield 30, 3) := by decide +kernel
theorem dX0_becomeLeaf_28 : decode cX0_becomeLeaf 28 = .ok (.aload_n 0, 1) := by decide +kernel
theorem dX0_becomeLeaf_29 : decode cX0_becomeLeaf 29 = .ok (.iconst 0, 1) := by decide +kernel
theorem dX0_becomeLeaf_30 : decode cX0_becomeLeaf 30 = .ok (.putfield 34, 3) := by decide +kernel
theorem dX0_becomeLeaf_33 : decode cX0_becomeLeaf 33 = .ok (.return_, 1) := by decide +kernel
theorem dX0_signAt_0 : decode cX0_signAt 0 = .ok (.aload_n 0, 1) := by decide +kernel
theorem dX0_signAt_1 : decode cX0_signAt 1 = .ok (.getfield 16, 3) := by decide +kernel
theorem dX0_signAt_4 : decode cX0_signAt 4 = .ok (.ifnull 25, 3) := by decide +kernel
theorem dX0_signAt_7 : decode cX0_signAt 7 = .ok (.iload_n 1, 1) := by decide +kernel
theorem dX0_signAt_8 : decode cX0_signAt 8 = .ok (.ifCond .lt 21, 3) := by decide +kernel
theorem dX0_signAt_11 : decode cX0_signAt 11 = .ok (.iload_n 1, 1) := by decide +kernel
theorem dX0_signAt_12 : decode cX0_signAt 12 = .ok (.aload_n 0, 1) := by decide +kernel
theorem dX0_signAt_13 : decode cX0_signAt 13 = .ok (.getfield 16, 3) := by decide +kernel
theorem dX0_signAt_16 : decode cX0_signAt 16 = .ok (.arraylength, 1) := by decide +kernel
theorem dX0_signAt_17 : decode cX0_signAt 17 = .ok (.if_icmp .ge 12, 3) := by decide +kernel
theorem dX0_signAt_20 : decode cX0_signAt 20 = .ok (.aload_n 0, 1) := by decide +kernel
theorem dX0_signAt_21 : decode cX0_signAt 21 = .ok (.getfield 16, 3) := by decide +kernel
theorem dX0_signAt_24 : decode cX0_signAt 24 = .ok (.iload_n 1, 1) := by decide +kernel
