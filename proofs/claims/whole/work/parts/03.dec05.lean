theorem dX3_hasAt_0 : decode cX3_hasAt 0 = .ok (.iconst 0, 1) := by decide +kernel
theorem dX3_hasAt_1 : decode cX3_hasAt 1 = .ok (.istore_n 3, 1) := by decide +kernel
theorem dX3_hasAt_2 : decode cX3_hasAt 2 = .ok (.iload_n 3, 1) := by decide +kernel
theorem dX3_hasAt_3 : decode cX3_hasAt 3 = .ok (.aload_n 2, 1) := by decide +kernel
theorem dX3_hasAt_4 : decode cX3_hasAt 4 = .ok (.getfield 15, 3) := by decide +kernel
theorem dX3_hasAt_7 : decode cX3_hasAt 7 = .ok (.if_icmp .ge 26, 3) := by decide +kernel
theorem dX3_hasAt_10 : decode cX3_hasAt 10 = .ok (.aload_n 0, 1) := by decide +kernel
theorem dX3_hasAt_11 : decode cX3_hasAt 11 = .ok (.iload_n 1, 1) := by decide +kernel
theorem dX3_hasAt_12 : decode cX3_hasAt 12 = .ok (.iload_n 3, 1) := by decide +kernel
theorem dX3_hasAt_13 : decode cX3_hasAt 13 = .ok (.iadd, 1) := by decide +kernel
theorem dX3_hasAt_14 : decode cX3_hasAt 14 = .ok (.invokevirtual 54, 3) := by decide +kernel
theorem dX3_hasAt_17 : decode cX3_hasAt 17 = .ok (.aload_n 2, 1) := by decide +kernel
theorem dX3_hasAt_18 : decode cX3_hasAt 18 = .ok (.iload_n 3, 1) := by decide +kernel
theorem dX3_hasAt_19 : decode cX3_hasAt 19 = .ok (.invokevirtual 54, 3) := by decide +kernel
theorem dX3_hasAt_22 : decode cX3_hasAt 22 = .ok (.if_icmp .eq 5, 3) := by decide +kernel
theorem dX3_hasAt_25 : decode cX3_hasAt 25 = .ok (.iconst 0, 1) := by decide +kernel
theorem dX3_hasAt_26 : decode cX3_hasAt 26 = .ok (.ireturn, 1) := by decide +kernel
theorem dX3_hasAt_27 : decode cX3_hasAt 27 = .ok (.iinc 3 1, 3) := by decide +kernel
theorem dX3_hasAt_30 : decode cX3_hasAt 30 = .ok (.goto (-28), 3) := by decide +kernel
theorem dX3_hasAt_33 : decode cX3_hasAt 33 = .ok (.iconst 1, 1) := by decide +kernel
theorem dX3_hasAt_34 : decode cX3_hasAt 34 = .ok (.ireturn, 1) := by decide +kernel
theorem dX4_init_0 : decode cX4_init 0 = .ok (.aload_n 0, 1) := by decide +kernel
theorem dX4_init_1 : decode cX4_init 1 = .ok (.invokespecial 3, 3) := by decide +kernel
theorem dX4_init_4 : decode cX4_init 4 = .ok (.aload_n 0, 1) := by decide +kernel
theorem dX4_init_5 : decode cX4_init 5 = .ok (.iconst 0, 1) := by decide +kernel
theorem dX4_init_6 : decode cX4_init 6 = .ok (.putfield 9, 3) := by decide +kernel
theorem dX4_init_9 : decode cX4_init 9 = .ok (.return_, 1) := by decide +kernel
theorem dX4_overCell_0 : decode cX4_overCell 0 = .ok (.aload_n 0, 1) := by decide +kernel
theorem dX4_overCell_1 : decode cX4_overCell 1 = .ok (.invokevirtual 15, 3) := by decide +kernel
theorem dX4_overCell_4 : decode cX4_overCell 4 = .ok (.aload_n 0, 1) := by decide +kernel
theorem dX4_overCell_5 : decode cX4_overCell 5 = .ok (.aload_n 1, 1) := by decide +kernel
theorem dX4_overCell_6 : decode cX4_overCell 6 = .ok (.iconst 0, 1) := by decide +kernel
theorem dX4_overCell_7 : decode cX4_overCell 7 = .ok (.invokevirtual 18, 3) := by decide +kernel
theorem dX4_overCell_10 : decode cX4_overCell 10 = .ok (.return_, 1) := by decide +kernel
theorem dX4_overAll_0 : decode cX4_overAll 0 = .ok (.aload_n 0, 1) := by decide +kernel
theorem dX4_overAll_1 : decode cX4_overAll 1 = .ok (.invokevirtual 15, 3) := by decide +kernel
theorem dX4_overAll_4 : decode cX4_overAll 4 = .ok (.iconst 0, 1) := by decide +kernel
theorem dX4_overAll_5 : decode cX4_overAll 5 = .ok (.istore_n 2, 1) := by decide +kernel
theorem dX4_overAll_6 : decode cX4_overAll 6 = .ok (.iload_n 2, 1) := by decide +kernel
theorem dX4_overAll_7 : decode cX4_overAll 7 = .ok (.aload_n 1, 1) := by decide +kernel
theorem dX4_overAll_8 : decode cX4_overAll 8 = .ok (.arraylength, 1) := by decide +kernel
theorem dX4_overAll_9 : decode cX4_overAll 9 = .ok (.if_icmp .ge 17, 3) := by decide +kernel
theorem dX4_overAll_12 : decode cX4_overAll 12 = .ok (.aload_n 0, 1) := by decide +kernel
theorem dX4_overAll_13 : decode cX4_overAll 13 = .ok (.aload_n 1, 1) := by decide +kernel
theorem dX4_overAll_14 : decode cX4_overAll 14 = .ok (.iload_n 2, 1) := by decide +kernel
theorem dX4_overAll_15 : decode cX4_overAll 15 = .ok (.aaload, 1) := by decide +kernel
theorem dX4_overAll_16 : decode cX4_overAll 16 = .ok (.iconst 0, 1) := by decide +kernel
theorem dX4_overAll_17 : decode cX4_overAll 17 = .ok (.invokevirtual 18, 3) := by decide +kernel
theorem dX4_overAll_20 : decode cX4_overAll 20 = .ok (.iinc 2 1, 3) := by decide +kernel
theorem dX4_overAll_23 : decode cX4_overAll 23 = .ok (.goto (-17), 3) := by decide +kernel
theorem dX4_overAll_26 : decode cX4_overAll 26 = .ok (.return_, 1) := by decide +kernel
theorem dX4_cameBy_0 : decode cX4_cameBy 0 = .ok (.aload_n 1, 1) := by decide +kernel
theorem dX4_cameBy_1 : decode cX4_cameBy 1 = .ok (.ifnull 18, 3) := by decide +kernel
theorem dX4_cameBy_4 : decode cX4_cameBy 4 = .ok (.aload_n 1, 1) := by decide +kernel
theorem dX4_cameBy_5 : decode cX4_cameBy 5 = .ok (.getfield 22, 3) := by decide +kernel
theorem dX4_cameBy_8 : decode cX4_cameBy 8 = .ok (.aload_n 0, 1) := by decide +kernel
theorem dX4_cameBy_9 : decode cX4_cameBy 9 = .ok (.getfield 9, 3) := by decide +kernel
theorem dX4_cameBy_12 : decode cX4_cameBy 12 = .ok (.if_icmp .ne 7, 3) := by decide +kernel
theorem dX4_cameBy_15 : decode cX4_cameBy 15 = .ok (.iconst 1, 1) := by decide +kernel
theorem dX4_cameBy_16 : decode cX4_cameBy 16 = .ok (.goto 4, 3) := by decide +kernel
theorem dX4_cameBy_19 : decode cX4_cameBy 19 = .ok (.iconst 0, 1) := by decide +kernel
theorem dX4_cameBy_20 : decode cX4_cameBy 20 = .ok (.ireturn, 1) := by decide +kernel
theorem dX4_begin_0 : decode cX4_begin 0 = .ok (.aload_n 0, 1) := by decide +kernel
theorem dX4_begin_1 : decode cX4_begin 1 = .ok (.dup, 1) := by decide +kernel
theorem dX4_begin_2 : decode cX4_begin 2 = .ok (.getfield 9, 3) := by decide +kernel
theorem dX4_begin_5 : decode cX4_begin 5 = .ok (.iconst 1, 1) := by decide +kernel
theorem dX4_begin_6 : decode cX4_begin 6 = .ok (.iadd, 1) := by decide +kernel
theorem dX4_begin_7 : decode cX4_begin 7 = .ok (.putfield 9, 3) := by decide +kernel
theorem dX4_begin_10 : decode cX4_begin 10 = .ok (.aload_n 0, 1) := by decide +kernel
theorem dX4_begin_11 : decode cX4_begin 11 = .ok (.iconst 0, 1) := by decide +kernel
theorem dX4_begin_12 : decode cX4_begin 12 = .ok (.putfield 27, 3) := by decide +kernel
theorem dX4_begin_15 : decode cX4_begin 15 = .ok (.aload_n 0, 1) := by decide +kernel
theorem dX4_begin_16 : decode cX4_begin 16 = .ok (.iconst 0, 1) := by decide +kernel
theorem dX4_begin_17 : decode cX4_begin 17 = .ok (.putfield 30, 3) := by decide +kernel
theorem dX4_begin_20 : decode cX4_begin 20 = .ok (.return_, 1) := by decide +kernel
theorem dX4_visit_0 : decode cX4_visit 0 = .ok (.aload_n 1, 1) := by decide +kernel
theorem dX4_visit_1 : decode cX4_visit 1 = .ok (.ifnull 17, 3) := by decide +kernel
theorem dX4_visit_4 : decode cX4_visit 4 = .ok (.aload_n 0, 1) := by decide +kernel
theorem dX4_visit_5 : decode cX4_visit 5 = .ok (.aload_n 1, 1) := by decide +kernel
theorem dX4_visit_6 : decode cX4_visit 6 = .ok (.invokevirtual 33, 3) := by decide +kernel
theorem dX4_visit_9 : decode cX4_visit 9 = .ok (.ifCond .ne 9, 3) := by decide +kernel
theorem dX4_visit_12 : decode cX4_visit 12 = .ok (.iload_n 2, 1) := by decide +kernel
theorem dX4_visit_13 : decode cX4_visit 13 = .ok (.bipush 40, 2) := by decide +kernel
theorem dX4_visit_15 : decode cX4_visit 15 = .ok (.if_icmp .le 4, 3) := by decide +kernel
theorem dX4_visit_18 : decode cX4_visit 18 = .ok (.return_, 1) := by decide +kernel
theorem dX4_visit_19 : decode cX4_visit 19 = .ok (.aload_n 1, 1) := by decide +kernel
theorem dX4_visit_20 : decode cX4_visit 20 = .ok (.aload_n 0, 1) := by decide +kernel
theorem dX4_visit_21 : decode cX4_visit 21 = .ok (.getfield 9, 3) := by decide +kernel
theorem dX4_visit_24 : decode cX4_visit 24 = .ok (.putfield 22, 3) := by decide +kernel
theorem dX4_visit_27 : decode cX4_visit 27 = .ok (.aload_n 0, 1) := by decide +kernel
theorem dX4_visit_28 : decode cX4_visit 28 = .ok (.dup, 1) := by decide +kernel
theorem dX4_visit_29 : decode cX4_visit 29 = .ok (.getfield 27, 3) := by decide +kernel
theorem dX4_visit_32 : decode cX4_visit 32 = .ok (.iconst 1, 1) := by decide +kernel
theorem dX4_visit_33 : decode cX4_visit 33 = .ok (.iadd, 1) := by decide +kernel
theorem dX4_visit_34 : decode cX4_visit 34 = .ok (.putfield 27, 3) := by decide +kernel
theorem dX4_visit_37 : decode cX4_visit 37 = .ok (.aload_n 0, 1) := by decide +kernel
theorem dX4_visit_38 : decode cX4_visit 38 = .ok (.dup, 1) := by decide +kernel
theorem dX4_visit_39 : decode cX4_visit 39 = .ok (.getfield 30, 3) := by decide +kernel
theorem dX4_visit_42 : decode cX4_visit 42 = .ok (.aload_n 1, 1) := by decide +kernel
theorem dX4_visit_43 : decode cX4_visit 43 = .ok (.invokevirtual 37, 3) := by decide +kernel
theorem dX4_visit_46 : decode cX4_visit 46 = .ok (.iadd, 1) := by decide +kernel
theorem dX4_visit_47 : decode cX4_visit 47 = .ok (.putfield 30, 3) := by decide +kernel
theorem dX4_visit_50 : decode cX4_visit 50 = .ok (.aload_n 0, 1) := by decide +kernel
theorem dX4_visit_51 : decode cX4_visit 51 = .ok (.aload_n 1, 1) := by decide +kernel
theorem dX4_visit_52 : decode cX4_visit 52 = .ok (.getfield 40, 3) := by decide +kernel
theorem dX4_visit_55 : decode cX4_visit 55 = .ok (.iload_n 2, 1) := by decide +kernel
theorem dX4_visit_56 : decode cX4_visit 56 = .ok (.iconst 1, 1) := by decide +kernel
theorem dX4_visit_57 : decode cX4_visit 57 = .ok (.iadd, 1) := by decide +kernel
theorem dX4_visit_58 : decode cX4_visit 58 = .ok (.invokevirtual 18, 3) := by decide +kernel
theorem dX4_visit_61 : decode cX4_visit 61 = .ok (.aload_n 0, 1) := by decide +kernel
theorem dX4_visit_62 : decode cX4_visit 62 = .ok (.aload_n 1, 1) := by decide +kernel
theorem dX4_visit_63 : decode cX4_visit 63 = .ok (.getfield 44, 3) := by decide +kernel
theorem dX4_visit_66 : decode cX4_visit 66 = .ok (.iload_n 2, 1) := by decide +kernel
theorem dX4_visit_67 : decode cX4_visit 67 = .ok (.iconst 1, 1) := by decide +kernel
theorem dX4_visit_68 : decode cX4_visit 68 = .ok (.iadd, 1) := by decide +kernel
theorem dX4_visit_69 : decode cX4_visit 69 = .ok (.invokevirtual 18, 3) := by decide +kernel
theorem dX4_visit_72 : decode cX4_visit 72 = .ok (.aload_n 0, 1) := by decide +kernel
theorem dX4_visit_73 : decode cX4_visit 73 = .ok (.aload_n 1, 1) := by decide +kernel
theorem dX4_visit_74 : decode cX4_visit 74 = .ok (.getfield 47, 3) := by decide +kernel
theorem dX4_visit_77 : decode cX4_visit 77 = .ok (.iload_n 2, 1) := by decide +kernel
theorem dX4_visit_78 : decode cX4_visit 78 = .ok (.iconst 1, 1) := by decide +kernel
theorem dX4_visit_79 : decode cX4_visit 79 = .ok (.iadd, 1) := by decide +kernel
theorem dX4_visit_80 : decode cX4_visit 80 = .ok (.invokevirtual 18, 3) := by decide +kernel
theorem dX4_visit_83 : decode cX4_visit 83 = .ok (.return_, 1) := by decide +kernel
theorem dX5_init_0 : decode cX5_init 0 = .ok (.aload_n 0, 1) := by decide +kernel
theorem dX5_init_1 : decode cX5_init 1 = .ok (.invokespecial 3, 3) := by decide +kernel
theorem dX5_init_4 : decode cX5_init 4 = .ok (.aload_n 0, 1) := by decide +kernel
theorem dX5_init_5 : decode cX5_init 5 = .ok (.iconst 3, 1) := by decide +kernel
theorem dX5_init_6 : decode cX5_init 6 = .ok (.newarray .int, 2) := by decide +kernel
theorem dX5_init_8 : decode cX5_init 8 = .ok (.dup, 1) := by decide +kernel
theorem dX5_init_9 : decode cX5_init 9 = .ok (.iconst 0, 1) := by decide +kernel
theorem dX5_init_10 : decode cX5_init 10 = .ok (.bipush 8, 2) := by decide +kernel
theorem dX5_init_12 : decode cX5_init 12 = .ok (.iastore, 1) := by decide +kernel
theorem dX5_init_13 : decode cX5_init 13 = .ok (.dup, 1) := by decide +kernel
theorem dX5_init_14 : decode cX5_init 14 = .ok (.iconst 1, 1) := by decide +kernel
theorem dX5_init_15 : decode cX5_init 15 = .ok (.bipush 6, 2) := by decide +kernel
theorem dX5_init_17 : decode cX5_init 17 = .ok (.iastore, 1) := by decide +kernel
theorem dX5_init_18 : decode cX5_init 18 = .ok (.dup, 1) := by decide +kernel
theorem dX5_init_19 : decode cX5_init 19 = .ok (.iconst 2, 1) := by decide +kernel
theorem dX5_init_20 : decode cX5_init 20 = .ok (.iconst 4, 1) := by decide +kernel
theorem dX5_init_21 : decode cX5_init 21 = .ok (.iastore, 1) := by decide +kernel
theorem dX5_init_22 : decode cX5_init 22 = .ok (.putfield 9, 3) := by decide +kernel
theorem dX5_init_25 : decode cX5_init 25 = .ok (.aload_n 0, 1) := by decide +kernel
theorem dX5_init_26 : decode cX5_init 26 = .ok (.new 15, 3) := by decide +kernel
theorem dX5_init_29 : decode cX5_init 29 = .ok (.dup, 1) := by decide +kernel
theorem dX5_init_30 : decode cX5_init 30 = .ok (.invokespecial 17, 3) := by decide +kernel
theorem dX5_init_33 : decode cX5_init 33 = .ok (.putfield 18, 3) := by decide +kernel
theorem dX5_init_36 : decode cX5_init 36 = .ok (.aload_n 0, 1) := by decide +kernel
theorem dX5_init_37 : decode cX5_init 37 = .ok (.new 22, 3) := by decide +kernel
theorem dX5_init_40 : decode cX5_init 40 = .ok (.dup, 1) := by decide +kernel
theorem dX5_init_41 : decode cX5_init 41 = .ok (.invokespecial 24, 3) := by decide +kernel
theorem dX5_init_44 : decode cX5_init 44 = .ok (.putfield 25, 3) := by decide +kernel
theorem dX5_init_47 : decode cX5_init 47 = .ok (.aload_n 0, 1) := by decide +kernel
theorem dX5_init_48 : decode cX5_init 48 = .ok (.iconst 0, 1) := by decide +kernel
theorem dX5_init_49 : decode cX5_init 49 = .ok (.putfield 29, 3) := by decide +kernel
theorem dX5_init_52 : decode cX5_init 52 = .ok (.aload_n 0, 1) := by decide +kernel
theorem dX5_init_53 : decode cX5_init 53 = .ok (.aconst_null, 1) := by decide +kernel
theorem dX5_init_54 : decode cX5_init 54 = .ok (.putfield 33, 3) := by decide +kernel
theorem dX5_init_57 : decode cX5_init 57 = .ok (.return_, 1) := by decide +kernel
theorem dX5_beginTurn_0 : decode cX5_beginTurn 0 = .ok (.aload_n 0, 1) := by decide +kernel
theorem dX5_beginTurn_1 : decode cX5_beginTurn 1 = .ok (.dup, 1) := by decide +kernel
theorem dX5_beginTurn_2 : decode cX5_beginTurn 2 = .ok (.getfield 29, 3) := by decide +kernel
theorem dX5_beginTurn_5 : decode cX5_beginTurn 5 = .ok (.iconst 1, 1) := by decide +kernel
theorem dX5_beginTurn_6 : decode cX5_beginTurn 6 = .ok (.iadd, 1) := by decide +kernel
theorem dX5_beginTurn_7 : decode cX5_beginTurn 7 = .ok (.putfield 29, 3) := by decide +kernel
theorem dX5_beginTurn_10 : decode cX5_beginTurn 10 = .ok (.return_, 1) := by decide +kernel
theorem dX5_joined_0 : decode cX5_joined 0 = .ok (.aload_n 2, 1) := by decide +kernel
theorem dX5_joined_1 : decode cX5_joined 1 = .ok (.ifnull 10, 3) := by decide +kernel
theorem dX5_joined_4 : decode cX5_joined 4 = .ok (.aload_n 2, 1) := by decide +kernel
theorem dX5_joined_5 : decode cX5_joined 5 = .ok (.getfield 37, 3) := by decide +kernel
theorem dX5_joined_8 : decode cX5_joined 8 = .ok (.ifCond .ne 5, 3) := by decide +kernel
theorem dX5_joined_11 : decode cX5_joined 11 = .ok (.aload_n 1, 1) := by decide +kernel
theorem dX5_joined_12 : decode cX5_joined 12 = .ok (.areturn, 1) := by decide +kernel
theorem dX5_joined_13 : decode cX5_joined 13 = .ok (.aload_n 1, 1) := by decide +kernel
theorem dX5_joined_14 : decode cX5_joined 14 = .ok (.ifnull 10, 3) := by decide +kernel
theorem dX5_joined_17 : decode cX5_joined 17 = .ok (.aload_n 1, 1) := by decide +kernel
theorem dX5_joined_18 : decode cX5_joined 18 = .ok (.getfield 37, 3) := by decide +kernel
theorem dX5_joined_21 : decode cX5_joined 21 = .ok (.ifCond .ne 5, 3) := by decide +kernel
theorem dX5_joined_24 : decode cX5_joined 24 = .ok (.aload_n 2, 1) := by decide +kernel
theorem dX5_joined_25 : decode cX5_joined 25 = .ok (.areturn, 1) := by decide +kernel
theorem dX5_joined_26 : decode cX5_joined 26 = .ok (.aload_n 1, 1) := by decide +kernel
theorem dX5_joined_27 : decode cX5_joined 27 = .ok (.getfield 37, 3) := by decide +kernel
theorem dX5_joined_30 : decode cX5_joined 30 = .ok (.aload_n 2, 1) := by decide +kernel
theorem dX5_joined_31 : decode cX5_joined 31 = .ok (.getfield 37, 3) := by decide +kernel
theorem dX5_joined_34 : decode cX5_joined 34 = .ok (.iadd, 1) := by decide +kernel
theorem dX5_joined_35 : decode cX5_joined 35 = .ok (.aload_n 0, 1) := by decide +kernel
theorem dX5_joined_36 : decode cX5_joined 36 = .ok (.getfield 9, 3) := by decide +kernel
theorem dX5_joined_39 : decode cX5_joined 39 = .ok (.iconst 0, 1) := by decide +kernel
theorem dX5_joined_40 : decode cX5_joined 40 = .ok (.iaload, 1) := by decide +kernel
theorem dX5_joined_41 : decode cX5_joined 41 = .ok (.if_icmp .gt 20, 3) := by decide +kernel
theorem dX5_joined_44 : decode cX5_joined 44 = .ok (.aload_n 0, 1) := by decide +kernel
theorem dX5_joined_45 : decode cX5_joined 45 = .ok (.getfield 25, 3) := by decide +kernel
theorem dX5_joined_48 : decode cX5_joined 48 = .ok (.aload_n 1, 1) := by decide +kernel
theorem dX5_joined_49 : decode cX5_joined 49 = .ok (.aload_n 2, 1) := by decide +kernel
theorem dX5_joined_50 : decode cX5_joined 50 = .ok (.invokevirtual 42, 3) := by decide +kernel
theorem dX5_joined_53 : decode cX5_joined 53 = .ok (.aload_n 0, 1) := by decide +kernel
theorem dX5_joined_54 : decode cX5_joined 54 = .ok (.getfield 25, 3) := by decide +kernel
theorem dX5_joined_57 : decode cX5_joined 57 = .ok (.invokestatic 46, 3) := by decide +kernel
theorem dX5_joined_60 : decode cX5_joined 60 = .ok (.areturn, 1) := by decide +kernel
theorem dX5_joined_61 : decode cX5_joined 61 = .ok (.iconst 1, 1) := by decide +kernel
theorem dX5_joined_62 : decode cX5_joined 62 = .ok (.aload_n 1, 1) := by decide +kernel
theorem dX5_joined_63 : decode cX5_joined 63 = .ok (.invokevirtual 50, 3) := by decide +kernel
theorem dX5_joined_66 : decode cX5_joined 66 = .ok (.aload_n 2, 1) := by decide +kernel
theorem dX5_joined_67 : decode cX5_joined 67 = .ok (.invokevirtual 50, 3) := by decide +kernel
theorem dX5_joined_70 : decode cX5_joined 70 = .ok (.invokestatic 54, 3) := by decide +kernel
theorem dX5_joined_73 : decode cX5_joined 73 = .ok (.iadd, 1) := by decide +kernel
theorem dX5_joined_74 : decode cX5_joined 74 = .ok (.aload_n 0, 1) := by decide +kernel
theorem dX5_joined_75 : decode cX5_joined 75 = .ok (.getfield 9, 3) := by decide +kernel
theorem dX5_joined_78 : decode cX5_joined 78 = .ok (.iconst 1, 1) := by decide +kernel
theorem dX5_joined_79 : decode cX5_joined 79 = .ok (.iaload, 1) := by decide +kernel
theorem dX5_joined_80 : decode cX5_joined 80 = .ok (.if_icmp .gt 10, 3) := by decide +kernel
theorem dX5_joined_83 : decode cX5_joined 83 = .ok (.aload_n 0, 1) := by decide +kernel
theorem dX5_joined_84 : decode cX5_joined 84 = .ok (.aload_n 1, 1) := by decide +kernel
theorem dX5_joined_85 : decode cX5_joined 85 = .ok (.aload_n 2, 1) := by decide +kernel
theorem dX5_joined_86 : decode cX5_joined 86 = .ok (.invokevirtual 60, 3) := by decide +kernel
theorem dX5_joined_89 : decode cX5_joined 89 = .ok (.areturn, 1) := by decide +kernel
theorem dX5_joined_90 : decode cX5_joined 90 = .ok (.aload_n 0, 1) := by decide +kernel
theorem dX5_joined_91 : decode cX5_joined 91 = .ok (.getfield 18, 3) := by decide +kernel
theorem dX5_joined_94 : decode cX5_joined 94 = .ok (.aload_n 1, 1) := by decide +kernel
theorem dX5_joined_95 : decode cX5_joined 95 = .ok (.aload_n 2, 1) := by decide +kernel
theorem dX5_joined_96 : decode cX5_joined 96 = .ok (.invokevirtual 64, 3) := by decide +kernel
theorem dX5_joined_99 : decode cX5_joined 99 = .ok (.aload_n 0, 1) := by decide +kernel
theorem dX5_joined_100 : decode cX5_joined 100 = .ok (.aload_n 1, 1) := by decide +kernel
theorem dX5_joined_101 : decode cX5_joined 101 = .ok (.iconst 0, 1) := by decide +kernel
theorem dX5_joined_102 : decode cX5_joined 102 = .ok (.invokevirtual 65, 3) := by decide +kernel
theorem dX5_joined_105 : decode cX5_joined 105 = .ok (.aload_n 0, 1) := by decide +kernel
theorem dX5_joined_106 : decode cX5_joined 106 = .ok (.aload_n 2, 1) := by decide +kernel
theorem dX5_joined_107 : decode cX5_joined 107 = .ok (.iconst 0, 1) := by decide +kernel
theorem dX5_joined_108 : decode cX5_joined 108 = .ok (.invokevirtual 65, 3) := by decide +kernel
theorem dX5_joined_111 : decode cX5_joined 111 = .ok (.aload_n 0, 1) := by decide +kernel
theorem dX5_joined_112 : decode cX5_joined 112 = .ok (.iconst 0, 1) := by decide +kernel
theorem dX5_joined_113 : decode cX5_joined 113 = .ok (.aload_n 0, 1) := by decide +kernel
theorem dX5_joined_114 : decode cX5_joined 114 = .ok (.getfield 18, 3) := by decide +kernel
theorem dX5_joined_117 : decode cX5_joined 117 = .ok (.getfield 69, 3) := by decide +kernel
theorem dX5_joined_120 : decode cX5_joined 120 = .ok (.iconst 0, 1) := by decide +kernel
theorem dX5_joined_121 : decode cX5_joined 121 = .ok (.invokevirtual 70, 3) := by decide +kernel
theorem dX5_joined_124 : decode cX5_joined 124 = .ok (.areturn, 1) := by decide +kernel
theorem dX5_balanced_0 : decode cX5_balanced 0 = .ok (.iload_n 2, 1) := by decide +kernel
theorem dX5_balanced_1 : decode cX5_balanced 1 = .ok (.iconst 2, 1) := by decide +kernel
theorem dX5_balanced_2 : decode cX5_balanced 2 = .ok (.if_icmp .lt 9, 3) := by decide +kernel
theorem dX5_balanced_5 : decode cX5_balanced 5 = .ok (.iload_n 3, 1) := by decide +kernel
theorem dX5_balanced_6 : decode cX5_balanced 6 = .ok (.bipush 40, 2) := by decide +kernel
theorem dX5_balanced_8 : decode cX5_balanced 8 = .ok (.if_icmp .le 12, 3) := by decide +kernel
theorem dX5_balanced_11 : decode cX5_balanced 11 = .ok (.aload_n 0, 1) := by decide +kernel
theorem dX5_balanced_12 : decode cX5_balanced 12 = .ok (.getfield 18, 3) := by decide +kernel
theorem dX5_balanced_15 : decode cX5_balanced 15 = .ok (.iload_n 1, 1) := by decide +kernel
theorem dX5_balanced_16 : decode cX5_balanced 16 = .ok (.invokevirtual 74, 3) := by decide +kernel
theorem dX5_balanced_19 : decode cX5_balanced 19 = .ok (.areturn, 1) := by decide +kernel
theorem dX5_balanced_20 : decode cX5_balanced 20 = .ok (.iload_n 2, 1) := by decide +kernel
theorem dX5_balanced_21 : decode cX5_balanced 21 = .ok (.iconst 2, 1) := by decide +kernel
theorem dX5_balanced_22 : decode cX5_balanced 22 = .ok (.idiv, 1) := by decide +kernel
theorem dX5_balanced_23 : decode cX5_balanced 23 = .ok (.istore 4, 2) := by decide +kernel
theorem dX5_balanced_25 : decode cX5_balanced 25 = .ok (.aload_n 0, 1) := by decide +kernel
theorem dX5_balanced_26 : decode cX5_balanced 26 = .ok (.aload_n 0, 1) := by decide +kernel
theorem dX5_balanced_27 : decode cX5_balanced 27 = .ok (.iload_n 1, 1) := by decide +kernel
theorem dX5_balanced_28 : decode cX5_balanced 28 = .ok (.iload 4, 2) := by decide +kernel
theorem dX5_balanced_30 : decode cX5_balanced 30 = .ok (.iload_n 3, 1) := by decide +kernel
theorem dX5_balanced_31 : decode cX5_balanced 31 = .ok (.iconst 1, 1) := by decide +kernel
theorem dX5_balanced_32 : decode cX5_balanced 32 = .ok (.iadd, 1) := by decide +kernel
theorem dX5_balanced_33 : decode cX5_balanced 33 = .ok (.invokevirtual 70, 3) := by decide +kernel
theorem dX5_balanced_36 : decode cX5_balanced 36 = .ok (.aload_n 0, 1) := by decide +kernel
theorem dX5_balanced_37 : decode cX5_balanced 37 = .ok (.iload_n 1, 1) := by decide +kernel
theorem dX5_balanced_38 : decode cX5_balanced 38 = .ok (.iload 4, 2) := by decide +kernel
theorem dX5_balanced_40 : decode cX5_balanced 40 = .ok (.iadd, 1) := by decide +kernel
theorem dX5_balanced_41 : decode cX5_balanced 41 = .ok (.iload_n 2, 1) := by decide +kernel
theorem dX5_balanced_42 : decode cX5_balanced 42 = .ok (.iload 4, 2) := by decide +kernel
theorem dX5_balanced_44 : decode cX5_balanced 44 = .ok (.isub, 1) := by decide +kernel
theorem dX5_balanced_45 : decode cX5_balanced 45 = .ok (.iload_n 3, 1) := by decide +kernel
theorem dX5_balanced_46 : decode cX5_balanced 46 = .ok (.iconst 1, 1) := by decide +kernel
theorem dX5_balanced_47 : decode cX5_balanced 47 = .ok (.iadd, 1) := by decide +kernel
theorem dX5_balanced_48 : decode cX5_balanced 48 = .ok (.invokevirtual 70, 3) := by decide +kernel
theorem dX5_balanced_51 : decode cX5_balanced 51 = .ok (.invokevirtual 60, 3) := by decide +kernel
theorem dX5_balanced_54 : decode cX5_balanced 54 = .ok (.areturn, 1) := by decide +kernel
theorem dX5_newJoin_0 : decode cX5_newJoin 0 = .ok (.aload_n 0, 1) := by decide +kernel
theorem dX5_newJoin_1 : decode cX5_newJoin 1 = .ok (.getfield 33, 3) := by decide +kernel
theorem dX5_newJoin_4 : decode cX5_newJoin 4 = .ok (.astore_n 3, 1) := by decide +kernel
theorem dX5_newJoin_5 : decode cX5_newJoin 5 = .ok (.aload_n 3, 1) := by decide +kernel
theorem dX5_newJoin_6 : decode cX5_newJoin 6 = .ok (.ifnonnull 14, 3) := by decide +kernel
theorem dX5_newJoin_9 : decode cX5_newJoin 9 = .ok (.new 38, 3) := by decide +kernel
theorem dX5_newJoin_12 : decode cX5_newJoin 12 = .ok (.dup, 1) := by decide +kernel
theorem dX5_newJoin_13 : decode cX5_newJoin 13 = .ok (.invokespecial 78, 3) := by decide +kernel
theorem dX5_newJoin_16 : decode cX5_newJoin 16 = .ok (.astore_n 3, 1) := by decide +kernel
theorem dX5_newJoin_17 : decode cX5_newJoin 17 = .ok (.goto 11, 3) := by decide +kernel
theorem dX5_newJoin_20 : decode cX5_newJoin 20 = .ok (.aload_n 0, 1) := by decide +kernel
theorem dX5_newJoin_21 : decode cX5_newJoin 21 = .ok (.aload_n 3, 1) := by decide +kernel
theorem dX5_newJoin_22 : decode cX5_newJoin 22 = .ok (.getfield 79, 3) := by decide +kernel
theorem dX5_newJoin_25 : decode cX5_newJoin 25 = .ok (.putfield 33, 3) := by decide +kernel
theorem dX5_newJoin_28 : decode cX5_newJoin 28 = .ok (.aload_n 3, 1) := by decide +kernel
theorem dX5_newJoin_29 : decode cX5_newJoin 29 = .ok (.iconst 1, 1) := by decide +kernel
theorem dX5_newJoin_30 : decode cX5_newJoin 30 = .ok (.putfield 82, 3) := by decide +kernel
theorem dX5_newJoin_33 : decode cX5_newJoin 33 = .ok (.aload_n 3, 1) := by decide +kernel
theorem dX5_newJoin_34 : decode cX5_newJoin 34 = .ok (.aload_n 1, 1) := by decide +kernel
theorem dX5_newJoin_35 : decode cX5_newJoin 35 = .ok (.putfield 79, 3) := by decide +kernel
theorem dX5_newJoin_38 : decode cX5_newJoin 38 = .ok (.aload_n 3, 1) := by decide +kernel
theorem dX5_newJoin_39 : decode cX5_newJoin 39 = .ok (.aload_n 2, 1) := by decide +kernel
theorem dX5_newJoin_40 : decode cX5_newJoin 40 = .ok (.putfield 85, 3) := by decide +kernel
theorem dX5_newJoin_43 : decode cX5_newJoin 43 = .ok (.aload_n 3, 1) := by decide +kernel
theorem dX5_newJoin_44 : decode cX5_newJoin 44 = .ok (.aload_n 1, 1) := by decide +kernel
theorem dX5_newJoin_45 : decode cX5_newJoin 45 = .ok (.ifnonnull 7, 3) := by decide +kernel
theorem dX5_newJoin_48 : decode cX5_newJoin 48 = .ok (.iconst 0, 1) := by decide +kernel
theorem dX5_newJoin_49 : decode cX5_newJoin 49 = .ok (.goto 7, 3) := by decide +kernel
theorem dX5_newJoin_52 : decode cX5_newJoin 52 = .ok (.aload_n 1, 1) := by decide +kernel
theorem dX5_newJoin_53 : decode cX5_newJoin 53 = .ok (.getfield 37, 3) := by decide +kernel
theorem dX5_newJoin_56 : decode cX5_newJoin 56 = .ok (.aload_n 2, 1) := by decide +kernel
theorem dX5_newJoin_57 : decode cX5_newJoin 57 = .ok (.ifnonnull 7, 3) := by decide +kernel
theorem dX5_newJoin_60 : decode cX5_newJoin 60 = .ok (.iconst 0, 1) := by decide +kernel
theorem dX5_newJoin_61 : decode cX5_newJoin 61 = .ok (.goto 7, 3) := by decide +kernel
theorem dX5_newJoin_64 : decode cX5_newJoin 64 = .ok (.aload_n 2, 1) := by decide +kernel
theorem dX5_newJoin_65 : decode cX5_newJoin 65 = .ok (.getfield 37, 3) := by decide +kernel
theorem dX5_newJoin_68 : decode cX5_newJoin 68 = .ok (.iadd, 1) := by decide +kernel
theorem dX5_newJoin_69 : decode cX5_newJoin 69 = .ok (.putfield 37, 3) := by decide +kernel
theorem dX5_newJoin_72 : decode cX5_newJoin 72 = .ok (.aload_n 3, 1) := by decide +kernel
theorem dX5_newJoin_73 : decode cX5_newJoin 73 = .ok (.aload_n 0, 1) := by decide +kernel
theorem dX5_newJoin_74 : decode cX5_newJoin 74 = .ok (.getfield 29, 3) := by decide +kernel
theorem dX5_newJoin_77 : decode cX5_newJoin 77 = .ok (.putfield 88, 3) := by decide +kernel
theorem dX5_newJoin_80 : decode cX5_newJoin 80 = .ok (.aload_n 3, 1) := by decide +kernel
theorem dX5_newJoin_81 : decode cX5_newJoin 81 = .ok (.areturn, 1) := by decide +kernel
theorem dX5_release_0 : decode cX5_release 0 = .ok (.aload_n 1, 1) := by decide +kernel
theorem dX5_release_1 : decode cX5_release 1 = .ok (.ifnull 28, 3) := by decide +kernel
theorem dX5_release_4 : decode cX5_release 4 = .ok (.iload_n 2, 1) := by decide +kernel
theorem dX5_release_5 : decode cX5_release 5 = .ok (.bipush 40, 2) := by decide +kernel
theorem dX5_release_7 : decode cX5_release 7 = .ok (.if_icmp .gt 22, 3) := by decide +kernel
theorem dX5_release_10 : decode cX5_release 10 = .ok (.aload_n 1, 1) := by decide +kernel
theorem dX5_release_11 : decode cX5_release 11 = .ok (.getfield 82, 3) := by decide +kernel
theorem dX5_release_14 : decode cX5_release 14 = .ok (.iconst 1, 1) := by decide +kernel
theorem dX5_release_15 : decode cX5_release 15 = .ok (.if_icmp .ne 14, 3) := by decide +kernel
theorem dX5_release_18 : decode cX5_release 18 = .ok (.aload_n 1, 1) := by decide +kernel
theorem dX5_release_19 : decode cX5_release 19 = .ok (.getfield 88, 3) := by decide +kernel
theorem dX5_release_22 : decode cX5_release 22 = .ok (.aload_n 0, 1) := by decide +kernel
theorem dX5_release_23 : decode cX5_release 23 = .ok (.getfield 29, 3) := by decide +kernel
theorem dX5_release_26 : decode cX5_release 26 = .ok (.if_icmp .eq 4, 3) := by decide +kernel
theorem dX5_release_29 : decode cX5_release 29 = .ok (.return_, 1) := by decide +kernel
theorem dX5_release_30 : decode cX5_release 30 = .ok (.aload_n 0, 1) := by decide +kernel
theorem dX5_release_31 : decode cX5_release 31 = .ok (.aload_n 1, 1) := by decide +kernel
theorem dX5_release_32 : decode cX5_release 32 = .ok (.getfield 79, 3) := by decide +kernel
theorem dX5_release_35 : decode cX5_release 35 = .ok (.iload_n 2, 1) := by decide +kernel
theorem dX5_release_36 : decode cX5_release 36 = .ok (.iconst 1, 1) := by decide +kernel
theorem dX5_release_37 : decode cX5_release 37 = .ok (.iadd, 1) := by decide +kernel
theorem dX5_release_38 : decode cX5_release 38 = .ok (.invokevirtual 65, 3) := by decide +kernel
theorem dX5_release_41 : decode cX5_release 41 = .ok (.aload_n 0, 1) := by decide +kernel
theorem dX5_release_42 : decode cX5_release 42 = .ok (.aload_n 1, 1) := by decide +kernel
theorem dX5_release_43 : decode cX5_release 43 = .ok (.getfield 85, 3) := by decide +kernel
theorem dX5_release_46 : decode cX5_release 46 = .ok (.iload_n 2, 1) := by decide +kernel
theorem dX5_release_47 : decode cX5_release 47 = .ok (.iconst 1, 1) := by decide +kernel
theorem dX5_release_48 : decode cX5_release 48 = .ok (.iadd, 1) := by decide +kernel
theorem dX5_release_49 : decode cX5_release 49 = .ok (.invokevirtual 65, 3) := by decide +kernel
theorem dX5_release_52 : decode cX5_release 52 = .ok (.aload_n 1, 1) := by decide +kernel
theorem dX5_release_53 : decode cX5_release 53 = .ok (.aload_n 0, 1) := by decide +kernel
theorem dX5_release_54 : decode cX5_release 54 = .ok (.getfield 33, 3) := by decide +kernel
theorem dX5_release_57 : decode cX5_release 57 = .ok (.putfield 79, 3) := by decide +kernel
theorem dX5_release_60 : decode cX5_release 60 = .ok (.aload_n 1, 1) := by decide +kernel
theorem dX5_release_61 : decode cX5_release 61 = .ok (.aconst_null, 1) := by decide +kernel
theorem dX5_release_62 : decode cX5_release 62 = .ok (.putfield 85, 3) := by decide +kernel
theorem dX5_release_65 : decode cX5_release 65 = .ok (.aload_n 0, 1) := by decide +kernel
theorem dX5_release_66 : decode cX5_release 66 = .ok (.aload_n 1, 1) := by decide +kernel
theorem dX5_release_67 : decode cX5_release 67 = .ok (.putfield 33, 3) := by decide +kernel
theorem dX5_release_70 : decode cX5_release 70 = .ok (.return_, 1) := by decide +kernel
theorem dX5_cutOut_0 : decode cX5_cutOut 0 = .ok (.aload_n 1, 1) := by decide +kernel
theorem dX5_cutOut_1 : decode cX5_cutOut 1 = .ok (.ifnull 14, 3) := by decide +kernel
theorem dX5_cutOut_4 : decode cX5_cutOut 4 = .ok (.iload_n 3, 1) := by decide +kernel
theorem dX5_cutOut_5 : decode cX5_cutOut 5 = .ok (.ifCond .le 10, 3) := by decide +kernel
theorem dX5_cutOut_8 : decode cX5_cutOut 8 = .ok (.iload 4, 2) := by decide +kernel
theorem dX5_cutOut_10 : decode cX5_cutOut 10 = .ok (.bipush 40, 2) := by decide +kernel
theorem dX5_cutOut_12 : decode cX5_cutOut 12 = .ok (.if_icmp .le 7, 3) := by decide +kernel
theorem dX5_cutOut_15 : decode cX5_cutOut 15 = .ok (.invokestatic 91, 3) := by decide +kernel
theorem dX5_cutOut_18 : decode cX5_cutOut 18 = .ok (.areturn, 1) := by decide +kernel
theorem dX5_cutOut_19 : decode cX5_cutOut 19 = .ok (.iload_n 3, 1) := by decide +kernel
theorem dX5_cutOut_20 : decode cX5_cutOut 20 = .ok (.aload_n 1, 1) := by decide +kernel
theorem dX5_cutOut_21 : decode cX5_cutOut 21 = .ok (.getfield 37, 3) := by decide +kernel
theorem dX5_cutOut_24 : decode cX5_cutOut 24 = .ok (.if_icmp .ne 5, 3) := by decide +kernel
theorem dX5_cutOut_27 : decode cX5_cutOut 27 = .ok (.aload_n 1, 1) := by decide +kernel
theorem dX5_cutOut_28 : decode cX5_cutOut 28 = .ok (.areturn, 1) := by decide +kernel
theorem dX5_cutOut_29 : decode cX5_cutOut 29 = .ok (.aload_n 1, 1) := by decide +kernel
theorem dX5_cutOut_30 : decode cX5_cutOut 30 = .ok (.getfield 82, 3) := by decide +kernel
theorem dX5_cutOut_33 : decode cX5_cutOut 33 = .ok (.lookupswitch 53 #[(1, 27), (2, 37)], 27) := by decide +kernel
theorem dX5_cutOut_60 : decode cX5_cutOut 60 = .ok (.aload_n 0, 1) := by decide +kernel
theorem dX5_cutOut_61 : decode cX5_cutOut 61 = .ok (.aload_n 1, 1) := by decide +kernel
theorem dX5_cutOut_62 : decode cX5_cutOut 62 = .ok (.iload_n 2, 1) := by decide +kernel
theorem dX5_cutOut_63 : decode cX5_cutOut 63 = .ok (.iload_n 3, 1) := by decide +kernel
theorem dX5_cutOut_64 : decode cX5_cutOut 64 = .ok (.iload 4, 2) := by decide +kernel
theorem dX5_cutOut_66 : decode cX5_cutOut 66 = .ok (.invokevirtual 95, 3) := by decide +kernel
theorem dX5_cutOut_69 : decode cX5_cutOut 69 = .ok (.areturn, 1) := by decide +kernel
theorem dX5_cutOut_70 : decode cX5_cutOut 70 = .ok (.aload_n 0, 1) := by decide +kernel
theorem dX5_cutOut_71 : decode cX5_cutOut 71 = .ok (.aload_n 1, 1) := by decide +kernel
theorem dX5_cutOut_72 : decode cX5_cutOut 72 = .ok (.getfield 99, 3) := by decide +kernel
theorem dX5_cutOut_75 : decode cX5_cutOut 75 = .ok (.aload_n 1, 1) := by decide +kernel
theorem dX5_cutOut_76 : decode cX5_cutOut 76 = .ok (.getfield 102, 3) := by decide +kernel
theorem dX5_cutOut_79 : decode cX5_cutOut 79 = .ok (.iload_n 2, 1) := by decide +kernel
theorem dX5_cutOut_80 : decode cX5_cutOut 80 = .ok (.iadd, 1) := by decide +kernel
theorem dX5_cutOut_81 : decode cX5_cutOut 81 = .ok (.iload_n 3, 1) := by decide +kernel
theorem dX5_cutOut_82 : decode cX5_cutOut 82 = .ok (.invokevirtual 105, 3) := by decide +kernel
theorem dX5_cutOut_85 : decode cX5_cutOut 85 = .ok (.areturn, 1) := by decide +kernel
theorem dX5_cutOut_86 : decode cX5_cutOut 86 = .ok (.aload_n 0, 1) := by decide +kernel
theorem dX5_cutOut_87 : decode cX5_cutOut 87 = .ok (.aload_n 1, 1) := by decide +kernel
theorem dX5_cutOut_88 : decode cX5_cutOut 88 = .ok (.iload_n 2, 1) := by decide +kernel
theorem dX5_cutOut_89 : decode cX5_cutOut 89 = .ok (.iload_n 3, 1) := by decide +kernel
theorem dX5_cutOut_90 : decode cX5_cutOut 90 = .ok (.invokevirtual 105, 3) := by decide +kernel
theorem dX5_cutOut_93 : decode cX5_cutOut 93 = .ok (.areturn, 1) := by decide +kernel
theorem dX5_cutOutOfLeaf_0 : decode cX5_cutOutOfLeaf 0 = .ok (.aload_n 1, 1) := by decide +kernel
theorem dX5_cutOutOfLeaf_1 : decode cX5_cutOutOfLeaf 1 = .ok (.ifnull 25, 3) := by decide +kernel
theorem dX5_cutOutOfLeaf_4 : decode cX5_cutOutOfLeaf 4 = .ok (.iload_n 3, 1) := by decide +kernel
theorem dX5_cutOutOfLeaf_5 : decode cX5_cutOutOfLeaf 5 = .ok (.aload_n 0, 1) := by decide +kernel
theorem dX5_cutOutOfLeaf_6 : decode cX5_cutOutOfLeaf 6 = .ok (.getfield 9, 3) := by decide +kernel
theorem dX5_cutOutOfLeaf_9 : decode cX5_cutOutOfLeaf 9 = .ok (.iconst 2, 1) := by decide +kernel
theorem dX5_cutOutOfLeaf_10 : decode cX5_cutOutOfLeaf 10 = .ok (.iaload, 1) := by decide +kernel
theorem dX5_cutOutOfLeaf_11 : decode cX5_cutOutOfLeaf 11 = .ok (.imul, 1) := by decide +kernel
theorem dX5_cutOutOfLeaf_12 : decode cX5_cutOutOfLeaf 12 = .ok (.aload_n 1, 1) := by decide +kernel
theorem dX5_cutOutOfLeaf_13 : decode cX5_cutOutOfLeaf 13 = .ok (.getfield 37, 3) := by decide +kernel
theorem dX5_cutOutOfLeaf_16 : decode cX5_cutOutOfLeaf 16 = .ok (.if_icmp .lt 10, 3) := by decide +kernel
theorem dX5_cutOutOfLeaf_19 : decode cX5_cutOutOfLeaf 19 = .ok (.aload_n 1, 1) := by decide +kernel
theorem dX5_cutOutOfLeaf_20 : decode cX5_cutOutOfLeaf 20 = .ok (.iload_n 2, 1) := by decide +kernel
theorem dX5_cutOutOfLeaf_21 : decode cX5_cutOutOfLeaf 21 = .ok (.iload_n 3, 1) := by decide +kernel
theorem dX5_cutOutOfLeaf_22 : decode cX5_cutOutOfLeaf 22 = .ok (.invokestatic 109, 3) := by decide +kernel
theorem dX5_cutOutOfLeaf_25 : decode cX5_cutOutOfLeaf 25 = .ok (.areturn, 1) := by decide +kernel
theorem dX5_cutOutOfLeaf_26 : decode cX5_cutOutOfLeaf 26 = .ok (.aload_n 0, 1) := by decide +kernel
theorem dX5_cutOutOfLeaf_27 : decode cX5_cutOutOfLeaf 27 = .ok (.getfield 25, 3) := by decide +kernel
theorem dX5_cutOutOfLeaf_30 : decode cX5_cutOutOfLeaf 30 = .ok (.aload_n 1, 1) := by decide +kernel
theorem dX5_cutOutOfLeaf_31 : decode cX5_cutOutOfLeaf 31 = .ok (.iload_n 2, 1) := by decide +kernel
theorem dX5_cutOutOfLeaf_32 : decode cX5_cutOutOfLeaf 32 = .ok (.iload_n 3, 1) := by decide +kernel
theorem dX5_cutOutOfLeaf_33 : decode cX5_cutOutOfLeaf 33 = .ok (.invokevirtual 112, 3) := by decide +kernel
theorem dX5_cutOutOfLeaf_36 : decode cX5_cutOutOfLeaf 36 = .ok (.aload_n 0, 1) := by decide +kernel
theorem dX5_cutOutOfLeaf_37 : decode cX5_cutOutOfLeaf 37 = .ok (.getfield 25, 3) := by decide +kernel
theorem dX5_cutOutOfLeaf_40 : decode cX5_cutOutOfLeaf 40 = .ok (.invokestatic 46, 3) := by decide +kernel
theorem dX5_cutOutOfLeaf_43 : decode cX5_cutOutOfLeaf 43 = .ok (.areturn, 1) := by decide +kernel
theorem dX5_cutOutOfJoin_0 : decode cX5_cutOutOfJoin 0 = .ok (.aload_n 1, 1) := by decide +kernel
theorem dX5_cutOutOfJoin_1 : decode cX5_cutOutOfJoin 1 = .ok (.getfield 79, 3) := by decide +kernel
theorem dX5_cutOutOfJoin_4 : decode cX5_cutOutOfJoin 4 = .ok (.ifnonnull 7, 3) := by decide +kernel
theorem dX5_cutOutOfJoin_7 : decode cX5_cutOutOfJoin 7 = .ok (.iconst 0, 1) := by decide +kernel
theorem dX5_cutOutOfJoin_8 : decode cX5_cutOutOfJoin 8 = .ok (.goto 10, 3) := by decide +kernel
theorem dX5_cutOutOfJoin_11 : decode cX5_cutOutOfJoin 11 = .ok (.aload_n 1, 1) := by decide +kernel
theorem dX5_cutOutOfJoin_12 : decode cX5_cutOutOfJoin 12 = .ok (.getfield 79, 3) := by decide +kernel
theorem dX5_cutOutOfJoin_15 : decode cX5_cutOutOfJoin 15 = .ok (.getfield 37, 3) := by decide +kernel
theorem dX5_cutOutOfJoin_18 : decode cX5_cutOutOfJoin 18 = .ok (.istore 5, 2) := by decide +kernel
theorem dX5_cutOutOfJoin_20 : decode cX5_cutOutOfJoin 20 = .ok (.iload_n 2, 1) := by decide +kernel
theorem dX5_cutOutOfJoin_21 : decode cX5_cutOutOfJoin 21 = .ok (.iload_n 3, 1) := by decide +kernel
theorem dX5_cutOutOfJoin_22 : decode cX5_cutOutOfJoin 22 = .ok (.iadd, 1) := by decide +kernel
theorem dX5_cutOutOfJoin_23 : decode cX5_cutOutOfJoin 23 = .ok (.iload 5, 2) := by decide +kernel
theorem dX5_cutOutOfJoin_25 : decode cX5_cutOutOfJoin 25 = .ok (.if_icmp .gt 18, 3) := by decide +kernel
theorem dX5_cutOutOfJoin_28 : decode cX5_cutOutOfJoin 28 = .ok (.aload_n 0, 1) := by decide +kernel
theorem dX5_cutOutOfJoin_29 : decode cX5_cutOutOfJoin 29 = .ok (.aload_n 1, 1) := by decide +kernel
theorem dX5_cutOutOfJoin_30 : decode cX5_cutOutOfJoin 30 = .ok (.getfield 79, 3) := by decide +kernel
theorem dX5_cutOutOfJoin_33 : decode cX5_cutOutOfJoin 33 = .ok (.iload_n 2, 1) := by decide +kernel
theorem dX5_cutOutOfJoin_34 : decode cX5_cutOutOfJoin 34 = .ok (.iload_n 3, 1) := by decide +kernel
theorem dX5_cutOutOfJoin_35 : decode cX5_cutOutOfJoin 35 = .ok (.iload 4, 2) := by decide +kernel
theorem dX5_cutOutOfJoin_37 : decode cX5_cutOutOfJoin 37 = .ok (.iconst 1, 1) := by decide +kernel
theorem dX5_cutOutOfJoin_38 : decode cX5_cutOutOfJoin 38 = .ok (.iadd, 1) := by decide +kernel
theorem dX5_cutOutOfJoin_39 : decode cX5_cutOutOfJoin 39 = .ok (.invokevirtual 116, 3) := by decide +kernel
theorem dX5_cutOutOfJoin_42 : decode cX5_cutOutOfJoin 42 = .ok (.areturn, 1) := by decide +kernel
theorem dX5_cutOutOfJoin_43 : decode cX5_cutOutOfJoin 43 = .ok (.iload_n 2, 1) := by decide +kernel
theorem dX5_cutOutOfJoin_44 : decode cX5_cutOutOfJoin 44 = .ok (.iload 5, 2) := by decide +kernel
theorem dX5_cutOutOfJoin_46 : decode cX5_cutOutOfJoin 46 = .ok (.if_icmp .lt 21, 3) := by decide +kernel
theorem dX5_cutOutOfJoin_49 : decode cX5_cutOutOfJoin 49 = .ok (.aload_n 0, 1) := by decide +kernel
theorem dX5_cutOutOfJoin_50 : decode cX5_cutOutOfJoin 50 = .ok (.aload_n 1, 1) := by decide +kernel
theorem dX5_cutOutOfJoin_51 : decode cX5_cutOutOfJoin 51 = .ok (.getfield 85, 3) := by decide +kernel
theorem dX5_cutOutOfJoin_54 : decode cX5_cutOutOfJoin 54 = .ok (.iload_n 2, 1) := by decide +kernel
theorem dX5_cutOutOfJoin_55 : decode cX5_cutOutOfJoin 55 = .ok (.iload 5, 2) := by decide +kernel
theorem dX5_cutOutOfJoin_57 : decode cX5_cutOutOfJoin 57 = .ok (.isub, 1) := by decide +kernel
theorem dX5_cutOutOfJoin_58 : decode cX5_cutOutOfJoin 58 = .ok (.iload_n 3, 1) := by decide +kernel
theorem dX5_cutOutOfJoin_59 : decode cX5_cutOutOfJoin 59 = .ok (.iload 4, 2) := by decide +kernel
theorem dX5_cutOutOfJoin_61 : decode cX5_cutOutOfJoin 61 = .ok (.iconst 1, 1) := by decide +kernel
theorem dX5_cutOutOfJoin_62 : decode cX5_cutOutOfJoin 62 = .ok (.iadd, 1) := by decide +kernel
theorem dX5_cutOutOfJoin_63 : decode cX5_cutOutOfJoin 63 = .ok (.invokevirtual 116, 3) := by decide +kernel
theorem dX5_cutOutOfJoin_66 : decode cX5_cutOutOfJoin 66 = .ok (.areturn, 1) := by decide +kernel
theorem dX5_cutOutOfJoin_67 : decode cX5_cutOutOfJoin 67 = .ok (.aload_n 0, 1) := by decide +kernel
theorem dX5_cutOutOfJoin_68 : decode cX5_cutOutOfJoin 68 = .ok (.aload_n 1, 1) := by decide +kernel
theorem dX5_cutOutOfJoin_69 : decode cX5_cutOutOfJoin 69 = .ok (.getfield 79, 3) := by decide +kernel
theorem dX5_cutOutOfJoin_72 : decode cX5_cutOutOfJoin 72 = .ok (.iload_n 2, 1) := by decide +kernel
theorem dX5_cutOutOfJoin_73 : decode cX5_cutOutOfJoin 73 = .ok (.iload 5, 2) := by decide +kernel
theorem dX5_cutOutOfJoin_75 : decode cX5_cutOutOfJoin 75 = .ok (.iload_n 2, 1) := by decide +kernel
theorem dX5_cutOutOfJoin_76 : decode cX5_cutOutOfJoin 76 = .ok (.isub, 1) := by decide +kernel
theorem dX5_cutOutOfJoin_77 : decode cX5_cutOutOfJoin 77 = .ok (.iload 4, 2) := by decide +kernel
theorem dX5_cutOutOfJoin_79 : decode cX5_cutOutOfJoin 79 = .ok (.iconst 1, 1) := by decide +kernel
theorem dX5_cutOutOfJoin_80 : decode cX5_cutOutOfJoin 80 = .ok (.iadd, 1) := by decide +kernel
theorem dX5_cutOutOfJoin_81 : decode cX5_cutOutOfJoin 81 = .ok (.invokevirtual 116, 3) := by decide +kernel
theorem dX5_cutOutOfJoin_84 : decode cX5_cutOutOfJoin 84 = .ok (.astore 6, 2) := by decide +kernel
theorem dX5_cutOutOfJoin_86 : decode cX5_cutOutOfJoin 86 = .ok (.aload_n 0, 1) := by decide +kernel
theorem dX5_cutOutOfJoin_87 : decode cX5_cutOutOfJoin 87 = .ok (.aload_n 1, 1) := by decide +kernel
theorem dX5_cutOutOfJoin_88 : decode cX5_cutOutOfJoin 88 = .ok (.getfield 85, 3) := by decide +kernel
theorem dX5_cutOutOfJoin_91 : decode cX5_cutOutOfJoin 91 = .ok (.iconst 0, 1) := by decide +kernel
theorem dX5_cutOutOfJoin_92 : decode cX5_cutOutOfJoin 92 = .ok (.iload_n 2, 1) := by decide +kernel
theorem dX5_cutOutOfJoin_93 : decode cX5_cutOutOfJoin 93 = .ok (.iload_n 3, 1) := by decide +kernel
theorem dX5_cutOutOfJoin_94 : decode cX5_cutOutOfJoin 94 = .ok (.iadd, 1) := by decide +kernel
theorem dX5_cutOutOfJoin_95 : decode cX5_cutOutOfJoin 95 = .ok (.iload 5, 2) := by decide +kernel
theorem dX5_cutOutOfJoin_97 : decode cX5_cutOutOfJoin 97 = .ok (.isub, 1) := by decide +kernel
theorem dX5_cutOutOfJoin_98 : decode cX5_cutOutOfJoin 98 = .ok (.iload 4, 2) := by decide +kernel
theorem dX5_cutOutOfJoin_100 : decode cX5_cutOutOfJoin 100 = .ok (.iconst 1, 1) := by decide +kernel
theorem dX5_cutOutOfJoin_101 : decode cX5_cutOutOfJoin 101 = .ok (.iadd, 1) := by decide +kernel
theorem dX5_cutOutOfJoin_102 : decode cX5_cutOutOfJoin 102 = .ok (.invokevirtual 116, 3) := by decide +kernel
theorem dX5_cutOutOfJoin_105 : decode cX5_cutOutOfJoin 105 = .ok (.astore 7, 2) := by decide +kernel
theorem dX5_cutOutOfJoin_107 : decode cX5_cutOutOfJoin 107 = .ok (.aload_n 0, 1) := by decide +kernel
theorem dX5_cutOutOfJoin_108 : decode cX5_cutOutOfJoin 108 = .ok (.aload 6, 2) := by decide +kernel
theorem dX5_cutOutOfJoin_110 : decode cX5_cutOutOfJoin 110 = .ok (.aload 7, 2) := by decide +kernel
theorem dX5_cutOutOfJoin_112 : decode cX5_cutOutOfJoin 112 = .ok (.invokevirtual 119, 3) := by decide +kernel
theorem dX5_cutOutOfJoin_115 : decode cX5_cutOutOfJoin 115 = .ok (.areturn, 1) := by decide +kernel
theorem dX6_init_0 : decode cX6_init 0 = .ok (.aload_n 0, 1) := by decide +kernel
theorem dX6_init_1 : decode cX6_init 1 = .ok (.invokespecial 1, 3) := by decide +kernel
theorem dX6_init_4 : decode cX6_init 4 = .ok (.aload_n 0, 1) := by decide +kernel
theorem dX6_init_5 : decode cX6_init 5 = .ok (.bipush 8, 2) := by decide +kernel
theorem dX6_init_7 : decode cX6_init 7 = .ok (.anewarray 9, 3) := by decide +kernel
theorem dX6_init_10 : decode cX6_init 10 = .ok (.putfield 11, 3) := by decide +kernel
theorem dX6_init_13 : decode cX6_init 13 = .ok (.aload_n 0, 1) := by decide +kernel
theorem dX6_init_14 : decode cX6_init 14 = .ok (.bipush 8, 2) := by decide +kernel
theorem dX6_init_16 : decode cX6_init 16 = .ok (.anewarray 9, 3) := by decide +kernel
theorem dX6_init_19 : decode cX6_init 19 = .ok (.putfield 15, 3) := by decide +kernel
theorem dX6_init_22 : decode cX6_init 22 = .ok (.aload_n 0, 1) := by decide +kernel
theorem dX6_init_23 : decode cX6_init 23 = .ok (.bipush 8, 2) := by decide +kernel
theorem dX6_init_25 : decode cX6_init 25 = .ok (.anewarray 9, 3) := by decide +kernel
theorem dX6_init_28 : decode cX6_init 28 = .ok (.putfield 18, 3) := by decide +kernel
theorem dX6_init_31 : decode cX6_init 31 = .ok (.aload_n 0, 1) := by decide +kernel
theorem dX6_init_32 : decode cX6_init 32 = .ok (.iconst 0, 1) := by decide +kernel
theorem dX6_init_33 : decode cX6_init 33 = .ok (.putfield 21, 3) := by decide +kernel
theorem dX6_init_36 : decode cX6_init 36 = .ok (.aload_n 0, 1) := by decide +kernel
theorem dX6_init_37 : decode cX6_init 37 = .ok (.new 25, 3) := by decide +kernel
theorem dX6_init_40 : decode cX6_init 40 = .ok (.dup, 1) := by decide +kernel
theorem dX6_init_41 : decode cX6_init 41 = .ok (.invokespecial 27, 3) := by decide +kernel
theorem dX6_init_44 : decode cX6_init 44 = .ok (.putfield 28, 3) := by decide +kernel
theorem dX6_init_47 : decode cX6_init 47 = .ok (.aload_n 0, 1) := by decide +kernel
theorem dX6_init_48 : decode cX6_init 48 = .ok (.new 32, 3) := by decide +kernel
theorem dX6_init_51 : decode cX6_init 51 = .ok (.dup, 1) := by decide +kernel
theorem dX6_init_52 : decode cX6_init 52 = .ok (.invokespecial 34, 3) := by decide +kernel
theorem dX6_init_55 : decode cX6_init 55 = .ok (.putfield 35, 3) := by decide +kernel
theorem dX6_init_58 : decode cX6_init 58 = .ok (.aload_n 0, 1) := by decide +kernel
theorem dX6_init_59 : decode cX6_init 59 = .ok (.new 39, 3) := by decide +kernel
theorem dX6_init_62 : decode cX6_init 62 = .ok (.dup, 1) := by decide +kernel
theorem dX6_init_63 : decode cX6_init 63 = .ok (.invokespecial 41, 3) := by decide +kernel
theorem dX6_init_66 : decode cX6_init 66 = .ok (.putfield 42, 3) := by decide +kernel
theorem dX6_init_69 : decode cX6_init 69 = .ok (.aload_n 0, 1) := by decide +kernel
theorem dX6_init_70 : decode cX6_init 70 = .ok (.new 46, 3) := by decide +kernel
theorem dX6_init_73 : decode cX6_init 73 = .ok (.dup, 1) := by decide +kernel
theorem dX6_init_74 : decode cX6_init 74 = .ok (.invokespecial 48, 3) := by decide +kernel
theorem dX6_init_77 : decode cX6_init 77 = .ok (.putfield 49, 3) := by decide +kernel
theorem dX6_init_80 : decode cX6_init 80 = .ok (.aload_n 0, 1) := by decide +kernel
theorem dX6_init_81 : decode cX6_init 81 = .ok (.new 53, 3) := by decide +kernel
theorem dX6_init_84 : decode cX6_init 84 = .ok (.dup, 1) := by decide +kernel
theorem dX6_init_85 : decode cX6_init 85 = .ok (.invokespecial 55, 3) := by decide +kernel
theorem dX6_init_88 : decode cX6_init 88 = .ok (.putfield 56, 3) := by decide +kernel
theorem dX6_init_91 : decode cX6_init 91 = .ok (.aload_n 0, 1) := by decide +kernel
theorem dX6_init_92 : decode cX6_init 92 = .ok (.new 25, 3) := by decide +kernel
theorem dX6_init_95 : decode cX6_init 95 = .ok (.dup, 1) := by decide +kernel
theorem dX6_init_96 : decode cX6_init 96 = .ok (.invokespecial 27, 3) := by decide +kernel
theorem dX6_init_99 : decode cX6_init 99 = .ok (.putfield 60, 3) := by decide +kernel
theorem dX6_init_102 : decode cX6_init 102 = .ok (.aload_n 0, 1) := by decide +kernel
theorem dX6_init_103 : decode cX6_init 103 = .ok (.new 25, 3) := by decide +kernel
theorem dX6_init_106 : decode cX6_init 106 = .ok (.dup, 1) := by decide +kernel
theorem dX6_init_107 : decode cX6_init 107 = .ok (.invokespecial 27, 3) := by decide +kernel
theorem dX6_init_110 : decode cX6_init 110 = .ok (.putfield 63, 3) := by decide +kernel
theorem dX6_init_113 : decode cX6_init 113 = .ok (.iconst 0, 1) := by decide +kernel
theorem dX6_init_114 : decode cX6_init 114 = .ok (.istore_n 1, 1) := by decide +kernel
theorem dX6_init_115 : decode cX6_init 115 = .ok (.iload_n 1, 1) := by decide +kernel
theorem dX6_init_116 : decode cX6_init 116 = .ok (.aload_n 0, 1) := by decide +kernel
theorem dX6_init_117 : decode cX6_init 117 = .ok (.getfield 11, 3) := by decide +kernel
theorem dX6_init_120 : decode cX6_init 120 = .ok (.arraylength, 1) := by decide +kernel
theorem dX6_init_121 : decode cX6_init 121 = .ok (.if_icmp .ge 18, 3) := by decide +kernel
theorem dX6_init_124 : decode cX6_init 124 = .ok (.aload_n 0, 1) := by decide +kernel
theorem dX6_init_125 : decode cX6_init 125 = .ok (.getfield 11, 3) := by decide +kernel
theorem dX6_init_128 : decode cX6_init 128 = .ok (.iload_n 1, 1) := by decide +kernel
theorem dX6_init_129 : decode cX6_init 129 = .ok (.invokestatic 66, 3) := by decide +kernel
theorem dX6_init_132 : decode cX6_init 132 = .ok (.aastore, 1) := by decide +kernel
theorem dX6_init_133 : decode cX6_init 133 = .ok (.iinc 1 1, 3) := by decide +kernel
theorem dX6_init_136 : decode cX6_init 136 = .ok (.goto (-21), 3) := by decide +kernel
theorem dX6_init_139 : decode cX6_init 139 = .ok (.return_, 1) := by decide +kernel
theorem dX6_rule_0 : decode cX6_rule 0 = .ok (.iload_n 1, 1) := by decide +kernel
theorem dX6_rule_1 : decode cX6_rule 1 = .ok (.invokestatic 70, 3) := by decide +kernel
theorem dX6_rule_4 : decode cX6_rule 4 = .ok (.ifCond .eq 21, 3) := by decide +kernel
theorem dX6_rule_7 : decode cX6_rule 7 = .ok (.iload_n 2, 1) := by decide +kernel
theorem dX6_rule_8 : decode cX6_rule 8 = .ok (.getstatic 74, 3) := by decide +kernel
theorem dX6_rule_11 : decode cX6_rule 11 = .ok (.iload_n 1, 1) := by decide +kernel
theorem dX6_rule_12 : decode cX6_rule 12 = .ok (.iaload, 1) := by decide +kernel
theorem dX6_rule_13 : decode cX6_rule 13 = .ok (.if_icmp .lt 12, 3) := by decide +kernel
theorem dX6_rule_16 : decode cX6_rule 16 = .ok (.iload_n 2, 1) := by decide +kernel
theorem dX6_rule_17 : decode cX6_rule 17 = .ok (.getstatic 78, 3) := by decide +kernel
theorem dX6_rule_20 : decode cX6_rule 20 = .ok (.iload_n 1, 1) := by decide +kernel
theorem dX6_rule_21 : decode cX6_rule 21 = .ok (.iaload, 1) := by decide +kernel
theorem dX6_rule_22 : decode cX6_rule 22 = .ok (.if_icmp .le 6, 3) := by decide +kernel
theorem dX6_rule_25 : decode cX6_rule 25 = .ok (.bipush (-2), 2) := by decide +kernel
theorem dX6_rule_27 : decode cX6_rule 27 = .ok (.ireturn, 1) := by decide +kernel
theorem dX6_rule_28 : decode cX6_rule 28 = .ok (.aload_n 0, 1) := by decide +kernel
theorem dX6_rule_29 : decode cX6_rule 29 = .ok (.getfield 49, 3) := by decide +kernel
theorem dX6_rule_32 : decode cX6_rule 32 = .ok (.getfield 81, 3) := by decide +kernel
theorem dX6_rule_35 : decode cX6_rule 35 = .ok (.iload_n 1, 1) := by decide +kernel
theorem dX6_rule_36 : decode cX6_rule 36 = .ok (.iaload, 1) := by decide +kernel
theorem dX6_rule_37 : decode cX6_rule 37 = .ok (.istore_n 3, 1) := by decide +kernel
theorem dX6_rule_38 : decode cX6_rule 38 = .ok (.aload_n 0, 1) := by decide +kernel
theorem dX6_rule_39 : decode cX6_rule 39 = .ok (.getfield 49, 3) := by decide +kernel
theorem dX6_rule_42 : decode cX6_rule 42 = .ok (.getfield 81, 3) := by decide +kernel
theorem dX6_rule_45 : decode cX6_rule 45 = .ok (.iload_n 1, 1) := by decide +kernel
theorem dX6_rule_46 : decode cX6_rule 46 = .ok (.iload_n 2, 1) := by decide +kernel
theorem dX6_rule_47 : decode cX6_rule 47 = .ok (.iastore, 1) := by decide +kernel
theorem dX6_rule_48 : decode cX6_rule 48 = .ok (.iload_n 3, 1) := by decide +kernel
theorem dX6_rule_49 : decode cX6_rule 49 = .ok (.ireturn, 1) := by decide +kernel
theorem dX6_say_0 : decode cX6_say 0 = .ok (.iload_n 1, 1) := by decide +kernel
theorem dX6_say_1 : decode cX6_say 1 = .ok (.iconst 1, 1) := by decide +kernel
theorem dX6_say_2 : decode cX6_say 2 = .ok (.if_icmp .lt 10, 3) := by decide +kernel
theorem dX6_say_5 : decode cX6_say 5 = .ok (.iload_n 1, 1) := by decide +kernel
theorem dX6_say_6 : decode cX6_say 6 = .ok (.sipush 9999, 3) := by decide +kernel
theorem dX6_say_9 : decode cX6_say 9 = .ok (.if_icmp .le 6, 3) := by decide +kernel
theorem dX6_say_12 : decode cX6_say 12 = .ok (.bipush (-2), 2) := by decide +kernel
theorem dX6_say_14 : decode cX6_say 14 = .ok (.ireturn, 1) := by decide +kernel
theorem dX6_say_15 : decode cX6_say 15 = .ok (.aload_n 0, 1) := by decide +kernel
theorem dX6_say_16 : decode cX6_say 16 = .ok (.getfield 28, 3) := by decide +kernel
