theorem dX0_signAt_25 : decode cX0_signAt 25 = .ok (.iaload, 1) := by decide +kernel
theorem dX0_signAt_26 : decode cX0_signAt 26 = .ok (.goto 4, 3) := by decide +kernel
theorem dX0_signAt_29 : decode cX0_signAt 29 = .ok (.iconst 0, 1) := by decide +kernel
theorem dX0_signAt_30 : decode cX0_signAt 30 = .ok (.ireturn, 1) := by decide +kernel
theorem dX0_depth_0 : decode cX0_depth 0 = .ok (.aload_n 0, 1) := by decide +kernel
theorem dX0_depth_1 : decode cX0_depth 1 = .ok (.iconst 0, 1) := by decide +kernel
theorem dX0_depth_2 : decode cX0_depth 2 = .ok (.invokestatic 47, 3) := by decide +kernel
theorem dX0_depth_5 : decode cX0_depth 5 = .ok (.ireturn, 1) := by decide +kernel
theorem dX0_depthOf_0 : decode cX0_depthOf 0 = .ok (.aload_n 0, 1) := by decide +kernel
theorem dX0_depthOf_1 : decode cX0_depthOf 1 = .ok (.ifnull 17, 3) := by decide +kernel
theorem dX0_depthOf_4 : decode cX0_depthOf 4 = .ok (.aload_n 0, 1) := by decide +kernel
theorem dX0_depthOf_5 : decode cX0_depthOf 5 = .ok (.getfield 12, 3) := by decide +kernel
theorem dX0_depthOf_8 : decode cX0_depthOf 8 = .ok (.iconst 1, 1) := by decide +kernel
theorem dX0_depthOf_9 : decode cX0_depthOf 9 = .ok (.if_icmp .ne 9, 3) := by decide +kernel
theorem dX0_depthOf_12 : decode cX0_depthOf 12 = .ok (.iload_n 1, 1) := by decide +kernel
theorem dX0_depthOf_13 : decode cX0_depthOf 13 = .ok (.bipush 40, 2) := by decide +kernel
theorem dX0_depthOf_15 : decode cX0_depthOf 15 = .ok (.if_icmp .le 5, 3) := by decide +kernel
theorem dX0_depthOf_18 : decode cX0_depthOf 18 = .ok (.iconst 0, 1) := by decide +kernel
theorem dX0_depthOf_19 : decode cX0_depthOf 19 = .ok (.ireturn, 1) := by decide +kernel
theorem dX0_depthOf_20 : decode cX0_depthOf 20 = .ok (.iconst 1, 1) := by decide +kernel
theorem dX0_depthOf_21 : decode cX0_depthOf 21 = .ok (.aload_n 0, 1) := by decide +kernel
theorem dX0_depthOf_22 : decode cX0_depthOf 22 = .ok (.getfield 41, 3) := by decide +kernel
theorem dX0_depthOf_25 : decode cX0_depthOf 25 = .ok (.iload_n 1, 1) := by decide +kernel
theorem dX0_depthOf_26 : decode cX0_depthOf 26 = .ok (.iconst 1, 1) := by decide +kernel
theorem dX0_depthOf_27 : decode cX0_depthOf 27 = .ok (.iadd, 1) := by decide +kernel
theorem dX0_depthOf_28 : decode cX0_depthOf 28 = .ok (.invokestatic 47, 3) := by decide +kernel
theorem dX0_depthOf_31 : decode cX0_depthOf 31 = .ok (.aload_n 0, 1) := by decide +kernel
theorem dX0_depthOf_32 : decode cX0_depthOf 32 = .ok (.getfield 44, 3) := by decide +kernel
theorem dX0_depthOf_35 : decode cX0_depthOf 35 = .ok (.iload_n 1, 1) := by decide +kernel
theorem dX0_depthOf_36 : decode cX0_depthOf 36 = .ok (.iconst 1, 1) := by decide +kernel
theorem dX0_depthOf_37 : decode cX0_depthOf 37 = .ok (.iadd, 1) := by decide +kernel
theorem dX0_depthOf_38 : decode cX0_depthOf 38 = .ok (.invokestatic 47, 3) := by decide +kernel
theorem dX0_depthOf_41 : decode cX0_depthOf 41 = .ok (.invokestatic 51, 3) := by decide +kernel
theorem dX0_depthOf_44 : decode cX0_depthOf 44 = .ok (.iadd, 1) := by decide +kernel
theorem dX0_depthOf_45 : decode cX0_depthOf 45 = .ok (.ireturn, 1) := by decide +kernel
theorem dX0_room_0 : decode cX0_room 0 = .ok (.aload_n 0, 1) := by decide +kernel
theorem dX0_room_1 : decode cX0_room 1 = .ok (.getfield 12, 3) := by decide +kernel
theorem dX0_room_4 : decode cX0_room 4 = .ok (.lookupswitch 34 #[(1, 28), (2, 31)], 28) := by decide +kernel
theorem dX0_room_32 : decode cX0_room 32 = .ok (.bipush 24, 2) := by decide +kernel
theorem dX0_room_34 : decode cX0_room 34 = .ok (.ireturn, 1) := by decide +kernel
theorem dX0_room_35 : decode cX0_room 35 = .ok (.bipush 28, 2) := by decide +kernel
theorem dX0_room_37 : decode cX0_room 37 = .ok (.ireturn, 1) := by decide +kernel
theorem dX0_room_38 : decode cX0_room 38 = .ok (.bipush 24, 2) := by decide +kernel
theorem dX0_room_40 : decode cX0_room 40 = .ok (.aload_n 0, 1) := by decide +kernel
theorem dX0_room_41 : decode cX0_room 41 = .ok (.invokevirtual 57, 3) := by decide +kernel
theorem dX0_room_44 : decode cX0_room 44 = .ok (.ifCond .eq 12, 3) := by decide +kernel
theorem dX0_room_47 : decode cX0_room 47 = .ok (.iconst 2, 1) := by decide +kernel
theorem dX0_room_48 : decode cX0_room 48 = .ok (.aload_n 0, 1) := by decide +kernel
theorem dX0_room_49 : decode cX0_room 49 = .ok (.getfield 25, 3) := by decide +kernel
theorem dX0_room_52 : decode cX0_room 52 = .ok (.imul, 1) := by decide +kernel
theorem dX0_room_53 : decode cX0_room 53 = .ok (.goto 7, 3) := by decide +kernel
theorem dX0_room_56 : decode cX0_room 56 = .ok (.aload_n 0, 1) := by decide +kernel
theorem dX0_room_57 : decode cX0_room 57 = .ok (.getfield 25, 3) := by decide +kernel
theorem dX0_room_60 : decode cX0_room 60 = .ok (.iadd, 1) := by decide +kernel
theorem dX0_room_61 : decode cX0_room 61 = .ok (.ireturn, 1) := by decide +kernel
theorem dX0_hasWideSign_0 : decode cX0_hasWideSign 0 = .ok (.iconst 0, 1) := by decide +kernel
theorem dX0_hasWideSign_1 : decode cX0_hasWideSign 1 = .ok (.istore_n 1, 1) := by decide +kernel
theorem dX0_hasWideSign_2 : decode cX0_hasWideSign 2 = .ok (.iload_n 1, 1) := by decide +kernel
theorem dX0_hasWideSign_3 : decode cX0_hasWideSign 3 = .ok (.aload_n 0, 1) := by decide +kernel
theorem dX0_hasWideSign_4 : decode cX0_hasWideSign 4 = .ok (.getfield 25, 3) := by decide +kernel
theorem dX0_hasWideSign_7 : decode cX0_hasWideSign 7 = .ok (.if_icmp .ge 22, 3) := by decide +kernel
theorem dX0_hasWideSign_10 : decode cX0_hasWideSign 10 = .ok (.aload_n 0, 1) := by decide +kernel
theorem dX0_hasWideSign_11 : decode cX0_hasWideSign 11 = .ok (.iload_n 1, 1) := by decide +kernel
theorem dX0_hasWideSign_12 : decode cX0_hasWideSign 12 = .ok (.invokevirtual 61, 3) := by decide +kernel
theorem dX0_hasWideSign_15 : decode cX0_hasWideSign 15 = .ok (.sipush 255, 3) := by decide +kernel
theorem dX0_hasWideSign_18 : decode cX0_hasWideSign 18 = .ok (.if_icmp .le 5, 3) := by decide +kernel
theorem dX0_hasWideSign_21 : decode cX0_hasWideSign 21 = .ok (.iconst 1, 1) := by decide +kernel
theorem dX0_hasWideSign_22 : decode cX0_hasWideSign 22 = .ok (.ireturn, 1) := by decide +kernel
theorem dX0_hasWideSign_23 : decode cX0_hasWideSign 23 = .ok (.iinc 1 1, 3) := by decide +kernel
theorem dX0_hasWideSign_26 : decode cX0_hasWideSign 26 = .ok (.goto (-24), 3) := by decide +kernel
theorem dX0_hasWideSign_29 : decode cX0_hasWideSign 29 = .ok (.iconst 0, 1) := by decide +kernel
theorem dX0_hasWideSign_30 : decode cX0_hasWideSign 30 = .ok (.ireturn, 1) := by decide +kernel
theorem dX1_init_0 : decode cX1_init 0 = .ok (.aload_n 0, 1) := by decide +kernel
theorem dX1_init_1 : decode cX1_init 1 = .ok (.invokespecial 3, 3) := by decide +kernel
theorem dX1_init_4 : decode cX1_init 4 = .ok (.aload_n 0, 1) := by decide +kernel
theorem dX1_init_5 : decode cX1_init 5 = .ok (.bipush 120, 2) := by decide +kernel
theorem dX1_init_7 : decode cX1_init 7 = .ok (.anewarray 9, 3) := by decide +kernel
theorem dX1_init_10 : decode cX1_init 10 = .ok (.putfield 11, 3) := by decide +kernel
theorem dX1_init_13 : decode cX1_init 13 = .ok (.return_, 1) := by decide +kernel
theorem dX1_read_0 : decode cX1_read 0 = .ok (.aload_n 0, 1) := by decide +kernel
theorem dX1_read_1 : decode cX1_read 1 = .ok (.iconst 0, 1) := by decide +kernel
theorem dX1_read_2 : decode cX1_read 2 = .ok (.putfield 17, 3) := by decide +kernel
theorem dX1_read_5 : decode cX1_read 5 = .ok (.aload_n 0, 1) := by decide +kernel
theorem dX1_read_6 : decode cX1_read 6 = .ok (.aload_n 1, 1) := by decide +kernel
theorem dX1_read_7 : decode cX1_read 7 = .ok (.iconst 0, 1) := by decide +kernel
theorem dX1_read_8 : decode cX1_read 8 = .ok (.invokevirtual 21, 3) := by decide +kernel
theorem dX1_read_11 : decode cX1_read 11 = .ok (.return_, 1) := by decide +kernel
theorem dX1_readBoth_0 : decode cX1_readBoth 0 = .ok (.aload_n 0, 1) := by decide +kernel
theorem dX1_readBoth_1 : decode cX1_readBoth 1 = .ok (.aload_n 1, 1) := by decide +kernel
theorem dX1_readBoth_2 : decode cX1_readBoth 2 = .ok (.invokevirtual 25, 3) := by decide +kernel
theorem dX1_readBoth_5 : decode cX1_readBoth 5 = .ok (.aload_n 0, 1) := by decide +kernel
theorem dX1_readBoth_6 : decode cX1_readBoth 6 = .ok (.aload_n 2, 1) := by decide +kernel
theorem dX1_readBoth_7 : decode cX1_readBoth 7 = .ok (.iconst 0, 1) := by decide +kernel
theorem dX1_readBoth_8 : decode cX1_readBoth 8 = .ok (.invokevirtual 21, 3) := by decide +kernel
theorem dX1_readBoth_11 : decode cX1_readBoth 11 = .ok (.return_, 1) := by decide +kernel
theorem dX1_addPieces_0 : decode cX1_addPieces 0 = .ok (.aload_n 1, 1) := by decide +kernel
theorem dX1_addPieces_1 : decode cX1_addPieces 1 = .ok (.ifnull 9, 3) := by decide +kernel
theorem dX1_addPieces_4 : decode cX1_addPieces 4 = .ok (.iload_n 2, 1) := by decide +kernel
theorem dX1_addPieces_5 : decode cX1_addPieces 5 = .ok (.bipush 40, 2) := by decide +kernel
theorem dX1_addPieces_7 : decode cX1_addPieces 7 = .ok (.if_icmp .le 4, 3) := by decide +kernel
theorem dX1_addPieces_10 : decode cX1_addPieces 10 = .ok (.return_, 1) := by decide +kernel
theorem dX1_addPieces_11 : decode cX1_addPieces 11 = .ok (.aload_n 1, 1) := by decide +kernel
theorem dX1_addPieces_12 : decode cX1_addPieces 12 = .ok (.getfield 29, 3) := by decide +kernel
theorem dX1_addPieces_15 : decode cX1_addPieces 15 = .ok (.iconst 1, 1) := by decide +kernel
theorem dX1_addPieces_16 : decode cX1_addPieces 16 = .ok (.if_icmp .ne 28, 3) := by decide +kernel
theorem dX1_addPieces_19 : decode cX1_addPieces 19 = .ok (.aload_n 0, 1) := by decide +kernel
theorem dX1_addPieces_20 : decode cX1_addPieces 20 = .ok (.aload_n 1, 1) := by decide +kernel
theorem dX1_addPieces_21 : decode cX1_addPieces 21 = .ok (.getfield 32, 3) := by decide +kernel
theorem dX1_addPieces_24 : decode cX1_addPieces 24 = .ok (.iload_n 2, 1) := by decide +kernel
theorem dX1_addPieces_25 : decode cX1_addPieces 25 = .ok (.iconst 1, 1) := by decide +kernel
theorem dX1_addPieces_26 : decode cX1_addPieces 26 = .ok (.iadd, 1) := by decide +kernel
theorem dX1_addPieces_27 : decode cX1_addPieces 27 = .ok (.invokevirtual 21, 3) := by decide +kernel
theorem dX1_addPieces_30 : decode cX1_addPieces 30 = .ok (.aload_n 0, 1) := by decide +kernel
theorem dX1_addPieces_31 : decode cX1_addPieces 31 = .ok (.aload_n 1, 1) := by decide +kernel
theorem dX1_addPieces_32 : decode cX1_addPieces 32 = .ok (.getfield 36, 3) := by decide +kernel
theorem dX1_addPieces_35 : decode cX1_addPieces 35 = .ok (.iload_n 2, 1) := by decide +kernel
theorem dX1_addPieces_36 : decode cX1_addPieces 36 = .ok (.iconst 1, 1) := by decide +kernel
theorem dX1_addPieces_37 : decode cX1_addPieces 37 = .ok (.iadd, 1) := by decide +kernel
theorem dX1_addPieces_38 : decode cX1_addPieces 38 = .ok (.invokevirtual 21, 3) := by decide +kernel
theorem dX1_addPieces_41 : decode cX1_addPieces 41 = .ok (.goto 42, 3) := by decide +kernel
theorem dX1_addPieces_44 : decode cX1_addPieces 44 = .ok (.aload_n 0, 1) := by decide +kernel
theorem dX1_addPieces_45 : decode cX1_addPieces 45 = .ok (.getfield 17, 3) := by decide +kernel
theorem dX1_addPieces_48 : decode cX1_addPieces 48 = .ok (.ifCond .lt 35, 3) := by decide +kernel
theorem dX1_addPieces_51 : decode cX1_addPieces 51 = .ok (.aload_n 0, 1) := by decide +kernel
theorem dX1_addPieces_52 : decode cX1_addPieces 52 = .ok (.getfield 17, 3) := by decide +kernel
theorem dX1_addPieces_55 : decode cX1_addPieces 55 = .ok (.aload_n 0, 1) := by decide +kernel
theorem dX1_addPieces_56 : decode cX1_addPieces 56 = .ok (.getfield 11, 3) := by decide +kernel
theorem dX1_addPieces_59 : decode cX1_addPieces 59 = .ok (.arraylength, 1) := by decide +kernel
theorem dX1_addPieces_60 : decode cX1_addPieces 60 = .ok (.if_icmp .ge 23, 3) := by decide +kernel
theorem dX1_addPieces_63 : decode cX1_addPieces 63 = .ok (.aload_n 0, 1) := by decide +kernel
theorem dX1_addPieces_64 : decode cX1_addPieces 64 = .ok (.getfield 11, 3) := by decide +kernel
theorem dX1_addPieces_67 : decode cX1_addPieces 67 = .ok (.aload_n 0, 1) := by decide +kernel
theorem dX1_addPieces_68 : decode cX1_addPieces 68 = .ok (.getfield 17, 3) := by decide +kernel
theorem dX1_addPieces_71 : decode cX1_addPieces 71 = .ok (.aload_n 1, 1) := by decide +kernel
theorem dX1_addPieces_72 : decode cX1_addPieces 72 = .ok (.aastore, 1) := by decide +kernel
theorem dX1_addPieces_73 : decode cX1_addPieces 73 = .ok (.aload_n 0, 1) := by decide +kernel
theorem dX1_addPieces_74 : decode cX1_addPieces 74 = .ok (.dup, 1) := by decide +kernel
theorem dX1_addPieces_75 : decode cX1_addPieces 75 = .ok (.getfield 17, 3) := by decide +kernel
theorem dX1_addPieces_78 : decode cX1_addPieces 78 = .ok (.iconst 1, 1) := by decide +kernel
theorem dX1_addPieces_79 : decode cX1_addPieces 79 = .ok (.iadd, 1) := by decide +kernel
theorem dX1_addPieces_80 : decode cX1_addPieces 80 = .ok (.putfield 17, 3) := by decide +kernel
theorem dX1_addPieces_83 : decode cX1_addPieces 83 = .ok (.return_, 1) := by decide +kernel
theorem dX1_at_0 : decode cX1_at 0 = .ok (.iload_n 1, 1) := by decide +kernel
theorem dX1_at_1 : decode cX1_at 1 = .ok (.ifCond .lt 29, 3) := by decide +kernel
theorem dX1_at_4 : decode cX1_at 4 = .ok (.iload_n 1, 1) := by decide +kernel
theorem dX1_at_5 : decode cX1_at 5 = .ok (.aload_n 0, 1) := by decide +kernel
theorem dX1_at_6 : decode cX1_at 6 = .ok (.getfield 17, 3) := by decide +kernel
theorem dX1_at_9 : decode cX1_at 9 = .ok (.if_icmp .ge 21, 3) := by decide +kernel
theorem dX1_at_12 : decode cX1_at 12 = .ok (.iload_n 1, 1) := by decide +kernel
theorem dX1_at_13 : decode cX1_at 13 = .ok (.aload_n 0, 1) := by decide +kernel
theorem dX1_at_14 : decode cX1_at 14 = .ok (.getfield 11, 3) := by decide +kernel
theorem dX1_at_17 : decode cX1_at 17 = .ok (.arraylength, 1) := by decide +kernel
theorem dX1_at_18 : decode cX1_at 18 = .ok (.if_icmp .ge 12, 3) := by decide +kernel
theorem dX1_at_21 : decode cX1_at 21 = .ok (.aload_n 0, 1) := by decide +kernel
theorem dX1_at_22 : decode cX1_at 22 = .ok (.getfield 11, 3) := by decide +kernel
theorem dX1_at_25 : decode cX1_at 25 = .ok (.iload_n 1, 1) := by decide +kernel
theorem dX1_at_26 : decode cX1_at 26 = .ok (.aaload, 1) := by decide +kernel
theorem dX1_at_27 : decode cX1_at 27 = .ok (.goto 4, 3) := by decide +kernel
theorem dX1_at_30 : decode cX1_at 30 = .ok (.aconst_null, 1) := by decide +kernel
theorem dX1_at_31 : decode cX1_at 31 = .ok (.areturn, 1) := by decide +kernel
theorem dX1_firstPlaceOf_0 : decode cX1_firstPlaceOf 0 = .ok (.iconst 0, 1) := by decide +kernel
theorem dX1_firstPlaceOf_1 : decode cX1_firstPlaceOf 1 = .ok (.istore_n 2, 1) := by decide +kernel
theorem dX1_firstPlaceOf_2 : decode cX1_firstPlaceOf 2 = .ok (.iload_n 2, 1) := by decide +kernel
theorem dX1_firstPlaceOf_3 : decode cX1_firstPlaceOf 3 = .ok (.aload_n 0, 1) := by decide +kernel
theorem dX1_firstPlaceOf_4 : decode cX1_firstPlaceOf 4 = .ok (.getfield 17, 3) := by decide +kernel
theorem dX1_firstPlaceOf_7 : decode cX1_firstPlaceOf 7 = .ok (.if_icmp .ge 20, 3) := by decide +kernel
theorem dX1_firstPlaceOf_10 : decode cX1_firstPlaceOf 10 = .ok (.aload_n 0, 1) := by decide +kernel
theorem dX1_firstPlaceOf_11 : decode cX1_firstPlaceOf 11 = .ok (.iload_n 2, 1) := by decide +kernel
theorem dX1_firstPlaceOf_12 : decode cX1_firstPlaceOf 12 = .ok (.invokevirtual 39, 3) := by decide +kernel
theorem dX1_firstPlaceOf_15 : decode cX1_firstPlaceOf 15 = .ok (.aload_n 1, 1) := by decide +kernel
theorem dX1_firstPlaceOf_16 : decode cX1_firstPlaceOf 16 = .ok (.if_acmp .ne 5, 3) := by decide +kernel
theorem dX1_firstPlaceOf_19 : decode cX1_firstPlaceOf 19 = .ok (.iload_n 2, 1) := by decide +kernel
theorem dX1_firstPlaceOf_20 : decode cX1_firstPlaceOf 20 = .ok (.ireturn, 1) := by decide +kernel
theorem dX1_firstPlaceOf_21 : decode cX1_firstPlaceOf 21 = .ok (.iinc 2 1, 3) := by decide +kernel
theorem dX1_firstPlaceOf_24 : decode cX1_firstPlaceOf 24 = .ok (.goto (-22), 3) := by decide +kernel
theorem dX1_firstPlaceOf_27 : decode cX1_firstPlaceOf 27 = .ok (.bipush (-6), 2) := by decide +kernel
theorem dX1_firstPlaceOf_29 : decode cX1_firstPlaceOf 29 = .ok (.ireturn, 1) := by decide +kernel
theorem dX2_init_0 : decode cX2_init 0 = .ok (.aload_n 0, 1) := by decide +kernel
theorem dX2_init_1 : decode cX2_init 1 = .ok (.invokespecial 3, 3) := by decide +kernel
theorem dX2_init_4 : decode cX2_init 4 = .ok (.aload_n 0, 1) := by decide +kernel
theorem dX2_init_5 : decode cX2_init 5 = .ok (.bipush 24, 2) := by decide +kernel
theorem dX2_init_7 : decode cX2_init 7 = .ok (.anewarray 9, 3) := by decide +kernel
theorem dX2_init_10 : decode cX2_init 10 = .ok (.putfield 11, 3) := by decide +kernel
theorem dX2_init_13 : decode cX2_init 13 = .ok (.aload_n 0, 1) := by decide +kernel
theorem dX2_init_14 : decode cX2_init 14 = .ok (.bipush 24, 2) := by decide +kernel
theorem dX2_init_16 : decode cX2_init 16 = .ok (.newarray .int, 2) := by decide +kernel
theorem dX2_init_18 : decode cX2_init 18 = .ok (.putfield 17, 3) := by decide +kernel
theorem dX2_init_21 : decode cX2_init 21 = .ok (.aload_n 0, 1) := by decide +kernel
theorem dX2_init_22 : decode cX2_init 22 = .ok (.iconst 0, 1) := by decide +kernel
theorem dX2_init_23 : decode cX2_init 23 = .ok (.putfield 21, 3) := by decide +kernel
theorem dX2_init_26 : decode cX2_init 26 = .ok (.aload_n 0, 1) := by decide +kernel
theorem dX2_init_27 : decode cX2_init 27 = .ok (.iconst 0, 1) := by decide +kernel
theorem dX2_init_28 : decode cX2_init 28 = .ok (.putfield 25, 3) := by decide +kernel
theorem dX2_init_31 : decode cX2_init 31 = .ok (.return_, 1) := by decide +kernel
theorem dX2_isFull_0 : decode cX2_isFull 0 = .ok (.aload_n 0, 1) := by decide +kernel
theorem dX2_isFull_1 : decode cX2_isFull 1 = .ok (.getfield 21, 3) := by decide +kernel
theorem dX2_isFull_4 : decode cX2_isFull 4 = .ok (.bipush 24, 2) := by decide +kernel
theorem dX2_isFull_6 : decode cX2_isFull 6 = .ok (.if_icmp .lt 7, 3) := by decide +kernel
theorem dX2_isFull_9 : decode cX2_isFull 9 = .ok (.iconst 1, 1) := by decide +kernel
theorem dX2_isFull_10 : decode cX2_isFull 10 = .ok (.goto 4, 3) := by decide +kernel
theorem dX2_isFull_13 : decode cX2_isFull 13 = .ok (.iconst 0, 1) := by decide +kernel
theorem dX2_isFull_14 : decode cX2_isFull 14 = .ok (.ireturn, 1) := by decide +kernel
theorem dX2_cellAt_0 : decode cX2_cellAt 0 = .ok (.iload_n 1, 1) := by decide +kernel
theorem dX2_cellAt_1 : decode cX2_cellAt 1 = .ok (.ifCond .lt 29, 3) := by decide +kernel
theorem dX2_cellAt_4 : decode cX2_cellAt 4 = .ok (.iload_n 1, 1) := by decide +kernel
theorem dX2_cellAt_5 : decode cX2_cellAt 5 = .ok (.aload_n 0, 1) := by decide +kernel
theorem dX2_cellAt_6 : decode cX2_cellAt 6 = .ok (.getfield 21, 3) := by decide +kernel
theorem dX2_cellAt_9 : decode cX2_cellAt 9 = .ok (.if_icmp .ge 21, 3) := by decide +kernel
theorem dX2_cellAt_12 : decode cX2_cellAt 12 = .ok (.iload_n 1, 1) := by decide +kernel
theorem dX2_cellAt_13 : decode cX2_cellAt 13 = .ok (.aload_n 0, 1) := by decide +kernel
theorem dX2_cellAt_14 : decode cX2_cellAt 14 = .ok (.getfield 11, 3) := by decide +kernel
theorem dX2_cellAt_17 : decode cX2_cellAt 17 = .ok (.arraylength, 1) := by decide +kernel
theorem dX2_cellAt_18 : decode cX2_cellAt 18 = .ok (.if_icmp .ge 12, 3) := by decide +kernel
theorem dX2_cellAt_21 : decode cX2_cellAt 21 = .ok (.aload_n 0, 1) := by decide +kernel
theorem dX2_cellAt_22 : decode cX2_cellAt 22 = .ok (.getfield 11, 3) := by decide +kernel
theorem dX2_cellAt_25 : decode cX2_cellAt 25 = .ok (.iload_n 1, 1) := by decide +kernel
theorem dX2_cellAt_26 : decode cX2_cellAt 26 = .ok (.aaload, 1) := by decide +kernel
theorem dX2_cellAt_27 : decode cX2_cellAt 27 = .ok (.goto 4, 3) := by decide +kernel
theorem dX2_cellAt_30 : decode cX2_cellAt 30 = .ok (.aconst_null, 1) := by decide +kernel
theorem dX2_cellAt_31 : decode cX2_cellAt 31 = .ok (.areturn, 1) := by decide +kernel
theorem dX2_numberAt_0 : decode cX2_numberAt 0 = .ok (.iload_n 1, 1) := by decide +kernel
theorem dX2_numberAt_1 : decode cX2_numberAt 1 = .ok (.ifCond .lt 29, 3) := by decide +kernel
theorem dX2_numberAt_4 : decode cX2_numberAt 4 = .ok (.iload_n 1, 1) := by decide +kernel
theorem dX2_numberAt_5 : decode cX2_numberAt 5 = .ok (.aload_n 0, 1) := by decide +kernel
theorem dX2_numberAt_6 : decode cX2_numberAt 6 = .ok (.getfield 21, 3) := by decide +kernel
theorem dX2_numberAt_9 : decode cX2_numberAt 9 = .ok (.if_icmp .ge 21, 3) := by decide +kernel
theorem dX2_numberAt_12 : decode cX2_numberAt 12 = .ok (.iload_n 1, 1) := by decide +kernel
theorem dX2_numberAt_13 : decode cX2_numberAt 13 = .ok (.aload_n 0, 1) := by decide +kernel
theorem dX2_numberAt_14 : decode cX2_numberAt 14 = .ok (.getfield 17, 3) := by decide +kernel
theorem dX2_numberAt_17 : decode cX2_numberAt 17 = .ok (.arraylength, 1) := by decide +kernel
theorem dX2_numberAt_18 : decode cX2_numberAt 18 = .ok (.if_icmp .ge 12, 3) := by decide +kernel
theorem dX2_numberAt_21 : decode cX2_numberAt 21 = .ok (.aload_n 0, 1) := by decide +kernel
theorem dX2_numberAt_22 : decode cX2_numberAt 22 = .ok (.getfield 17, 3) := by decide +kernel
theorem dX2_numberAt_25 : decode cX2_numberAt 25 = .ok (.iload_n 1, 1) := by decide +kernel
theorem dX2_numberAt_26 : decode cX2_numberAt 26 = .ok (.iaload, 1) := by decide +kernel
theorem dX2_numberAt_27 : decode cX2_numberAt 27 = .ok (.goto 5, 3) := by decide +kernel
theorem dX2_numberAt_30 : decode cX2_numberAt 30 = .ok (.bipush (-6), 2) := by decide +kernel
theorem dX2_numberAt_32 : decode cX2_numberAt 32 = .ok (.ireturn, 1) := by decide +kernel
theorem dX2_enter_0 : decode cX2_enter 0 = .ok (.aload_n 0, 1) := by decide +kernel
theorem dX2_enter_1 : decode cX2_enter 1 = .ok (.getfield 25, 3) := by decide +kernel
theorem dX2_enter_4 : decode cX2_enter 4 = .ok (.istore_n 2, 1) := by decide +kernel
theorem dX2_enter_5 : decode cX2_enter 5 = .ok (.aload_n 0, 1) := by decide +kernel
theorem dX2_enter_6 : decode cX2_enter 6 = .ok (.dup, 1) := by decide +kernel
theorem dX2_enter_7 : decode cX2_enter 7 = .ok (.getfield 25, 3) := by decide +kernel
theorem dX2_enter_10 : decode cX2_enter 10 = .ok (.iconst 1, 1) := by decide +kernel
theorem dX2_enter_11 : decode cX2_enter 11 = .ok (.iadd, 1) := by decide +kernel
theorem dX2_enter_12 : decode cX2_enter 12 = .ok (.putfield 25, 3) := by decide +kernel
theorem dX2_enter_15 : decode cX2_enter 15 = .ok (.aload_n 0, 1) := by decide +kernel
theorem dX2_enter_16 : decode cX2_enter 16 = .ok (.aload_n 1, 1) := by decide +kernel
theorem dX2_enter_17 : decode cX2_enter 17 = .ok (.iload_n 2, 1) := by decide +kernel
theorem dX2_enter_18 : decode cX2_enter 18 = .ok (.invokevirtual 28, 3) := by decide +kernel
theorem dX2_enter_21 : decode cX2_enter 21 = .ok (.iload_n 2, 1) := by decide +kernel
theorem dX2_enter_22 : decode cX2_enter 22 = .ok (.ireturn, 1) := by decide +kernel
theorem dX2_dropUnmarked_0 : decode cX2_dropUnmarked 0 = .ok (.aload_n 0, 1) := by decide +kernel
theorem dX2_dropUnmarked_1 : decode cX2_dropUnmarked 1 = .ok (.getfield 21, 3) := by decide +kernel
theorem dX2_dropUnmarked_4 : decode cX2_dropUnmarked 4 = .ok (.istore_n 2, 1) := by decide +kernel
theorem dX2_dropUnmarked_5 : decode cX2_dropUnmarked 5 = .ok (.aload_n 0, 1) := by decide +kernel
theorem dX2_dropUnmarked_6 : decode cX2_dropUnmarked 6 = .ok (.iconst 0, 1) := by decide +kernel
theorem dX2_dropUnmarked_7 : decode cX2_dropUnmarked 7 = .ok (.putfield 21, 3) := by decide +kernel
theorem dX2_dropUnmarked_10 : decode cX2_dropUnmarked 10 = .ok (.iconst 0, 1) := by decide +kernel
theorem dX2_dropUnmarked_11 : decode cX2_dropUnmarked 11 = .ok (.istore_n 3, 1) := by decide +kernel
theorem dX2_dropUnmarked_12 : decode cX2_dropUnmarked 12 = .ok (.iload_n 3, 1) := by decide +kernel
theorem dX2_dropUnmarked_13 : decode cX2_dropUnmarked 13 = .ok (.iload_n 2, 1) := by decide +kernel
theorem dX2_dropUnmarked_14 : decode cX2_dropUnmarked 14 = .ok (.if_icmp .ge 47, 3) := by decide +kernel
theorem dX2_dropUnmarked_17 : decode cX2_dropUnmarked 17 = .ok (.iload_n 3, 1) := by decide +kernel
theorem dX2_dropUnmarked_18 : decode cX2_dropUnmarked 18 = .ok (.aload_n 0, 1) := by decide +kernel
theorem dX2_dropUnmarked_19 : decode cX2_dropUnmarked 19 = .ok (.getfield 11, 3) := by decide +kernel
theorem dX2_dropUnmarked_22 : decode cX2_dropUnmarked 22 = .ok (.arraylength, 1) := by decide +kernel
theorem dX2_dropUnmarked_23 : decode cX2_dropUnmarked 23 = .ok (.if_icmp .ge 38, 3) := by decide +kernel
theorem dX2_dropUnmarked_26 : decode cX2_dropUnmarked 26 = .ok (.aload_n 1, 1) := by decide +kernel
theorem dX2_dropUnmarked_27 : decode cX2_dropUnmarked 27 = .ok (.aload_n 0, 1) := by decide +kernel
theorem dX2_dropUnmarked_28 : decode cX2_dropUnmarked 28 = .ok (.getfield 11, 3) := by decide +kernel
theorem dX2_dropUnmarked_31 : decode cX2_dropUnmarked 31 = .ok (.iload_n 3, 1) := by decide +kernel
theorem dX2_dropUnmarked_32 : decode cX2_dropUnmarked 32 = .ok (.aaload, 1) := by decide +kernel
theorem dX2_dropUnmarked_33 : decode cX2_dropUnmarked 33 = .ok (.invokevirtual 32, 3) := by decide +kernel
theorem dX2_dropUnmarked_36 : decode cX2_dropUnmarked 36 = .ok (.ifCond .eq 19, 3) := by decide +kernel
theorem dX2_dropUnmarked_39 : decode cX2_dropUnmarked 39 = .ok (.aload_n 0, 1) := by decide +kernel
theorem dX2_dropUnmarked_40 : decode cX2_dropUnmarked 40 = .ok (.aload_n 0, 1) := by decide +kernel
theorem dX2_dropUnmarked_41 : decode cX2_dropUnmarked 41 = .ok (.getfield 11, 3) := by decide +kernel
theorem dX2_dropUnmarked_44 : decode cX2_dropUnmarked 44 = .ok (.iload_n 3, 1) := by decide +kernel
theorem dX2_dropUnmarked_45 : decode cX2_dropUnmarked 45 = .ok (.aaload, 1) := by decide +kernel
theorem dX2_dropUnmarked_46 : decode cX2_dropUnmarked 46 = .ok (.aload_n 0, 1) := by decide +kernel
theorem dX2_dropUnmarked_47 : decode cX2_dropUnmarked 47 = .ok (.getfield 17, 3) := by decide +kernel
theorem dX2_dropUnmarked_50 : decode cX2_dropUnmarked 50 = .ok (.iload_n 3, 1) := by decide +kernel
theorem dX2_dropUnmarked_51 : decode cX2_dropUnmarked 51 = .ok (.iaload, 1) := by decide +kernel
theorem dX2_dropUnmarked_52 : decode cX2_dropUnmarked 52 = .ok (.invokevirtual 28, 3) := by decide +kernel
theorem dX2_dropUnmarked_55 : decode cX2_dropUnmarked 55 = .ok (.iinc 3 1, 3) := by decide +kernel
theorem dX2_dropUnmarked_58 : decode cX2_dropUnmarked 58 = .ok (.goto (-46), 3) := by decide +kernel
theorem dX2_dropUnmarked_61 : decode cX2_dropUnmarked 61 = .ok (.iload_n 2, 1) := by decide +kernel
theorem dX2_dropUnmarked_62 : decode cX2_dropUnmarked 62 = .ok (.aload_n 0, 1) := by decide +kernel
theorem dX2_dropUnmarked_63 : decode cX2_dropUnmarked 63 = .ok (.getfield 21, 3) := by decide +kernel
theorem dX2_dropUnmarked_66 : decode cX2_dropUnmarked 66 = .ok (.isub, 1) := by decide +kernel
theorem dX2_dropUnmarked_67 : decode cX2_dropUnmarked 67 = .ok (.ireturn, 1) := by decide +kernel
theorem dX2_place_0 : decode cX2_place 0 = .ok (.aload_n 0, 1) := by decide +kernel
theorem dX2_place_1 : decode cX2_place 1 = .ok (.getfield 21, 3) := by decide +kernel
theorem dX2_place_4 : decode cX2_place 4 = .ok (.ifCond .lt 45, 3) := by decide +kernel
theorem dX2_place_7 : decode cX2_place 7 = .ok (.aload_n 0, 1) := by decide +kernel
theorem dX2_place_8 : decode cX2_place 8 = .ok (.getfield 21, 3) := by decide +kernel
theorem dX2_place_11 : decode cX2_place 11 = .ok (.aload_n 0, 1) := by decide +kernel
theorem dX2_place_12 : decode cX2_place 12 = .ok (.getfield 11, 3) := by decide +kernel
theorem dX2_place_15 : decode cX2_place 15 = .ok (.arraylength, 1) := by decide +kernel
theorem dX2_place_16 : decode cX2_place 16 = .ok (.if_icmp .ge 33, 3) := by decide +kernel
theorem dX2_place_19 : decode cX2_place 19 = .ok (.aload_n 0, 1) := by decide +kernel
theorem dX2_place_20 : decode cX2_place 20 = .ok (.getfield 11, 3) := by decide +kernel
theorem dX2_place_23 : decode cX2_place 23 = .ok (.aload_n 0, 1) := by decide +kernel
theorem dX2_place_24 : decode cX2_place 24 = .ok (.getfield 21, 3) := by decide +kernel
theorem dX2_place_27 : decode cX2_place 27 = .ok (.aload_n 1, 1) := by decide +kernel
theorem dX2_place_28 : decode cX2_place 28 = .ok (.aastore, 1) := by decide +kernel
theorem dX2_place_29 : decode cX2_place 29 = .ok (.aload_n 0, 1) := by decide +kernel
theorem dX2_place_30 : decode cX2_place 30 = .ok (.getfield 17, 3) := by decide +kernel
theorem dX2_place_33 : decode cX2_place 33 = .ok (.aload_n 0, 1) := by decide +kernel
theorem dX2_place_34 : decode cX2_place 34 = .ok (.getfield 21, 3) := by decide +kernel
theorem dX2_place_37 : decode cX2_place 37 = .ok (.iload_n 2, 1) := by decide +kernel
theorem dX2_place_38 : decode cX2_place 38 = .ok (.iastore, 1) := by decide +kernel
theorem dX2_place_39 : decode cX2_place 39 = .ok (.aload_n 0, 1) := by decide +kernel
theorem dX2_place_40 : decode cX2_place 40 = .ok (.dup, 1) := by decide +kernel
theorem dX2_place_41 : decode cX2_place 41 = .ok (.getfield 21, 3) := by decide +kernel
theorem dX2_place_44 : decode cX2_place 44 = .ok (.iconst 1, 1) := by decide +kernel
theorem dX2_place_45 : decode cX2_place 45 = .ok (.iadd, 1) := by decide +kernel
theorem dX2_place_46 : decode cX2_place 46 = .ok (.putfield 21, 3) := by decide +kernel
theorem dX2_place_49 : decode cX2_place 49 = .ok (.return_, 1) := by decide +kernel
theorem dX3_init_0 : decode cX3_init 0 = .ok (.aload_n 0, 1) := by decide +kernel
theorem dX3_init_1 : decode cX3_init 1 = .ok (.invokespecial 3, 3) := by decide +kernel
theorem dX3_init_4 : decode cX3_init 4 = .ok (.aload_n 0, 1) := by decide +kernel
theorem dX3_init_5 : decode cX3_init 5 = .ok (.bipush 120, 2) := by decide +kernel
theorem dX3_init_7 : decode cX3_init 7 = .ok (.newarray .int, 2) := by decide +kernel
theorem dX3_init_9 : decode cX3_init 9 = .ok (.putfield 9, 3) := by decide +kernel
theorem dX3_init_12 : decode cX3_init 12 = .ok (.return_, 1) := by decide +kernel
theorem dX3_clear_0 : decode cX3_clear 0 = .ok (.aload_n 0, 1) := by decide +kernel
theorem dX3_clear_1 : decode cX3_clear 1 = .ok (.iconst 0, 1) := by decide +kernel
theorem dX3_clear_2 : decode cX3_clear 2 = .ok (.putfield 15, 3) := by decide +kernel
theorem dX3_clear_5 : decode cX3_clear 5 = .ok (.return_, 1) := by decide +kernel
theorem dX3_addSign_0 : decode cX3_addSign 0 = .ok (.aload_n 0, 1) := by decide +kernel
theorem dX3_addSign_1 : decode cX3_addSign 1 = .ok (.getfield 15, 3) := by decide +kernel
theorem dX3_addSign_4 : decode cX3_addSign 4 = .ok (.ifCond .lt 35, 3) := by decide +kernel
theorem dX3_addSign_7 : decode cX3_addSign 7 = .ok (.aload_n 0, 1) := by decide +kernel
theorem dX3_addSign_8 : decode cX3_addSign 8 = .ok (.getfield 15, 3) := by decide +kernel
theorem dX3_addSign_11 : decode cX3_addSign 11 = .ok (.aload_n 0, 1) := by decide +kernel
theorem dX3_addSign_12 : decode cX3_addSign 12 = .ok (.getfield 9, 3) := by decide +kernel
theorem dX3_addSign_15 : decode cX3_addSign 15 = .ok (.arraylength, 1) := by decide +kernel
theorem dX3_addSign_16 : decode cX3_addSign 16 = .ok (.if_icmp .ge 23, 3) := by decide +kernel
theorem dX3_addSign_19 : decode cX3_addSign 19 = .ok (.aload_n 0, 1) := by decide +kernel
theorem dX3_addSign_20 : decode cX3_addSign 20 = .ok (.getfield 9, 3) := by decide +kernel
theorem dX3_addSign_23 : decode cX3_addSign 23 = .ok (.aload_n 0, 1) := by decide +kernel
theorem dX3_addSign_24 : decode cX3_addSign 24 = .ok (.getfield 15, 3) := by decide +kernel
theorem dX3_addSign_27 : decode cX3_addSign 27 = .ok (.iload_n 1, 1) := by decide +kernel
theorem dX3_addSign_28 : decode cX3_addSign 28 = .ok (.iastore, 1) := by decide +kernel
theorem dX3_addSign_29 : decode cX3_addSign 29 = .ok (.aload_n 0, 1) := by decide +kernel
theorem dX3_addSign_30 : decode cX3_addSign 30 = .ok (.dup, 1) := by decide +kernel
theorem dX3_addSign_31 : decode cX3_addSign 31 = .ok (.getfield 15, 3) := by decide +kernel
theorem dX3_addSign_34 : decode cX3_addSign 34 = .ok (.iconst 1, 1) := by decide +kernel
theorem dX3_addSign_35 : decode cX3_addSign 35 = .ok (.iadd, 1) := by decide +kernel
theorem dX3_addSign_36 : decode cX3_addSign 36 = .ok (.putfield 15, 3) := by decide +kernel
theorem dX3_addSign_39 : decode cX3_addSign 39 = .ok (.return_, 1) := by decide +kernel
theorem dX3_read_0 : decode cX3_read 0 = .ok (.aload_n 0, 1) := by decide +kernel
theorem dX3_read_1 : decode cX3_read 1 = .ok (.iconst 0, 1) := by decide +kernel
theorem dX3_read_2 : decode cX3_read 2 = .ok (.putfield 15, 3) := by decide +kernel
theorem dX3_read_5 : decode cX3_read 5 = .ok (.aload_n 0, 1) := by decide +kernel
theorem dX3_read_6 : decode cX3_read 6 = .ok (.aload_n 1, 1) := by decide +kernel
theorem dX3_read_7 : decode cX3_read 7 = .ok (.iconst 0, 1) := by decide +kernel
theorem dX3_read_8 : decode cX3_read 8 = .ok (.invokevirtual 19, 3) := by decide +kernel
theorem dX3_read_11 : decode cX3_read 11 = .ok (.return_, 1) := by decide +kernel
theorem dX3_readBoth_0 : decode cX3_readBoth 0 = .ok (.aload_n 0, 1) := by decide +kernel
theorem dX3_readBoth_1 : decode cX3_readBoth 1 = .ok (.iconst 0, 1) := by decide +kernel
theorem dX3_readBoth_2 : decode cX3_readBoth 2 = .ok (.putfield 15, 3) := by decide +kernel
theorem dX3_readBoth_5 : decode cX3_readBoth 5 = .ok (.aload_n 0, 1) := by decide +kernel
theorem dX3_readBoth_6 : decode cX3_readBoth 6 = .ok (.aload_n 1, 1) := by decide +kernel
theorem dX3_readBoth_7 : decode cX3_readBoth 7 = .ok (.iconst 0, 1) := by decide +kernel
theorem dX3_readBoth_8 : decode cX3_readBoth 8 = .ok (.invokevirtual 19, 3) := by decide +kernel
theorem dX3_readBoth_11 : decode cX3_readBoth 11 = .ok (.aload_n 0, 1) := by decide +kernel
theorem dX3_readBoth_12 : decode cX3_readBoth 12 = .ok (.aload_n 2, 1) := by decide +kernel
theorem dX3_readBoth_13 : decode cX3_readBoth 13 = .ok (.iconst 0, 1) := by decide +kernel
theorem dX3_readBoth_14 : decode cX3_readBoth 14 = .ok (.invokevirtual 19, 3) := by decide +kernel
theorem dX3_readBoth_17 : decode cX3_readBoth 17 = .ok (.return_, 1) := by decide +kernel
theorem dX3_readPart_0 : decode cX3_readPart 0 = .ok (.aload_n 0, 1) := by decide +kernel
theorem dX3_readPart_1 : decode cX3_readPart 1 = .ok (.iconst 0, 1) := by decide +kernel
theorem dX3_readPart_2 : decode cX3_readPart 2 = .ok (.putfield 15, 3) := by decide +kernel
theorem dX3_readPart_5 : decode cX3_readPart 5 = .ok (.aload_n 0, 1) := by decide +kernel
theorem dX3_readPart_6 : decode cX3_readPart 6 = .ok (.aload_n 1, 1) := by decide +kernel
theorem dX3_readPart_7 : decode cX3_readPart 7 = .ok (.iload_n 2, 1) := by decide +kernel
theorem dX3_readPart_8 : decode cX3_readPart 8 = .ok (.iload_n 3, 1) := by decide +kernel
theorem dX3_readPart_9 : decode cX3_readPart 9 = .ok (.invokevirtual 23, 3) := by decide +kernel
theorem dX3_readPart_12 : decode cX3_readPart 12 = .ok (.return_, 1) := by decide +kernel
theorem dX3_addCell_0 : decode cX3_addCell 0 = .ok (.aload_n 1, 1) := by decide +kernel
theorem dX3_addCell_1 : decode cX3_addCell 1 = .ok (.ifnull 9, 3) := by decide +kernel
theorem dX3_addCell_4 : decode cX3_addCell 4 = .ok (.iload_n 2, 1) := by decide +kernel
theorem dX3_addCell_5 : decode cX3_addCell 5 = .ok (.bipush 40, 2) := by decide +kernel
theorem dX3_addCell_7 : decode cX3_addCell 7 = .ok (.if_icmp .le 4, 3) := by decide +kernel
theorem dX3_addCell_10 : decode cX3_addCell 10 = .ok (.return_, 1) := by decide +kernel
theorem dX3_addCell_11 : decode cX3_addCell 11 = .ok (.aload_n 1, 1) := by decide +kernel
theorem dX3_addCell_12 : decode cX3_addCell 12 = .ok (.getfield 27, 3) := by decide +kernel
theorem dX3_addCell_15 : decode cX3_addCell 15 = .ok (.iconst 1, 1) := by decide +kernel
theorem dX3_addCell_16 : decode cX3_addCell 16 = .ok (.if_icmp .ne 28, 3) := by decide +kernel
theorem dX3_addCell_19 : decode cX3_addCell 19 = .ok (.aload_n 0, 1) := by decide +kernel
theorem dX3_addCell_20 : decode cX3_addCell 20 = .ok (.aload_n 1, 1) := by decide +kernel
theorem dX3_addCell_21 : decode cX3_addCell 21 = .ok (.getfield 32, 3) := by decide +kernel
theorem dX3_addCell_24 : decode cX3_addCell 24 = .ok (.iload_n 2, 1) := by decide +kernel
theorem dX3_addCell_25 : decode cX3_addCell 25 = .ok (.iconst 1, 1) := by decide +kernel
theorem dX3_addCell_26 : decode cX3_addCell 26 = .ok (.iadd, 1) := by decide +kernel
theorem dX3_addCell_27 : decode cX3_addCell 27 = .ok (.invokevirtual 19, 3) := by decide +kernel
theorem dX3_addCell_30 : decode cX3_addCell 30 = .ok (.aload_n 0, 1) := by decide +kernel
theorem dX3_addCell_31 : decode cX3_addCell 31 = .ok (.aload_n 1, 1) := by decide +kernel
theorem dX3_addCell_32 : decode cX3_addCell 32 = .ok (.getfield 36, 3) := by decide +kernel
theorem dX3_addCell_35 : decode cX3_addCell 35 = .ok (.iload_n 2, 1) := by decide +kernel
theorem dX3_addCell_36 : decode cX3_addCell 36 = .ok (.iconst 1, 1) := by decide +kernel
theorem dX3_addCell_37 : decode cX3_addCell 37 = .ok (.iadd, 1) := by decide +kernel
theorem dX3_addCell_38 : decode cX3_addCell 38 = .ok (.invokevirtual 19, 3) := by decide +kernel
theorem dX3_addCell_41 : decode cX3_addCell 41 = .ok (.goto 40, 3) := by decide +kernel
theorem dX3_addCell_44 : decode cX3_addCell 44 = .ok (.aload_n 1, 1) := by decide +kernel
theorem dX3_addCell_45 : decode cX3_addCell 45 = .ok (.getfield 27, 3) := by decide +kernel
theorem dX3_addCell_48 : decode cX3_addCell 48 = .ok (.iconst 2, 1) := by decide +kernel
theorem dX3_addCell_49 : decode cX3_addCell 49 = .ok (.if_icmp .ne 22, 3) := by decide +kernel
theorem dX3_addCell_52 : decode cX3_addCell 52 = .ok (.aload_n 0, 1) := by decide +kernel
theorem dX3_addCell_53 : decode cX3_addCell 53 = .ok (.aload_n 1, 1) := by decide +kernel
theorem dX3_addCell_54 : decode cX3_addCell 54 = .ok (.getfield 39, 3) := by decide +kernel
theorem dX3_addCell_57 : decode cX3_addCell 57 = .ok (.aload_n 1, 1) := by decide +kernel
theorem dX3_addCell_58 : decode cX3_addCell 58 = .ok (.getfield 42, 3) := by decide +kernel
theorem dX3_addCell_61 : decode cX3_addCell 61 = .ok (.aload_n 1, 1) := by decide +kernel
theorem dX3_addCell_62 : decode cX3_addCell 62 = .ok (.getfield 45, 3) := by decide +kernel
theorem dX3_addCell_65 : decode cX3_addCell 65 = .ok (.invokevirtual 23, 3) := by decide +kernel
theorem dX3_addCell_68 : decode cX3_addCell 68 = .ok (.goto 13, 3) := by decide +kernel
theorem dX3_addCell_71 : decode cX3_addCell 71 = .ok (.aload_n 0, 1) := by decide +kernel
theorem dX3_addCell_72 : decode cX3_addCell 72 = .ok (.aload_n 1, 1) := by decide +kernel
theorem dX3_addCell_73 : decode cX3_addCell 73 = .ok (.iconst 0, 1) := by decide +kernel
theorem dX3_addCell_74 : decode cX3_addCell 74 = .ok (.aload_n 1, 1) := by decide +kernel
theorem dX3_addCell_75 : decode cX3_addCell 75 = .ok (.getfield 45, 3) := by decide +kernel
theorem dX3_addCell_78 : decode cX3_addCell 78 = .ok (.invokevirtual 23, 3) := by decide +kernel
theorem dX3_addCell_81 : decode cX3_addCell 81 = .ok (.return_, 1) := by decide +kernel
theorem dX3_addSigns_0 : decode cX3_addSigns 0 = .ok (.aload_n 1, 1) := by decide +kernel
theorem dX3_addSigns_1 : decode cX3_addSigns 1 = .ok (.ifnonnull 4, 3) := by decide +kernel
theorem dX3_addSigns_4 : decode cX3_addSigns 4 = .ok (.return_, 1) := by decide +kernel
theorem dX3_addSigns_5 : decode cX3_addSigns 5 = .ok (.iconst 0, 1) := by decide +kernel
theorem dX3_addSigns_6 : decode cX3_addSigns 6 = .ok (.istore 4, 2) := by decide +kernel
theorem dX3_addSigns_8 : decode cX3_addSigns 8 = .ok (.iload 4, 2) := by decide +kernel
theorem dX3_addSigns_10 : decode cX3_addSigns 10 = .ok (.iload_n 3, 1) := by decide +kernel
theorem dX3_addSigns_11 : decode cX3_addSigns 11 = .ok (.if_icmp .ge 21, 3) := by decide +kernel
theorem dX3_addSigns_14 : decode cX3_addSigns 14 = .ok (.aload_n 0, 1) := by decide +kernel
theorem dX3_addSigns_15 : decode cX3_addSigns 15 = .ok (.aload_n 1, 1) := by decide +kernel
theorem dX3_addSigns_16 : decode cX3_addSigns 16 = .ok (.iload_n 2, 1) := by decide +kernel
theorem dX3_addSigns_17 : decode cX3_addSigns 17 = .ok (.iload 4, 2) := by decide +kernel
theorem dX3_addSigns_19 : decode cX3_addSigns 19 = .ok (.iadd, 1) := by decide +kernel
theorem dX3_addSigns_20 : decode cX3_addSigns 20 = .ok (.invokevirtual 46, 3) := by decide +kernel
theorem dX3_addSigns_23 : decode cX3_addSigns 23 = .ok (.invokevirtual 50, 3) := by decide +kernel
theorem dX3_addSigns_26 : decode cX3_addSigns 26 = .ok (.iinc 4 1, 3) := by decide +kernel
theorem dX3_addSigns_29 : decode cX3_addSigns 29 = .ok (.goto (-21), 3) := by decide +kernel
theorem dX3_addSigns_32 : decode cX3_addSigns 32 = .ok (.return_, 1) := by decide +kernel
theorem dX3_toRow_0 : decode cX3_toRow 0 = .ok (.aload_n 0, 1) := by decide +kernel
theorem dX3_toRow_1 : decode cX3_toRow 1 = .ok (.getfield 15, 3) := by decide +kernel
theorem dX3_toRow_4 : decode cX3_toRow 4 = .ok (.ifCond .ge 7, 3) := by decide +kernel
theorem dX3_toRow_7 : decode cX3_toRow 7 = .ok (.iconst 0, 1) := by decide +kernel
theorem dX3_toRow_8 : decode cX3_toRow 8 = .ok (.goto 7, 3) := by decide +kernel
theorem dX3_toRow_11 : decode cX3_toRow 11 = .ok (.aload_n 0, 1) := by decide +kernel
theorem dX3_toRow_12 : decode cX3_toRow 12 = .ok (.getfield 15, 3) := by decide +kernel
theorem dX3_toRow_15 : decode cX3_toRow 15 = .ok (.newarray .int, 2) := by decide +kernel
theorem dX3_toRow_17 : decode cX3_toRow 17 = .ok (.astore_n 1, 1) := by decide +kernel
theorem dX3_toRow_18 : decode cX3_toRow 18 = .ok (.iconst 0, 1) := by decide +kernel
theorem dX3_toRow_19 : decode cX3_toRow 19 = .ok (.istore_n 2, 1) := by decide +kernel
theorem dX3_toRow_20 : decode cX3_toRow 20 = .ok (.iload_n 2, 1) := by decide +kernel
theorem dX3_toRow_21 : decode cX3_toRow 21 = .ok (.aload_n 1, 1) := by decide +kernel
theorem dX3_toRow_22 : decode cX3_toRow 22 = .ok (.arraylength, 1) := by decide +kernel
theorem dX3_toRow_23 : decode cX3_toRow 23 = .ok (.if_icmp .ge 17, 3) := by decide +kernel
theorem dX3_toRow_26 : decode cX3_toRow 26 = .ok (.aload_n 1, 1) := by decide +kernel
theorem dX3_toRow_27 : decode cX3_toRow 27 = .ok (.iload_n 2, 1) := by decide +kernel
theorem dX3_toRow_28 : decode cX3_toRow 28 = .ok (.aload_n 0, 1) := by decide +kernel
theorem dX3_toRow_29 : decode cX3_toRow 29 = .ok (.iload_n 2, 1) := by decide +kernel
theorem dX3_toRow_30 : decode cX3_toRow 30 = .ok (.invokevirtual 54, 3) := by decide +kernel
theorem dX3_toRow_33 : decode cX3_toRow 33 = .ok (.iastore, 1) := by decide +kernel
theorem dX3_toRow_34 : decode cX3_toRow 34 = .ok (.iinc 2 1, 3) := by decide +kernel
theorem dX3_toRow_37 : decode cX3_toRow 37 = .ok (.goto (-17), 3) := by decide +kernel
theorem dX3_toRow_40 : decode cX3_toRow 40 = .ok (.aload_n 1, 1) := by decide +kernel
theorem dX3_toRow_41 : decode cX3_toRow 41 = .ok (.areturn, 1) := by decide +kernel
theorem dX3_signAt_0 : decode cX3_signAt 0 = .ok (.iload_n 1, 1) := by decide +kernel
theorem dX3_signAt_1 : decode cX3_signAt 1 = .ok (.ifCond .lt 29, 3) := by decide +kernel
theorem dX3_signAt_4 : decode cX3_signAt 4 = .ok (.iload_n 1, 1) := by decide +kernel
theorem dX3_signAt_5 : decode cX3_signAt 5 = .ok (.aload_n 0, 1) := by decide +kernel
theorem dX3_signAt_6 : decode cX3_signAt 6 = .ok (.getfield 15, 3) := by decide +kernel
theorem dX3_signAt_9 : decode cX3_signAt 9 = .ok (.if_icmp .ge 21, 3) := by decide +kernel
theorem dX3_signAt_12 : decode cX3_signAt 12 = .ok (.iload_n 1, 1) := by decide +kernel
theorem dX3_signAt_13 : decode cX3_signAt 13 = .ok (.aload_n 0, 1) := by decide +kernel
theorem dX3_signAt_14 : decode cX3_signAt 14 = .ok (.getfield 9, 3) := by decide +kernel
theorem dX3_signAt_17 : decode cX3_signAt 17 = .ok (.arraylength, 1) := by decide +kernel
theorem dX3_signAt_18 : decode cX3_signAt 18 = .ok (.if_icmp .ge 12, 3) := by decide +kernel
theorem dX3_signAt_21 : decode cX3_signAt 21 = .ok (.aload_n 0, 1) := by decide +kernel
theorem dX3_signAt_22 : decode cX3_signAt 22 = .ok (.getfield 9, 3) := by decide +kernel
theorem dX3_signAt_25 : decode cX3_signAt 25 = .ok (.iload_n 1, 1) := by decide +kernel
theorem dX3_signAt_26 : decode cX3_signAt 26 = .ok (.iaload, 1) := by decide +kernel
theorem dX3_signAt_27 : decode cX3_signAt 27 = .ok (.goto 4, 3) := by decide +kernel
theorem dX3_signAt_30 : decode cX3_signAt 30 = .ok (.iconst 0, 1) := by decide +kernel
theorem dX3_signAt_31 : decode cX3_signAt 31 = .ok (.ireturn, 1) := by decide +kernel
theorem dX3_hashed_0 : decode cX3_hashed 0 = .ok (.iconst 0, 1) := by decide +kernel
theorem dX3_hashed_1 : decode cX3_hashed 1 = .ok (.istore_n 1, 1) := by decide +kernel
theorem dX3_hashed_2 : decode cX3_hashed 2 = .ok (.iconst 0, 1) := by decide +kernel
theorem dX3_hashed_3 : decode cX3_hashed 3 = .ok (.istore_n 2, 1) := by decide +kernel
theorem dX3_hashed_4 : decode cX3_hashed 4 = .ok (.iload_n 2, 1) := by decide +kernel
theorem dX3_hashed_5 : decode cX3_hashed 5 = .ok (.aload_n 0, 1) := by decide +kernel
theorem dX3_hashed_6 : decode cX3_hashed 6 = .ok (.getfield 15, 3) := by decide +kernel
theorem dX3_hashed_9 : decode cX3_hashed 9 = .ok (.if_icmp .ge 20, 3) := by decide +kernel
theorem dX3_hashed_12 : decode cX3_hashed 12 = .ok (.bipush 31, 2) := by decide +kernel
theorem dX3_hashed_14 : decode cX3_hashed 14 = .ok (.iload_n 1, 1) := by decide +kernel
theorem dX3_hashed_15 : decode cX3_hashed 15 = .ok (.imul, 1) := by decide +kernel
theorem dX3_hashed_16 : decode cX3_hashed 16 = .ok (.aload_n 0, 1) := by decide +kernel
theorem dX3_hashed_17 : decode cX3_hashed 17 = .ok (.iload_n 2, 1) := by decide +kernel
theorem dX3_hashed_18 : decode cX3_hashed 18 = .ok (.invokevirtual 54, 3) := by decide +kernel
theorem dX3_hashed_21 : decode cX3_hashed 21 = .ok (.iadd, 1) := by decide +kernel
theorem dX3_hashed_22 : decode cX3_hashed 22 = .ok (.istore_n 1, 1) := by decide +kernel
theorem dX3_hashed_23 : decode cX3_hashed 23 = .ok (.iinc 2 1, 3) := by decide +kernel
theorem dX3_hashed_26 : decode cX3_hashed 26 = .ok (.goto (-22), 3) := by decide +kernel
theorem dX3_hashed_29 : decode cX3_hashed 29 = .ok (.iload_n 1, 1) := by decide +kernel
theorem dX3_hashed_30 : decode cX3_hashed 30 = .ok (.ireturn, 1) := by decide +kernel
theorem dX3_isWide_0 : decode cX3_isWide 0 = .ok (.iconst 0, 1) := by decide +kernel
theorem dX3_isWide_1 : decode cX3_isWide 1 = .ok (.istore_n 1, 1) := by decide +kernel
theorem dX3_isWide_2 : decode cX3_isWide 2 = .ok (.iload_n 1, 1) := by decide +kernel
theorem dX3_isWide_3 : decode cX3_isWide 3 = .ok (.aload_n 0, 1) := by decide +kernel
theorem dX3_isWide_4 : decode cX3_isWide 4 = .ok (.getfield 15, 3) := by decide +kernel
theorem dX3_isWide_7 : decode cX3_isWide 7 = .ok (.if_icmp .ge 22, 3) := by decide +kernel
theorem dX3_isWide_10 : decode cX3_isWide 10 = .ok (.aload_n 0, 1) := by decide +kernel
theorem dX3_isWide_11 : decode cX3_isWide 11 = .ok (.iload_n 1, 1) := by decide +kernel
theorem dX3_isWide_12 : decode cX3_isWide 12 = .ok (.invokevirtual 54, 3) := by decide +kernel
theorem dX3_isWide_15 : decode cX3_isWide 15 = .ok (.sipush 255, 3) := by decide +kernel
theorem dX3_isWide_18 : decode cX3_isWide 18 = .ok (.if_icmp .le 5, 3) := by decide +kernel
theorem dX3_isWide_21 : decode cX3_isWide 21 = .ok (.iconst 1, 1) := by decide +kernel
theorem dX3_isWide_22 : decode cX3_isWide 22 = .ok (.ireturn, 1) := by decide +kernel
theorem dX3_isWide_23 : decode cX3_isWide 23 = .ok (.iinc 1 1, 3) := by decide +kernel
theorem dX3_isWide_26 : decode cX3_isWide 26 = .ok (.goto (-24), 3) := by decide +kernel
theorem dX3_isWide_29 : decode cX3_isWide 29 = .ok (.iconst 0, 1) := by decide +kernel
theorem dX3_isWide_30 : decode cX3_isWide 30 = .ok (.ireturn, 1) := by decide +kernel
theorem dX3_isSameAs_0 : decode cX3_isSameAs 0 = .ok (.aload_n 0, 1) := by decide +kernel
theorem dX3_isSameAs_1 : decode cX3_isSameAs 1 = .ok (.getfield 15, 3) := by decide +kernel
theorem dX3_isSameAs_4 : decode cX3_isSameAs 4 = .ok (.aload_n 1, 1) := by decide +kernel
theorem dX3_isSameAs_5 : decode cX3_isSameAs 5 = .ok (.getfield 15, 3) := by decide +kernel
theorem dX3_isSameAs_8 : decode cX3_isSameAs 8 = .ok (.if_icmp .ne 19, 3) := by decide +kernel
theorem dX3_isSameAs_11 : decode cX3_isSameAs 11 = .ok (.aload_n 0, 1) := by decide +kernel
theorem dX3_isSameAs_12 : decode cX3_isSameAs 12 = .ok (.aload_n 1, 1) := by decide +kernel
theorem dX3_isSameAs_13 : decode cX3_isSameAs 13 = .ok (.invokevirtual 55, 3) := by decide +kernel
theorem dX3_isSameAs_16 : decode cX3_isSameAs 16 = .ok (.aload_n 0, 1) := by decide +kernel
theorem dX3_isSameAs_17 : decode cX3_isSameAs 17 = .ok (.getfield 15, 3) := by decide +kernel
theorem dX3_isSameAs_20 : decode cX3_isSameAs 20 = .ok (.if_icmp .ne 7, 3) := by decide +kernel
theorem dX3_isSameAs_23 : decode cX3_isSameAs 23 = .ok (.iconst 1, 1) := by decide +kernel
theorem dX3_isSameAs_24 : decode cX3_isSameAs 24 = .ok (.goto 4, 3) := by decide +kernel
theorem dX3_isSameAs_27 : decode cX3_isSameAs 27 = .ok (.iconst 0, 1) := by decide +kernel
theorem dX3_isSameAs_28 : decode cX3_isSameAs 28 = .ok (.ireturn, 1) := by decide +kernel
theorem dX3_samePlaces_0 : decode cX3_samePlaces 0 = .ok (.aload_n 0, 1) := by decide +kernel
theorem dX3_samePlaces_1 : decode cX3_samePlaces 1 = .ok (.getfield 15, 3) := by decide +kernel
theorem dX3_samePlaces_4 : decode cX3_samePlaces 4 = .ok (.aload_n 1, 1) := by decide +kernel
theorem dX3_samePlaces_5 : decode cX3_samePlaces 5 = .ok (.getfield 15, 3) := by decide +kernel
theorem dX3_samePlaces_8 : decode cX3_samePlaces 8 = .ok (.invokestatic 59, 3) := by decide +kernel
theorem dX3_samePlaces_11 : decode cX3_samePlaces 11 = .ok (.istore_n 2, 1) := by decide +kernel
theorem dX3_samePlaces_12 : decode cX3_samePlaces 12 = .ok (.iconst 0, 1) := by decide +kernel
theorem dX3_samePlaces_13 : decode cX3_samePlaces 13 = .ok (.istore_n 3, 1) := by decide +kernel
theorem dX3_samePlaces_14 : decode cX3_samePlaces 14 = .ok (.iload_n 3, 1) := by decide +kernel
theorem dX3_samePlaces_15 : decode cX3_samePlaces 15 = .ok (.iload_n 2, 1) := by decide +kernel
theorem dX3_samePlaces_16 : decode cX3_samePlaces 16 = .ok (.if_icmp .ge 24, 3) := by decide +kernel
theorem dX3_samePlaces_19 : decode cX3_samePlaces 19 = .ok (.aload_n 0, 1) := by decide +kernel
theorem dX3_samePlaces_20 : decode cX3_samePlaces 20 = .ok (.iload_n 3, 1) := by decide +kernel
theorem dX3_samePlaces_21 : decode cX3_samePlaces 21 = .ok (.invokevirtual 54, 3) := by decide +kernel
theorem dX3_samePlaces_24 : decode cX3_samePlaces 24 = .ok (.aload_n 1, 1) := by decide +kernel
theorem dX3_samePlaces_25 : decode cX3_samePlaces 25 = .ok (.iload_n 3, 1) := by decide +kernel
theorem dX3_samePlaces_26 : decode cX3_samePlaces 26 = .ok (.invokevirtual 54, 3) := by decide +kernel
theorem dX3_samePlaces_29 : decode cX3_samePlaces 29 = .ok (.if_icmp .eq 5, 3) := by decide +kernel
theorem dX3_samePlaces_32 : decode cX3_samePlaces 32 = .ok (.iload_n 3, 1) := by decide +kernel
theorem dX3_samePlaces_33 : decode cX3_samePlaces 33 = .ok (.ireturn, 1) := by decide +kernel
theorem dX3_samePlaces_34 : decode cX3_samePlaces 34 = .ok (.iinc 3 1, 3) := by decide +kernel
theorem dX3_samePlaces_37 : decode cX3_samePlaces 37 = .ok (.goto (-23), 3) := by decide +kernel
theorem dX3_samePlaces_40 : decode cX3_samePlaces 40 = .ok (.iload_n 2, 1) := by decide +kernel
theorem dX3_samePlaces_41 : decode cX3_samePlaces 41 = .ok (.ireturn, 1) := by decide +kernel
theorem dX3_comesBefore_0 : decode cX3_comesBefore 0 = .ok (.aload_n 0, 1) := by decide +kernel
theorem dX3_comesBefore_1 : decode cX3_comesBefore 1 = .ok (.aload_n 1, 1) := by decide +kernel
theorem dX3_comesBefore_2 : decode cX3_comesBefore 2 = .ok (.invokevirtual 55, 3) := by decide +kernel
theorem dX3_comesBefore_5 : decode cX3_comesBefore 5 = .ok (.istore_n 2, 1) := by decide +kernel
theorem dX3_comesBefore_6 : decode cX3_comesBefore 6 = .ok (.aload_n 0, 1) := by decide +kernel
theorem dX3_comesBefore_7 : decode cX3_comesBefore 7 = .ok (.iload_n 2, 1) := by decide +kernel
theorem dX3_comesBefore_8 : decode cX3_comesBefore 8 = .ok (.invokevirtual 54, 3) := by decide +kernel
theorem dX3_comesBefore_11 : decode cX3_comesBefore 11 = .ok (.aload_n 1, 1) := by decide +kernel
theorem dX3_comesBefore_12 : decode cX3_comesBefore 12 = .ok (.iload_n 2, 1) := by decide +kernel
theorem dX3_comesBefore_13 : decode cX3_comesBefore 13 = .ok (.invokevirtual 54, 3) := by decide +kernel
theorem dX3_comesBefore_16 : decode cX3_comesBefore 16 = .ok (.if_icmp .ge 7, 3) := by decide +kernel
theorem dX3_comesBefore_19 : decode cX3_comesBefore 19 = .ok (.iconst 1, 1) := by decide +kernel
theorem dX3_comesBefore_20 : decode cX3_comesBefore 20 = .ok (.goto 4, 3) := by decide +kernel
theorem dX3_comesBefore_23 : decode cX3_comesBefore 23 = .ok (.iconst 0, 1) := by decide +kernel
theorem dX3_comesBefore_24 : decode cX3_comesBefore 24 = .ok (.ireturn, 1) := by decide +kernel
theorem dX3_placeOf_0 : decode cX3_placeOf 0 = .ok (.iconst 0, 1) := by decide +kernel
theorem dX3_placeOf_1 : decode cX3_placeOf 1 = .ok (.istore_n 2, 1) := by decide +kernel
theorem dX3_placeOf_2 : decode cX3_placeOf 2 = .ok (.iload_n 2, 1) := by decide +kernel
theorem dX3_placeOf_3 : decode cX3_placeOf 3 = .ok (.aload_n 0, 1) := by decide +kernel
theorem dX3_placeOf_4 : decode cX3_placeOf 4 = .ok (.getfield 15, 3) := by decide +kernel
theorem dX3_placeOf_7 : decode cX3_placeOf 7 = .ok (.aload_n 1, 1) := by decide +kernel
theorem dX3_placeOf_8 : decode cX3_placeOf 8 = .ok (.getfield 15, 3) := by decide +kernel
theorem dX3_placeOf_11 : decode cX3_placeOf 11 = .ok (.isub, 1) := by decide +kernel
theorem dX3_placeOf_12 : decode cX3_placeOf 12 = .ok (.if_icmp .gt 20, 3) := by decide +kernel
theorem dX3_placeOf_15 : decode cX3_placeOf 15 = .ok (.aload_n 0, 1) := by decide +kernel
theorem dX3_placeOf_16 : decode cX3_placeOf 16 = .ok (.iload_n 2, 1) := by decide +kernel
theorem dX3_placeOf_17 : decode cX3_placeOf 17 = .ok (.aload_n 1, 1) := by decide +kernel
theorem dX3_placeOf_18 : decode cX3_placeOf 18 = .ok (.invokevirtual 65, 3) := by decide +kernel
theorem dX3_placeOf_21 : decode cX3_placeOf 21 = .ok (.ifCond .eq 5, 3) := by decide +kernel
theorem dX3_placeOf_24 : decode cX3_placeOf 24 = .ok (.iload_n 2, 1) := by decide +kernel
theorem dX3_placeOf_25 : decode cX3_placeOf 25 = .ok (.ireturn, 1) := by decide +kernel
theorem dX3_placeOf_26 : decode cX3_placeOf 26 = .ok (.iinc 2 1, 3) := by decide +kernel
theorem dX3_placeOf_29 : decode cX3_placeOf 29 = .ok (.goto (-27), 3) := by decide +kernel
theorem dX3_placeOf_32 : decode cX3_placeOf 32 = .ok (.bipush (-6), 2) := by decide +kernel
theorem dX3_placeOf_34 : decode cX3_placeOf 34 = .ok (.ireturn, 1) := by decide +kernel
