theorem dX6_say_19 : decode cX6_say 19 = .ok (.getfield 84, 3) := by decide +kernel
theorem dX6_say_22 : decode cX6_say 22 = .ok (.bipush 40, 2) := by decide +kernel
theorem dX6_say_24 : decode cX6_say 24 = .ok (.if_icmp .lt 6, 3) := by decide +kernel
theorem dX6_say_27 : decode cX6_say 27 = .ok (.bipush (-4), 2) := by decide +kernel
theorem dX6_say_29 : decode cX6_say 29 = .ok (.ireturn, 1) := by decide +kernel
theorem dX6_say_30 : decode cX6_say 30 = .ok (.aload_n 0, 1) := by decide +kernel
theorem dX6_say_31 : decode cX6_say 31 = .ok (.getfield 28, 3) := by decide +kernel
theorem dX6_say_34 : decode cX6_say 34 = .ok (.iload_n 1, 1) := by decide +kernel
theorem dX6_say_35 : decode cX6_say 35 = .ok (.invokevirtual 87, 3) := by decide +kernel
theorem dX6_say_38 : decode cX6_say 38 = .ok (.aload_n 0, 1) := by decide +kernel
theorem dX6_say_39 : decode cX6_say 39 = .ok (.getfield 28, 3) := by decide +kernel
theorem dX6_say_42 : decode cX6_say 42 = .ok (.getfield 84, 3) := by decide +kernel
theorem dX6_say_45 : decode cX6_say 45 = .ok (.ireturn, 1) := by decide +kernel
theorem dX6_put_0 : decode cX6_put 0 = .ok (.iload_n 1, 1) := by decide +kernel
theorem dX6_put_1 : decode cX6_put 1 = .ok (.invokestatic 91, 3) := by decide +kernel
theorem dX6_put_4 : decode cX6_put 4 = .ok (.ifCond .ne 5, 3) := by decide +kernel
theorem dX6_put_7 : decode cX6_put 7 = .ok (.iconst (-1), 1) := by decide +kernel
theorem dX6_put_8 : decode cX6_put 8 = .ok (.ireturn, 1) := by decide +kernel
theorem dX6_put_9 : decode cX6_put 9 = .ok (.aload_n 0, 1) := by decide +kernel
theorem dX6_put_10 : decode cX6_put 10 = .ok (.getfield 28, 3) := by decide +kernel
theorem dX6_put_13 : decode cX6_put 13 = .ok (.invokestatic 94, 3) := by decide +kernel
theorem dX6_put_16 : decode cX6_put 16 = .ok (.astore_n 2, 1) := by decide +kernel
theorem dX6_put_17 : decode cX6_put 17 = .ok (.aload_n 0, 1) := by decide +kernel
theorem dX6_put_18 : decode cX6_put 18 = .ok (.getfield 28, 3) := by decide +kernel
theorem dX6_put_21 : decode cX6_put 21 = .ok (.invokevirtual 98, 3) := by decide +kernel
theorem dX6_put_24 : decode cX6_put 24 = .ok (.aload_n 0, 1) := by decide +kernel
theorem dX6_put_25 : decode cX6_put 25 = .ok (.iload_n 1, 1) := by decide +kernel
theorem dX6_put_26 : decode cX6_put 26 = .ok (.aload_n 2, 1) := by decide +kernel
theorem dX6_put_27 : decode cX6_put 27 = .ok (.invokevirtual 101, 3) := by decide +kernel
theorem dX6_put_30 : decode cX6_put 30 = .ok (.ireturn, 1) := by decide +kernel
theorem dX6_copy_0 : decode cX6_copy 0 = .ok (.aload_n 0, 1) := by decide +kernel
theorem dX6_copy_1 : decode cX6_copy 1 = .ok (.iload_n 2, 1) := by decide +kernel
theorem dX6_copy_2 : decode cX6_copy 2 = .ok (.invokevirtual 105, 3) := by decide +kernel
theorem dX6_copy_5 : decode cX6_copy 5 = .ok (.astore_n 3, 1) := by decide +kernel
theorem dX6_copy_6 : decode cX6_copy 6 = .ok (.iload_n 1, 1) := by decide +kernel
theorem dX6_copy_7 : decode cX6_copy 7 = .ok (.invokestatic 91, 3) := by decide +kernel
theorem dX6_copy_10 : decode cX6_copy 10 = .ok (.ifCond .eq 7, 3) := by decide +kernel
theorem dX6_copy_13 : decode cX6_copy 13 = .ok (.aload_n 3, 1) := by decide +kernel
theorem dX6_copy_14 : decode cX6_copy 14 = .ok (.ifnonnull 5, 3) := by decide +kernel
theorem dX6_copy_17 : decode cX6_copy 17 = .ok (.iconst (-1), 1) := by decide +kernel
theorem dX6_copy_18 : decode cX6_copy 18 = .ok (.ireturn, 1) := by decide +kernel
theorem dX6_copy_19 : decode cX6_copy 19 = .ok (.aload_n 0, 1) := by decide +kernel
theorem dX6_copy_20 : decode cX6_copy 20 = .ok (.iload_n 1, 1) := by decide +kernel
theorem dX6_copy_21 : decode cX6_copy 21 = .ok (.aload_n 3, 1) := by decide +kernel
theorem dX6_copy_22 : decode cX6_copy 22 = .ok (.invokevirtual 101, 3) := by decide +kernel
theorem dX6_copy_25 : decode cX6_copy 25 = .ok (.ireturn, 1) := by decide +kernel
theorem dX6_join_0 : decode cX6_join 0 = .ok (.aload_n 0, 1) := by decide +kernel
theorem dX6_join_1 : decode cX6_join 1 = .ok (.iload_n 2, 1) := by decide +kernel
theorem dX6_join_2 : decode cX6_join 2 = .ok (.invokevirtual 105, 3) := by decide +kernel
theorem dX6_join_5 : decode cX6_join 5 = .ok (.astore 4, 2) := by decide +kernel
theorem dX6_join_7 : decode cX6_join 7 = .ok (.aload_n 0, 1) := by decide +kernel
theorem dX6_join_8 : decode cX6_join 8 = .ok (.iload_n 3, 1) := by decide +kernel
theorem dX6_join_9 : decode cX6_join 9 = .ok (.invokevirtual 105, 3) := by decide +kernel
theorem dX6_join_12 : decode cX6_join 12 = .ok (.astore 5, 2) := by decide +kernel
theorem dX6_join_14 : decode cX6_join 14 = .ok (.iload_n 1, 1) := by decide +kernel
theorem dX6_join_15 : decode cX6_join 15 = .ok (.invokestatic 91, 3) := by decide +kernel
theorem dX6_join_18 : decode cX6_join 18 = .ok (.ifCond .eq 13, 3) := by decide +kernel
theorem dX6_join_21 : decode cX6_join 21 = .ok (.aload 4, 2) := by decide +kernel
theorem dX6_join_23 : decode cX6_join 23 = .ok (.ifnull 8, 3) := by decide +kernel
theorem dX6_join_26 : decode cX6_join 26 = .ok (.aload 5, 2) := by decide +kernel
theorem dX6_join_28 : decode cX6_join 28 = .ok (.ifnonnull 5, 3) := by decide +kernel
theorem dX6_join_31 : decode cX6_join 31 = .ok (.iconst (-1), 1) := by decide +kernel
theorem dX6_join_32 : decode cX6_join 32 = .ok (.ireturn, 1) := by decide +kernel
theorem dX6_join_33 : decode cX6_join 33 = .ok (.aload 4, 2) := by decide +kernel
theorem dX6_join_35 : decode cX6_join 35 = .ok (.getfield 109, 3) := by decide +kernel
theorem dX6_join_38 : decode cX6_join 38 = .ok (.aload 5, 2) := by decide +kernel
theorem dX6_join_40 : decode cX6_join 40 = .ok (.getfield 109, 3) := by decide +kernel
theorem dX6_join_43 : decode cX6_join 43 = .ok (.iadd, 1) := by decide +kernel
theorem dX6_join_44 : decode cX6_join 44 = .ok (.bipush 120, 2) := by decide +kernel
theorem dX6_join_46 : decode cX6_join 46 = .ok (.if_icmp .le 6, 3) := by decide +kernel
theorem dX6_join_49 : decode cX6_join 49 = .ok (.bipush (-4), 2) := by decide +kernel
theorem dX6_join_51 : decode cX6_join 51 = .ok (.ireturn, 1) := by decide +kernel
theorem dX6_join_52 : decode cX6_join 52 = .ok (.aload_n 0, 1) := by decide +kernel
theorem dX6_join_53 : decode cX6_join 53 = .ok (.getfield 49, 3) := by decide +kernel
theorem dX6_join_56 : decode cX6_join 56 = .ok (.invokevirtual 110, 3) := by decide +kernel
theorem dX6_join_59 : decode cX6_join 59 = .ok (.aload_n 0, 1) := by decide +kernel
theorem dX6_join_60 : decode cX6_join 60 = .ok (.iload_n 1, 1) := by decide +kernel
theorem dX6_join_61 : decode cX6_join 61 = .ok (.aload_n 0, 1) := by decide +kernel
theorem dX6_join_62 : decode cX6_join 62 = .ok (.getfield 49, 3) := by decide +kernel
theorem dX6_join_65 : decode cX6_join 65 = .ok (.aload 4, 2) := by decide +kernel
theorem dX6_join_67 : decode cX6_join 67 = .ok (.aload 5, 2) := by decide +kernel
theorem dX6_join_69 : decode cX6_join 69 = .ok (.invokevirtual 113, 3) := by decide +kernel
theorem dX6_join_72 : decode cX6_join 72 = .ok (.invokevirtual 101, 3) := by decide +kernel
theorem dX6_join_75 : decode cX6_join 75 = .ok (.ireturn, 1) := by decide +kernel
theorem dX6_cut_0 : decode cX6_cut 0 = .ok (.aload_n 0, 1) := by decide +kernel
theorem dX6_cut_1 : decode cX6_cut 1 = .ok (.iload_n 2, 1) := by decide +kernel
theorem dX6_cut_2 : decode cX6_cut 2 = .ok (.invokevirtual 105, 3) := by decide +kernel
theorem dX6_cut_5 : decode cX6_cut 5 = .ok (.astore 5, 2) := by decide +kernel
theorem dX6_cut_7 : decode cX6_cut 7 = .ok (.iload_n 1, 1) := by decide +kernel
theorem dX6_cut_8 : decode cX6_cut 8 = .ok (.invokestatic 91, 3) := by decide +kernel
theorem dX6_cut_11 : decode cX6_cut 11 = .ok (.ifCond .eq 8, 3) := by decide +kernel
theorem dX6_cut_14 : decode cX6_cut 14 = .ok (.aload 5, 2) := by decide +kernel
theorem dX6_cut_16 : decode cX6_cut 16 = .ok (.ifnonnull 5, 3) := by decide +kernel
theorem dX6_cut_19 : decode cX6_cut 19 = .ok (.iconst (-1), 1) := by decide +kernel
theorem dX6_cut_20 : decode cX6_cut 20 = .ok (.ireturn, 1) := by decide +kernel
theorem dX6_cut_21 : decode cX6_cut 21 = .ok (.iload_n 3, 1) := by decide +kernel
theorem dX6_cut_22 : decode cX6_cut 22 = .ok (.ifCond .lt 29, 3) := by decide +kernel
theorem dX6_cut_25 : decode cX6_cut 25 = .ok (.iload 4, 2) := by decide +kernel
theorem dX6_cut_27 : decode cX6_cut 27 = .ok (.ifCond .lt 24, 3) := by decide +kernel
theorem dX6_cut_30 : decode cX6_cut 30 = .ok (.iload_n 3, 1) := by decide +kernel
theorem dX6_cut_31 : decode cX6_cut 31 = .ok (.aload 5, 2) := by decide +kernel
theorem dX6_cut_33 : decode cX6_cut 33 = .ok (.getfield 109, 3) := by decide +kernel
theorem dX6_cut_36 : decode cX6_cut 36 = .ok (.if_icmp .gt 15, 3) := by decide +kernel
theorem dX6_cut_39 : decode cX6_cut 39 = .ok (.iload 4, 2) := by decide +kernel
theorem dX6_cut_41 : decode cX6_cut 41 = .ok (.aload 5, 2) := by decide +kernel
theorem dX6_cut_43 : decode cX6_cut 43 = .ok (.getfield 109, 3) := by decide +kernel
theorem dX6_cut_46 : decode cX6_cut 46 = .ok (.iload_n 3, 1) := by decide +kernel
theorem dX6_cut_47 : decode cX6_cut 47 = .ok (.isub, 1) := by decide +kernel
theorem dX6_cut_48 : decode cX6_cut 48 = .ok (.if_icmp .le 6, 3) := by decide +kernel
theorem dX6_cut_51 : decode cX6_cut 51 = .ok (.bipush (-2), 2) := by decide +kernel
theorem dX6_cut_53 : decode cX6_cut 53 = .ok (.ireturn, 1) := by decide +kernel
theorem dX6_cut_54 : decode cX6_cut 54 = .ok (.aload_n 0, 1) := by decide +kernel
theorem dX6_cut_55 : decode cX6_cut 55 = .ok (.getfield 49, 3) := by decide +kernel
theorem dX6_cut_58 : decode cX6_cut 58 = .ok (.invokevirtual 110, 3) := by decide +kernel
theorem dX6_cut_61 : decode cX6_cut 61 = .ok (.aload_n 0, 1) := by decide +kernel
theorem dX6_cut_62 : decode cX6_cut 62 = .ok (.iload_n 1, 1) := by decide +kernel
theorem dX6_cut_63 : decode cX6_cut 63 = .ok (.aload_n 0, 1) := by decide +kernel
theorem dX6_cut_64 : decode cX6_cut 64 = .ok (.getfield 49, 3) := by decide +kernel
theorem dX6_cut_67 : decode cX6_cut 67 = .ok (.aload 5, 2) := by decide +kernel
theorem dX6_cut_69 : decode cX6_cut 69 = .ok (.iload_n 3, 1) := by decide +kernel
theorem dX6_cut_70 : decode cX6_cut 70 = .ok (.iload 4, 2) := by decide +kernel
theorem dX6_cut_72 : decode cX6_cut 72 = .ok (.iconst 0, 1) := by decide +kernel
theorem dX6_cut_73 : decode cX6_cut 73 = .ok (.invokevirtual 117, 3) := by decide +kernel
theorem dX6_cut_76 : decode cX6_cut 76 = .ok (.invokevirtual 101, 3) := by decide +kernel
theorem dX6_cut_79 : decode cX6_cut 79 = .ok (.ireturn, 1) := by decide +kernel
theorem dX6_flat_0 : decode cX6_flat 0 = .ok (.aload_n 0, 1) := by decide +kernel
theorem dX6_flat_1 : decode cX6_flat 1 = .ok (.iload_n 1, 1) := by decide +kernel
theorem dX6_flat_2 : decode cX6_flat 2 = .ok (.invokevirtual 105, 3) := by decide +kernel
theorem dX6_flat_5 : decode cX6_flat 5 = .ok (.astore_n 2, 1) := by decide +kernel
theorem dX6_flat_6 : decode cX6_flat 6 = .ok (.aload_n 2, 1) := by decide +kernel
theorem dX6_flat_7 : decode cX6_flat 7 = .ok (.ifnonnull 5, 3) := by decide +kernel
theorem dX6_flat_10 : decode cX6_flat 10 = .ok (.iconst (-1), 1) := by decide +kernel
theorem dX6_flat_11 : decode cX6_flat 11 = .ok (.ireturn, 1) := by decide +kernel
theorem dX6_flat_12 : decode cX6_flat 12 = .ok (.aload_n 0, 1) := by decide +kernel
theorem dX6_flat_13 : decode cX6_flat 13 = .ok (.getfield 42, 3) := by decide +kernel
theorem dX6_flat_16 : decode cX6_flat 16 = .ok (.aload_n 2, 1) := by decide +kernel
theorem dX6_flat_17 : decode cX6_flat 17 = .ok (.invokevirtual 121, 3) := by decide +kernel
theorem dX6_flat_20 : decode cX6_flat 20 = .ok (.aload_n 2, 1) := by decide +kernel
theorem dX6_flat_21 : decode cX6_flat 21 = .ok (.getfield 125, 3) := by decide +kernel
theorem dX6_flat_24 : decode cX6_flat 24 = .ok (.ifCond .eq 19, 3) := by decide +kernel
theorem dX6_flat_27 : decode cX6_flat 27 = .ok (.aload_n 0, 1) := by decide +kernel
theorem dX6_flat_28 : decode cX6_flat 28 = .ok (.getfield 60, 3) := by decide +kernel
theorem dX6_flat_31 : decode cX6_flat 31 = .ok (.aload_n 2, 1) := by decide +kernel
theorem dX6_flat_32 : decode cX6_flat 32 = .ok (.invokevirtual 128, 3) := by decide +kernel
theorem dX6_flat_35 : decode cX6_flat 35 = .ok (.aload_n 2, 1) := by decide +kernel
theorem dX6_flat_36 : decode cX6_flat 36 = .ok (.aload_n 0, 1) := by decide +kernel
theorem dX6_flat_37 : decode cX6_flat 37 = .ok (.getfield 60, 3) := by decide +kernel
theorem dX6_flat_40 : decode cX6_flat 40 = .ok (.invokevirtual 129, 3) := by decide +kernel
theorem dX6_flat_43 : decode cX6_flat 43 = .ok (.aload_n 0, 1) := by decide +kernel
theorem dX6_flat_44 : decode cX6_flat 44 = .ok (.getfield 42, 3) := by decide +kernel
theorem dX6_flat_47 : decode cX6_flat 47 = .ok (.getfield 133, 3) := by decide +kernel
theorem dX6_flat_50 : decode cX6_flat 50 = .ok (.ireturn, 1) := by decide +kernel
theorem dX6_sign_0 : decode cX6_sign 0 = .ok (.aload_n 0, 1) := by decide +kernel
theorem dX6_sign_1 : decode cX6_sign 1 = .ok (.iload_n 1, 1) := by decide +kernel
theorem dX6_sign_2 : decode cX6_sign 2 = .ok (.invokevirtual 105, 3) := by decide +kernel
theorem dX6_sign_5 : decode cX6_sign 5 = .ok (.astore_n 3, 1) := by decide +kernel
theorem dX6_sign_6 : decode cX6_sign 6 = .ok (.aload_n 3, 1) := by decide +kernel
theorem dX6_sign_7 : decode cX6_sign 7 = .ok (.ifnonnull 5, 3) := by decide +kernel
theorem dX6_sign_10 : decode cX6_sign 10 = .ok (.iconst (-1), 1) := by decide +kernel
theorem dX6_sign_11 : decode cX6_sign 11 = .ok (.ireturn, 1) := by decide +kernel
theorem dX6_sign_12 : decode cX6_sign 12 = .ok (.iload_n 2, 1) := by decide +kernel
theorem dX6_sign_13 : decode cX6_sign 13 = .ok (.ifCond .lt 11, 3) := by decide +kernel
theorem dX6_sign_16 : decode cX6_sign 16 = .ok (.iload_n 2, 1) := by decide +kernel
theorem dX6_sign_17 : decode cX6_sign 17 = .ok (.aload_n 3, 1) := by decide +kernel
theorem dX6_sign_18 : decode cX6_sign 18 = .ok (.getfield 109, 3) := by decide +kernel
theorem dX6_sign_21 : decode cX6_sign 21 = .ok (.if_icmp .lt 6, 3) := by decide +kernel
theorem dX6_sign_24 : decode cX6_sign 24 = .ok (.bipush (-6), 2) := by decide +kernel
theorem dX6_sign_26 : decode cX6_sign 26 = .ok (.ireturn, 1) := by decide +kernel
theorem dX6_sign_27 : decode cX6_sign 27 = .ok (.aload_n 0, 1) := by decide +kernel
theorem dX6_sign_28 : decode cX6_sign 28 = .ok (.getfield 60, 3) := by decide +kernel
theorem dX6_sign_31 : decode cX6_sign 31 = .ok (.aload_n 3, 1) := by decide +kernel
theorem dX6_sign_32 : decode cX6_sign 32 = .ok (.invokevirtual 128, 3) := by decide +kernel
theorem dX6_sign_35 : decode cX6_sign 35 = .ok (.aload_n 0, 1) := by decide +kernel
theorem dX6_sign_36 : decode cX6_sign 36 = .ok (.getfield 60, 3) := by decide +kernel
theorem dX6_sign_39 : decode cX6_sign 39 = .ok (.iload_n 2, 1) := by decide +kernel
theorem dX6_sign_40 : decode cX6_sign 40 = .ok (.invokevirtual 134, 3) := by decide +kernel
theorem dX6_sign_43 : decode cX6_sign 43 = .ok (.ireturn, 1) := by decide +kernel
theorem dX6_hash_0 : decode cX6_hash 0 = .ok (.aload_n 0, 1) := by decide +kernel
theorem dX6_hash_1 : decode cX6_hash 1 = .ok (.iload_n 1, 1) := by decide +kernel
theorem dX6_hash_2 : decode cX6_hash 2 = .ok (.invokevirtual 105, 3) := by decide +kernel
theorem dX6_hash_5 : decode cX6_hash 5 = .ok (.astore_n 2, 1) := by decide +kernel
theorem dX6_hash_6 : decode cX6_hash 6 = .ok (.aload_n 2, 1) := by decide +kernel
theorem dX6_hash_7 : decode cX6_hash 7 = .ok (.ifnonnull 5, 3) := by decide +kernel
theorem dX6_hash_10 : decode cX6_hash 10 = .ok (.iconst 0, 1) := by decide +kernel
theorem dX6_hash_11 : decode cX6_hash 11 = .ok (.ireturn, 1) := by decide +kernel
theorem dX6_hash_12 : decode cX6_hash 12 = .ok (.aload_n 0, 1) := by decide +kernel
theorem dX6_hash_13 : decode cX6_hash 13 = .ok (.getfield 60, 3) := by decide +kernel
theorem dX6_hash_16 : decode cX6_hash 16 = .ok (.aload_n 2, 1) := by decide +kernel
theorem dX6_hash_17 : decode cX6_hash 17 = .ok (.invokevirtual 128, 3) := by decide +kernel
theorem dX6_hash_20 : decode cX6_hash 20 = .ok (.aload_n 0, 1) := by decide +kernel
theorem dX6_hash_21 : decode cX6_hash 21 = .ok (.getfield 60, 3) := by decide +kernel
theorem dX6_hash_24 : decode cX6_hash 24 = .ok (.invokevirtual 138, 3) := by decide +kernel
theorem dX6_hash_27 : decode cX6_hash 27 = .ok (.ireturn, 1) := by decide +kernel
theorem dX6_told_0 : decode cX6_told 0 = .ok (.aload_n 0, 1) := by decide +kernel
theorem dX6_told_1 : decode cX6_told 1 = .ok (.iload_n 1, 1) := by decide +kernel
theorem dX6_told_2 : decode cX6_told 2 = .ok (.invokevirtual 105, 3) := by decide +kernel
theorem dX6_told_5 : decode cX6_told 5 = .ok (.astore_n 3, 1) := by decide +kernel
theorem dX6_told_6 : decode cX6_told 6 = .ok (.aload_n 3, 1) := by decide +kernel
theorem dX6_told_7 : decode cX6_told 7 = .ok (.ifnonnull 5, 3) := by decide +kernel
theorem dX6_told_10 : decode cX6_told 10 = .ok (.iconst (-1), 1) := by decide +kernel
theorem dX6_told_11 : decode cX6_told 11 = .ok (.ireturn, 1) := by decide +kernel
theorem dX6_told_12 : decode cX6_told 12 = .ok (.iload_n 2, 1) := by decide +kernel
theorem dX6_told_13 : decode cX6_told 13 = .ok (.tableswitch 125 0 6 #[43, 48, 53, 58, 74, 90, 106], 43) := by decide +kernel
theorem dX6_told_56 : decode cX6_told 56 = .ok (.aload_n 3, 1) := by decide +kernel
theorem dX6_told_57 : decode cX6_told 57 = .ok (.getfield 109, 3) := by decide +kernel
theorem dX6_told_60 : decode cX6_told 60 = .ok (.ireturn, 1) := by decide +kernel
theorem dX6_told_61 : decode cX6_told 61 = .ok (.aload_n 3, 1) := by decide +kernel
theorem dX6_told_62 : decode cX6_told 62 = .ok (.getfield 125, 3) := by decide +kernel
theorem dX6_told_65 : decode cX6_told 65 = .ok (.ireturn, 1) := by decide +kernel
theorem dX6_told_66 : decode cX6_told 66 = .ok (.aload_n 3, 1) := by decide +kernel
theorem dX6_told_67 : decode cX6_told 67 = .ok (.invokevirtual 142, 3) := by decide +kernel
theorem dX6_told_70 : decode cX6_told 70 = .ok (.ireturn, 1) := by decide +kernel
theorem dX6_told_71 : decode cX6_told 71 = .ok (.aload_n 0, 1) := by decide +kernel
theorem dX6_told_72 : decode cX6_told 72 = .ok (.getfield 42, 3) := by decide +kernel
theorem dX6_told_75 : decode cX6_told 75 = .ok (.aload_n 3, 1) := by decide +kernel
theorem dX6_told_76 : decode cX6_told 76 = .ok (.invokevirtual 121, 3) := by decide +kernel
theorem dX6_told_79 : decode cX6_told 79 = .ok (.aload_n 0, 1) := by decide +kernel
theorem dX6_told_80 : decode cX6_told 80 = .ok (.getfield 42, 3) := by decide +kernel
theorem dX6_told_83 : decode cX6_told 83 = .ok (.getfield 133, 3) := by decide +kernel
theorem dX6_told_86 : decode cX6_told 86 = .ok (.ireturn, 1) := by decide +kernel
theorem dX6_told_87 : decode cX6_told 87 = .ok (.aload_n 0, 1) := by decide +kernel
theorem dX6_told_88 : decode cX6_told 88 = .ok (.getfield 56, 3) := by decide +kernel
theorem dX6_told_91 : decode cX6_told 91 = .ok (.aload_n 3, 1) := by decide +kernel
theorem dX6_told_92 : decode cX6_told 92 = .ok (.invokevirtual 145, 3) := by decide +kernel
theorem dX6_told_95 : decode cX6_told 95 = .ok (.aload_n 0, 1) := by decide +kernel
theorem dX6_told_96 : decode cX6_told 96 = .ok (.getfield 56, 3) := by decide +kernel
theorem dX6_told_99 : decode cX6_told 99 = .ok (.getfield 148, 3) := by decide +kernel
theorem dX6_told_102 : decode cX6_told 102 = .ok (.ireturn, 1) := by decide +kernel
theorem dX6_told_103 : decode cX6_told 103 = .ok (.aload_n 0, 1) := by decide +kernel
theorem dX6_told_104 : decode cX6_told 104 = .ok (.getfield 56, 3) := by decide +kernel
theorem dX6_told_107 : decode cX6_told 107 = .ok (.aload_n 3, 1) := by decide +kernel
theorem dX6_told_108 : decode cX6_told 108 = .ok (.invokevirtual 145, 3) := by decide +kernel
theorem dX6_told_111 : decode cX6_told 111 = .ok (.aload_n 0, 1) := by decide +kernel
theorem dX6_told_112 : decode cX6_told 112 = .ok (.getfield 56, 3) := by decide +kernel
theorem dX6_told_115 : decode cX6_told 115 = .ok (.getfield 151, 3) := by decide +kernel
theorem dX6_told_118 : decode cX6_told 118 = .ok (.ireturn, 1) := by decide +kernel
theorem dX6_told_119 : decode cX6_told 119 = .ok (.aload_n 0, 1) := by decide +kernel
theorem dX6_told_120 : decode cX6_told 120 = .ok (.getfield 60, 3) := by decide +kernel
theorem dX6_told_123 : decode cX6_told 123 = .ok (.aload_n 3, 1) := by decide +kernel
theorem dX6_told_124 : decode cX6_told 124 = .ok (.invokevirtual 128, 3) := by decide +kernel
theorem dX6_told_127 : decode cX6_told 127 = .ok (.aload_n 0, 1) := by decide +kernel
theorem dX6_told_128 : decode cX6_told 128 = .ok (.getfield 60, 3) := by decide +kernel
theorem dX6_told_131 : decode cX6_told 131 = .ok (.invokevirtual 154, 3) := by decide +kernel
theorem dX6_told_134 : decode cX6_told 134 = .ok (.invokestatic 158, 3) := by decide +kernel
theorem dX6_told_137 : decode cX6_told 137 = .ok (.ireturn, 1) := by decide +kernel
theorem dX6_told_138 : decode cX6_told 138 = .ok (.bipush (-2), 2) := by decide +kernel
theorem dX6_told_140 : decode cX6_told 140 = .ok (.ireturn, 1) := by decide +kernel
theorem dX6_piece_0 : decode cX6_piece 0 = .ok (.aload_n 0, 1) := by decide +kernel
theorem dX6_piece_1 : decode cX6_piece 1 = .ok (.iload_n 1, 1) := by decide +kernel
theorem dX6_piece_2 : decode cX6_piece 2 = .ok (.invokevirtual 105, 3) := by decide +kernel
theorem dX6_piece_5 : decode cX6_piece 5 = .ok (.astore 4, 2) := by decide +kernel
theorem dX6_piece_7 : decode cX6_piece 7 = .ok (.aload 4, 2) := by decide +kernel
theorem dX6_piece_9 : decode cX6_piece 9 = .ok (.ifnonnull 5, 3) := by decide +kernel
theorem dX6_piece_12 : decode cX6_piece 12 = .ok (.iconst (-1), 1) := by decide +kernel
theorem dX6_piece_13 : decode cX6_piece 13 = .ok (.ireturn, 1) := by decide +kernel
theorem dX6_piece_14 : decode cX6_piece 14 = .ok (.iload_n 3, 1) := by decide +kernel
theorem dX6_piece_15 : decode cX6_piece 15 = .ok (.ifCond .lt 8, 3) := by decide +kernel
theorem dX6_piece_18 : decode cX6_piece 18 = .ok (.iload_n 3, 1) := by decide +kernel
theorem dX6_piece_19 : decode cX6_piece 19 = .ok (.iconst 3, 1) := by decide +kernel
theorem dX6_piece_20 : decode cX6_piece 20 = .ok (.if_icmp .le 6, 3) := by decide +kernel
theorem dX6_piece_23 : decode cX6_piece 23 = .ok (.bipush (-2), 2) := by decide +kernel
theorem dX6_piece_25 : decode cX6_piece 25 = .ok (.ireturn, 1) := by decide +kernel
theorem dX6_piece_26 : decode cX6_piece 26 = .ok (.aload_n 0, 1) := by decide +kernel
theorem dX6_piece_27 : decode cX6_piece 27 = .ok (.getfield 42, 3) := by decide +kernel
theorem dX6_piece_30 : decode cX6_piece 30 = .ok (.aload 4, 2) := by decide +kernel
theorem dX6_piece_32 : decode cX6_piece 32 = .ok (.invokevirtual 121, 3) := by decide +kernel
theorem dX6_piece_35 : decode cX6_piece 35 = .ok (.aload_n 0, 1) := by decide +kernel
theorem dX6_piece_36 : decode cX6_piece 36 = .ok (.getfield 42, 3) := by decide +kernel
theorem dX6_piece_39 : decode cX6_piece 39 = .ok (.iload_n 2, 1) := by decide +kernel
theorem dX6_piece_40 : decode cX6_piece 40 = .ok (.invokevirtual 162, 3) := by decide +kernel
theorem dX6_piece_43 : decode cX6_piece 43 = .ok (.astore 5, 2) := by decide +kernel
theorem dX6_piece_45 : decode cX6_piece 45 = .ok (.aload 5, 2) := by decide +kernel
theorem dX6_piece_47 : decode cX6_piece 47 = .ok (.ifnonnull 6, 3) := by decide +kernel
theorem dX6_piece_50 : decode cX6_piece 50 = .ok (.bipush (-6), 2) := by decide +kernel
theorem dX6_piece_52 : decode cX6_piece 52 = .ok (.ireturn, 1) := by decide +kernel
theorem dX6_piece_53 : decode cX6_piece 53 = .ok (.iload_n 3, 1) := by decide +kernel
theorem dX6_piece_54 : decode cX6_piece 54 = .ok (.tableswitch 63 0 2 #[26, 32, 38], 26) := by decide +kernel
theorem dX6_piece_80 : decode cX6_piece 80 = .ok (.aload 5, 2) := by decide +kernel
theorem dX6_piece_82 : decode cX6_piece 82 = .ok (.getfield 109, 3) := by decide +kernel
theorem dX6_piece_85 : decode cX6_piece 85 = .ok (.ireturn, 1) := by decide +kernel
theorem dX6_piece_86 : decode cX6_piece 86 = .ok (.aload 5, 2) := by decide +kernel
theorem dX6_piece_88 : decode cX6_piece 88 = .ok (.getfield 165, 3) := by decide +kernel
theorem dX6_piece_91 : decode cX6_piece 91 = .ok (.ireturn, 1) := by decide +kernel
theorem dX6_piece_92 : decode cX6_piece 92 = .ok (.aload 5, 2) := by decide +kernel
theorem dX6_piece_94 : decode cX6_piece 94 = .ok (.getfield 168, 3) := by decide +kernel
theorem dX6_piece_97 : decode cX6_piece 97 = .ok (.ifnonnull 11, 3) := by decide +kernel
theorem dX6_piece_100 : decode cX6_piece 100 = .ok (.aload 5, 2) := by decide +kernel
theorem dX6_piece_102 : decode cX6_piece 102 = .ok (.getfield 109, 3) := by decide +kernel
theorem dX6_piece_105 : decode cX6_piece 105 = .ok (.goto 11, 3) := by decide +kernel
theorem dX6_piece_108 : decode cX6_piece 108 = .ok (.aload 5, 2) := by decide +kernel
theorem dX6_piece_110 : decode cX6_piece 110 = .ok (.getfield 168, 3) := by decide +kernel
theorem dX6_piece_113 : decode cX6_piece 113 = .ok (.getfield 109, 3) := by decide +kernel
theorem dX6_piece_116 : decode cX6_piece 116 = .ok (.ireturn, 1) := by decide +kernel
theorem dX6_piece_117 : decode cX6_piece 117 = .ok (.aload_n 0, 1) := by decide +kernel
theorem dX6_piece_118 : decode cX6_piece 118 = .ok (.getfield 42, 3) := by decide +kernel
theorem dX6_piece_121 : decode cX6_piece 121 = .ok (.aload 5, 2) := by decide +kernel
theorem dX6_piece_123 : decode cX6_piece 123 = .ok (.invokevirtual 172, 3) := by decide +kernel
theorem dX6_piece_126 : decode cX6_piece 126 = .ok (.ireturn, 1) := by decide +kernel
theorem dX6_alike_0 : decode cX6_alike 0 = .ok (.aload_n 0, 1) := by decide +kernel
theorem dX6_alike_1 : decode cX6_alike 1 = .ok (.iload_n 1, 1) := by decide +kernel
theorem dX6_alike_2 : decode cX6_alike 2 = .ok (.invokevirtual 105, 3) := by decide +kernel
theorem dX6_alike_5 : decode cX6_alike 5 = .ok (.astore 4, 2) := by decide +kernel
theorem dX6_alike_7 : decode cX6_alike 7 = .ok (.aload_n 0, 1) := by decide +kernel
theorem dX6_alike_8 : decode cX6_alike 8 = .ok (.iload_n 2, 1) := by decide +kernel
theorem dX6_alike_9 : decode cX6_alike 9 = .ok (.invokevirtual 105, 3) := by decide +kernel
theorem dX6_alike_12 : decode cX6_alike 12 = .ok (.astore 5, 2) := by decide +kernel
theorem dX6_alike_14 : decode cX6_alike 14 = .ok (.aload 4, 2) := by decide +kernel
theorem dX6_alike_16 : decode cX6_alike 16 = .ok (.ifnull 8, 3) := by decide +kernel
theorem dX6_alike_19 : decode cX6_alike 19 = .ok (.aload 5, 2) := by decide +kernel
theorem dX6_alike_21 : decode cX6_alike 21 = .ok (.ifnonnull 5, 3) := by decide +kernel
theorem dX6_alike_24 : decode cX6_alike 24 = .ok (.iconst (-1), 1) := by decide +kernel
theorem dX6_alike_25 : decode cX6_alike 25 = .ok (.ireturn, 1) := by decide +kernel
theorem dX6_alike_26 : decode cX6_alike 26 = .ok (.iload_n 3, 1) := by decide +kernel
theorem dX6_alike_27 : decode cX6_alike 27 = .ok (.ifCond .lt 8, 3) := by decide +kernel
theorem dX6_alike_30 : decode cX6_alike 30 = .ok (.iload_n 3, 1) := by decide +kernel
theorem dX6_alike_31 : decode cX6_alike 31 = .ok (.iconst 4, 1) := by decide +kernel
theorem dX6_alike_32 : decode cX6_alike 32 = .ok (.if_icmp .le 6, 3) := by decide +kernel
theorem dX6_alike_35 : decode cX6_alike 35 = .ok (.bipush (-2), 2) := by decide +kernel
theorem dX6_alike_37 : decode cX6_alike 37 = .ok (.ireturn, 1) := by decide +kernel
theorem dX6_alike_38 : decode cX6_alike 38 = .ok (.iload_n 3, 1) := by decide +kernel
theorem dX6_alike_39 : decode cX6_alike 39 = .ok (.iconst 1, 1) := by decide +kernel
theorem dX6_alike_40 : decode cX6_alike 40 = .ok (.if_icmp .ne 19, 3) := by decide +kernel
theorem dX6_alike_43 : decode cX6_alike 43 = .ok (.aload 4, 2) := by decide +kernel
theorem dX6_alike_45 : decode cX6_alike 45 = .ok (.aload 5, 2) := by decide +kernel
theorem dX6_alike_47 : decode cX6_alike 47 = .ok (.if_acmp .ne 7, 3) := by decide +kernel
theorem dX6_alike_50 : decode cX6_alike 50 = .ok (.iconst 1, 1) := by decide +kernel
theorem dX6_alike_51 : decode cX6_alike 51 = .ok (.goto 4, 3) := by decide +kernel
theorem dX6_alike_54 : decode cX6_alike 54 = .ok (.iconst 0, 1) := by decide +kernel
theorem dX6_alike_55 : decode cX6_alike 55 = .ok (.invokestatic 158, 3) := by decide +kernel
theorem dX6_alike_58 : decode cX6_alike 58 = .ok (.ireturn, 1) := by decide +kernel
theorem dX6_alike_59 : decode cX6_alike 59 = .ok (.aload_n 0, 1) := by decide +kernel
theorem dX6_alike_60 : decode cX6_alike 60 = .ok (.getfield 60, 3) := by decide +kernel
theorem dX6_alike_63 : decode cX6_alike 63 = .ok (.aload 4, 2) := by decide +kernel
theorem dX6_alike_65 : decode cX6_alike 65 = .ok (.invokevirtual 128, 3) := by decide +kernel
theorem dX6_alike_68 : decode cX6_alike 68 = .ok (.aload_n 0, 1) := by decide +kernel
theorem dX6_alike_69 : decode cX6_alike 69 = .ok (.getfield 63, 3) := by decide +kernel
theorem dX6_alike_72 : decode cX6_alike 72 = .ok (.aload 5, 2) := by decide +kernel
theorem dX6_alike_74 : decode cX6_alike 74 = .ok (.invokevirtual 128, 3) := by decide +kernel
theorem dX6_alike_77 : decode cX6_alike 77 = .ok (.aload_n 0, 1) := by decide +kernel
theorem dX6_alike_78 : decode cX6_alike 78 = .ok (.iload_n 3, 1) := by decide +kernel
theorem dX6_alike_79 : decode cX6_alike 79 = .ok (.invokevirtual 176, 3) := by decide +kernel
theorem dX6_alike_82 : decode cX6_alike 82 = .ok (.ireturn, 1) := by decide +kernel
theorem dX6_intern_0 : decode cX6_intern 0 = .ok (.aload_n 0, 1) := by decide +kernel
theorem dX6_intern_1 : decode cX6_intern 1 = .ok (.iload_n 1, 1) := by decide +kernel
theorem dX6_intern_2 : decode cX6_intern 2 = .ok (.invokevirtual 105, 3) := by decide +kernel
theorem dX6_intern_5 : decode cX6_intern 5 = .ok (.astore_n 2, 1) := by decide +kernel
theorem dX6_intern_6 : decode cX6_intern 6 = .ok (.aload_n 2, 1) := by decide +kernel
theorem dX6_intern_7 : decode cX6_intern 7 = .ok (.ifnonnull 5, 3) := by decide +kernel
theorem dX6_intern_10 : decode cX6_intern 10 = .ok (.iconst (-1), 1) := by decide +kernel
theorem dX6_intern_11 : decode cX6_intern 11 = .ok (.ireturn, 1) := by decide +kernel
theorem dX6_intern_12 : decode cX6_intern 12 = .ok (.aload_n 0, 1) := by decide +kernel
theorem dX6_intern_13 : decode cX6_intern 13 = .ok (.aload_n 2, 1) := by decide +kernel
theorem dX6_intern_14 : decode cX6_intern 14 = .ok (.invokevirtual 179, 3) := by decide +kernel
theorem dX6_intern_17 : decode cX6_intern 17 = .ok (.istore_n 3, 1) := by decide +kernel
theorem dX6_intern_18 : decode cX6_intern 18 = .ok (.iload_n 3, 1) := by decide +kernel
theorem dX6_intern_19 : decode cX6_intern 19 = .ok (.ifCond .ge 27, 3) := by decide +kernel
theorem dX6_intern_22 : decode cX6_intern 22 = .ok (.aload_n 0, 1) := by decide +kernel
theorem dX6_intern_23 : decode cX6_intern 23 = .ok (.getfield 35, 3) := by decide +kernel
theorem dX6_intern_26 : decode cX6_intern 26 = .ok (.invokevirtual 182, 3) := by decide +kernel
theorem dX6_intern_29 : decode cX6_intern 29 = .ok (.ifCond .eq 8, 3) := by decide +kernel
theorem dX6_intern_32 : decode cX6_intern 32 = .ok (.bipush (-4), 2) := by decide +kernel
theorem dX6_intern_34 : decode cX6_intern 34 = .ok (.goto 11, 3) := by decide +kernel
theorem dX6_intern_37 : decode cX6_intern 37 = .ok (.aload_n 0, 1) := by decide +kernel
theorem dX6_intern_38 : decode cX6_intern 38 = .ok (.getfield 35, 3) := by decide +kernel
theorem dX6_intern_41 : decode cX6_intern 41 = .ok (.aload_n 2, 1) := by decide +kernel
theorem dX6_intern_42 : decode cX6_intern 42 = .ok (.invokevirtual 185, 3) := by decide +kernel
theorem dX6_intern_45 : decode cX6_intern 45 = .ok (.ireturn, 1) := by decide +kernel
theorem dX6_intern_46 : decode cX6_intern 46 = .ok (.aload_n 0, 1) := by decide +kernel
theorem dX6_intern_47 : decode cX6_intern 47 = .ok (.iload_n 1, 1) := by decide +kernel
theorem dX6_intern_48 : decode cX6_intern 48 = .ok (.aload_n 0, 1) := by decide +kernel
theorem dX6_intern_49 : decode cX6_intern 49 = .ok (.getfield 35, 3) := by decide +kernel
theorem dX6_intern_52 : decode cX6_intern 52 = .ok (.iload_n 3, 1) := by decide +kernel
theorem dX6_intern_53 : decode cX6_intern 53 = .ok (.invokevirtual 188, 3) := by decide +kernel
theorem dX6_intern_56 : decode cX6_intern 56 = .ok (.invokevirtual 101, 3) := by decide +kernel
theorem dX6_intern_59 : decode cX6_intern 59 = .ok (.pop, 1) := by decide +kernel
theorem dX6_intern_60 : decode cX6_intern 60 = .ok (.aload_n 0, 1) := by decide +kernel
theorem dX6_intern_61 : decode cX6_intern 61 = .ok (.getfield 35, 3) := by decide +kernel
theorem dX6_intern_64 : decode cX6_intern 64 = .ok (.iload_n 3, 1) := by decide +kernel
theorem dX6_intern_65 : decode cX6_intern 65 = .ok (.invokevirtual 191, 3) := by decide +kernel
theorem dX6_intern_68 : decode cX6_intern 68 = .ok (.ireturn, 1) := by decide +kernel
theorem dX6_sweep_0 : decode cX6_sweep 0 = .ok (.aload_n 0, 1) := by decide +kernel
theorem dX6_sweep_1 : decode cX6_sweep 1 = .ok (.getfield 56, 3) := by decide +kernel
theorem dX6_sweep_4 : decode cX6_sweep 4 = .ok (.aload_n 0, 1) := by decide +kernel
theorem dX6_sweep_5 : decode cX6_sweep 5 = .ok (.getfield 11, 3) := by decide +kernel
theorem dX6_sweep_8 : decode cX6_sweep 8 = .ok (.invokevirtual 194, 3) := by decide +kernel
theorem dX6_sweep_11 : decode cX6_sweep 11 = .ok (.aload_n 0, 1) := by decide +kernel
theorem dX6_sweep_12 : decode cX6_sweep 12 = .ok (.getfield 35, 3) := by decide +kernel
theorem dX6_sweep_15 : decode cX6_sweep 15 = .ok (.aload_n 0, 1) := by decide +kernel
theorem dX6_sweep_16 : decode cX6_sweep 16 = .ok (.getfield 56, 3) := by decide +kernel
theorem dX6_sweep_19 : decode cX6_sweep 19 = .ok (.invokevirtual 198, 3) := by decide +kernel
theorem dX6_sweep_22 : decode cX6_sweep 22 = .ok (.ireturn, 1) := by decide +kernel
theorem dX6_entry_0 : decode cX6_entry 0 = .ok (.iload_n 2, 1) := by decide +kernel
theorem dX6_entry_1 : decode cX6_entry 1 = .ok (.ifCond .lt 8, 3) := by decide +kernel
theorem dX6_entry_4 : decode cX6_entry 4 = .ok (.iload_n 2, 1) := by decide +kernel
theorem dX6_entry_5 : decode cX6_entry 5 = .ok (.iconst 2, 1) := by decide +kernel
theorem dX6_entry_6 : decode cX6_entry 6 = .ok (.if_icmp .le 6, 3) := by decide +kernel
theorem dX6_entry_9 : decode cX6_entry 9 = .ok (.bipush (-2), 2) := by decide +kernel
theorem dX6_entry_11 : decode cX6_entry 11 = .ok (.ireturn, 1) := by decide +kernel
theorem dX6_entry_12 : decode cX6_entry 12 = .ok (.aload_n 0, 1) := by decide +kernel
theorem dX6_entry_13 : decode cX6_entry 13 = .ok (.getfield 35, 3) := by decide +kernel
theorem dX6_entry_16 : decode cX6_entry 16 = .ok (.iload_n 1, 1) := by decide +kernel
theorem dX6_entry_17 : decode cX6_entry 17 = .ok (.invokevirtual 188, 3) := by decide +kernel
theorem dX6_entry_20 : decode cX6_entry 20 = .ok (.astore_n 3, 1) := by decide +kernel
theorem dX6_entry_21 : decode cX6_entry 21 = .ok (.aload_n 3, 1) := by decide +kernel
theorem dX6_entry_22 : decode cX6_entry 22 = .ok (.ifnonnull 6, 3) := by decide +kernel
theorem dX6_entry_25 : decode cX6_entry 25 = .ok (.bipush (-6), 2) := by decide +kernel
theorem dX6_entry_27 : decode cX6_entry 27 = .ok (.ireturn, 1) := by decide +kernel
theorem dX6_entry_28 : decode cX6_entry 28 = .ok (.iload_n 2, 1) := by decide +kernel
theorem dX6_entry_29 : decode cX6_entry 29 = .ok (.lookupswitch 41 #[(0, 27), (1, 36)], 27) := by decide +kernel
theorem dX6_entry_56 : decode cX6_entry 56 = .ok (.aload_n 0, 1) := by decide +kernel
theorem dX6_entry_57 : decode cX6_entry 57 = .ok (.getfield 35, 3) := by decide +kernel
theorem dX6_entry_60 : decode cX6_entry 60 = .ok (.iload_n 1, 1) := by decide +kernel
theorem dX6_entry_61 : decode cX6_entry 61 = .ok (.invokevirtual 191, 3) := by decide +kernel
theorem dX6_entry_64 : decode cX6_entry 64 = .ok (.ireturn, 1) := by decide +kernel
theorem dX6_entry_65 : decode cX6_entry 65 = .ok (.aload_n 3, 1) := by decide +kernel
theorem dX6_entry_66 : decode cX6_entry 66 = .ok (.getfield 109, 3) := by decide +kernel
theorem dX6_entry_69 : decode cX6_entry 69 = .ok (.ireturn, 1) := by decide +kernel
theorem dX6_entry_70 : decode cX6_entry 70 = .ok (.aload_n 0, 1) := by decide +kernel
theorem dX6_entry_71 : decode cX6_entry 71 = .ok (.aload_n 3, 1) := by decide +kernel
theorem dX6_entry_72 : decode cX6_entry 72 = .ok (.invokevirtual 202, 3) := by decide +kernel
theorem dX6_entry_75 : decode cX6_entry 75 = .ok (.ireturn, 1) := by decide +kernel
theorem dX6_count_0 : decode cX6_count 0 = .ok (.iload_n 1, 1) := by decide +kernel
theorem dX6_count_1 : decode cX6_count 1 = .ok (.tableswitch 106 0 5 #[39, 58, 77, 85, 93, 101], 39) := by decide +kernel
theorem dX6_count_40 : decode cX6_count 40 = .ok (.aload_n 0, 1) := by decide +kernel
theorem dX6_count_41 : decode cX6_count 41 = .ok (.getfield 56, 3) := by decide +kernel
theorem dX6_count_44 : decode cX6_count 44 = .ok (.aload_n 0, 1) := by decide +kernel
theorem dX6_count_45 : decode cX6_count 45 = .ok (.getfield 11, 3) := by decide +kernel
theorem dX6_count_48 : decode cX6_count 48 = .ok (.invokevirtual 194, 3) := by decide +kernel
theorem dX6_count_51 : decode cX6_count 51 = .ok (.aload_n 0, 1) := by decide +kernel
theorem dX6_count_52 : decode cX6_count 52 = .ok (.getfield 56, 3) := by decide +kernel
theorem dX6_count_55 : decode cX6_count 55 = .ok (.getfield 148, 3) := by decide +kernel
theorem dX6_count_58 : decode cX6_count 58 = .ok (.ireturn, 1) := by decide +kernel
theorem dX6_count_59 : decode cX6_count 59 = .ok (.aload_n 0, 1) := by decide +kernel
theorem dX6_count_60 : decode cX6_count 60 = .ok (.getfield 56, 3) := by decide +kernel
theorem dX6_count_63 : decode cX6_count 63 = .ok (.aload_n 0, 1) := by decide +kernel
theorem dX6_count_64 : decode cX6_count 64 = .ok (.getfield 11, 3) := by decide +kernel
theorem dX6_count_67 : decode cX6_count 67 = .ok (.invokevirtual 194, 3) := by decide +kernel
theorem dX6_count_70 : decode cX6_count 70 = .ok (.aload_n 0, 1) := by decide +kernel
theorem dX6_count_71 : decode cX6_count 71 = .ok (.getfield 56, 3) := by decide +kernel
theorem dX6_count_74 : decode cX6_count 74 = .ok (.getfield 151, 3) := by decide +kernel
theorem dX6_count_77 : decode cX6_count 77 = .ok (.ireturn, 1) := by decide +kernel
theorem dX6_count_78 : decode cX6_count 78 = .ok (.aload_n 0, 1) := by decide +kernel
theorem dX6_count_79 : decode cX6_count 79 = .ok (.getfield 35, 3) := by decide +kernel
theorem dX6_count_82 : decode cX6_count 82 = .ok (.getfield 205, 3) := by decide +kernel
theorem dX6_count_85 : decode cX6_count 85 = .ok (.ireturn, 1) := by decide +kernel
theorem dX6_count_86 : decode cX6_count 86 = .ok (.aload_n 0, 1) := by decide +kernel
theorem dX6_count_87 : decode cX6_count 87 = .ok (.getfield 35, 3) := by decide +kernel
theorem dX6_count_90 : decode cX6_count 90 = .ok (.getfield 208, 3) := by decide +kernel
theorem dX6_count_93 : decode cX6_count 93 = .ok (.ireturn, 1) := by decide +kernel
theorem dX6_count_94 : decode cX6_count 94 = .ok (.aload_n 0, 1) := by decide +kernel
theorem dX6_count_95 : decode cX6_count 95 = .ok (.getfield 28, 3) := by decide +kernel
theorem dX6_count_98 : decode cX6_count 98 = .ok (.getfield 84, 3) := by decide +kernel
theorem dX6_count_101 : decode cX6_count 101 = .ok (.ireturn, 1) := by decide +kernel
theorem dX6_count_102 : decode cX6_count 102 = .ok (.aload_n 0, 1) := by decide +kernel
theorem dX6_count_103 : decode cX6_count 103 = .ok (.getfield 21, 3) := by decide +kernel
theorem dX6_count_106 : decode cX6_count 106 = .ok (.ireturn, 1) := by decide +kernel
theorem dX6_count_107 : decode cX6_count 107 = .ok (.iload_n 1, 1) := by decide +kernel
theorem dX6_count_108 : decode cX6_count 108 = .ok (.bipush 10, 2) := by decide +kernel
theorem dX6_count_110 : decode cX6_count 110 = .ok (.isub, 1) := by decide +kernel
theorem dX6_count_111 : decode cX6_count 111 = .ok (.istore_n 2, 1) := by decide +kernel
theorem dX6_count_112 : decode cX6_count 112 = .ok (.iload_n 2, 1) := by decide +kernel
theorem dX6_count_113 : decode cX6_count 113 = .ok (.invokestatic 70, 3) := by decide +kernel
theorem dX6_count_116 : decode cX6_count 116 = .ok (.ifCond .eq 15, 3) := by decide +kernel
theorem dX6_count_119 : decode cX6_count 119 = .ok (.aload_n 0, 1) := by decide +kernel
theorem dX6_count_120 : decode cX6_count 120 = .ok (.getfield 49, 3) := by decide +kernel
theorem dX6_count_123 : decode cX6_count 123 = .ok (.getfield 81, 3) := by decide +kernel
theorem dX6_count_126 : decode cX6_count 126 = .ok (.iload_n 2, 1) := by decide +kernel
theorem dX6_count_127 : decode cX6_count 127 = .ok (.iaload, 1) := by decide +kernel
theorem dX6_count_128 : decode cX6_count 128 = .ok (.goto 5, 3) := by decide +kernel
theorem dX6_count_131 : decode cX6_count 131 = .ok (.bipush (-2), 2) := by decide +kernel
theorem dX6_count_133 : decode cX6_count 133 = .ok (.ireturn, 1) := by decide +kernel
theorem dX6_image_0 : decode cX6_image 0 = .ok (.iload_n 1, 1) := by decide +kernel
theorem dX6_image_1 : decode cX6_image 1 = .ok (.invokestatic 211, 3) := by decide +kernel
theorem dX6_image_4 : decode cX6_image 4 = .ok (.ifCond .ne 6, 3) := by decide +kernel
theorem dX6_image_7 : decode cX6_image 7 = .ok (.bipush (-2), 2) := by decide +kernel
theorem dX6_image_9 : decode cX6_image 9 = .ok (.ireturn, 1) := by decide +kernel
theorem dX6_image_10 : decode cX6_image 10 = .ok (.aload_n 0, 1) := by decide +kernel
theorem dX6_image_11 : decode cX6_image 11 = .ok (.getfield 11, 3) := by decide +kernel
theorem dX6_image_14 : decode cX6_image 14 = .ok (.aload_n 0, 1) := by decide +kernel
theorem dX6_image_15 : decode cX6_image 15 = .ok (.iload_n 1, 1) := by decide +kernel
theorem dX6_image_16 : decode cX6_image 16 = .ok (.invokevirtual 214, 3) := by decide +kernel
theorem dX6_image_19 : decode cX6_image 19 = .ok (.invokestatic 218, 3) := by decide +kernel
theorem dX6_image_22 : decode cX6_image 22 = .ok (.aload_n 0, 1) := by decide +kernel
theorem dX6_image_23 : decode cX6_image 23 = .ok (.dup, 1) := by decide +kernel
theorem dX6_image_24 : decode cX6_image 24 = .ok (.getfield 21, 3) := by decide +kernel
theorem dX6_image_27 : decode cX6_image 27 = .ok (.iconst 1, 1) := by decide +kernel
theorem dX6_image_28 : decode cX6_image 28 = .ok (.iload_n 1, 1) := by decide +kernel
theorem dX6_image_29 : decode cX6_image 29 = .ok (.ishl, 1) := by decide +kernel
theorem dX6_image_30 : decode cX6_image 30 = .ok (.ior, 1) := by decide +kernel
theorem dX6_image_31 : decode cX6_image 31 = .ok (.putfield 21, 3) := by decide +kernel
theorem dX6_image_34 : decode cX6_image 34 = .ok (.iconst 1, 1) := by decide +kernel
theorem dX6_image_35 : decode cX6_image 35 = .ok (.ireturn, 1) := by decide +kernel
theorem dX6_restore_0 : decode cX6_restore 0 = .ok (.iload_n 1, 1) := by decide +kernel
theorem dX6_restore_1 : decode cX6_restore 1 = .ok (.invokestatic 211, 3) := by decide +kernel
theorem dX6_restore_4 : decode cX6_restore 4 = .ok (.ifCond .ne 6, 3) := by decide +kernel
theorem dX6_restore_7 : decode cX6_restore 7 = .ok (.bipush (-2), 2) := by decide +kernel
theorem dX6_restore_9 : decode cX6_restore 9 = .ok (.ireturn, 1) := by decide +kernel
theorem dX6_restore_10 : decode cX6_restore 10 = .ok (.aload_n 0, 1) := by decide +kernel
theorem dX6_restore_11 : decode cX6_restore 11 = .ok (.getfield 21, 3) := by decide +kernel
theorem dX6_restore_14 : decode cX6_restore 14 = .ok (.iconst 1, 1) := by decide +kernel
theorem dX6_restore_15 : decode cX6_restore 15 = .ok (.iload_n 1, 1) := by decide +kernel
theorem dX6_restore_16 : decode cX6_restore 16 = .ok (.ishl, 1) := by decide +kernel
theorem dX6_restore_17 : decode cX6_restore 17 = .ok (.iand, 1) := by decide +kernel
theorem dX6_restore_18 : decode cX6_restore 18 = .ok (.ifCond .ne 6, 3) := by decide +kernel
theorem dX6_restore_21 : decode cX6_restore 21 = .ok (.bipush (-3), 2) := by decide +kernel
theorem dX6_restore_23 : decode cX6_restore 23 = .ok (.ireturn, 1) := by decide +kernel
theorem dX6_restore_24 : decode cX6_restore 24 = .ok (.aload_n 0, 1) := by decide +kernel
theorem dX6_restore_25 : decode cX6_restore 25 = .ok (.iload_n 1, 1) := by decide +kernel
theorem dX6_restore_26 : decode cX6_restore 26 = .ok (.invokevirtual 214, 3) := by decide +kernel
theorem dX6_restore_29 : decode cX6_restore 29 = .ok (.aload_n 0, 1) := by decide +kernel
theorem dX6_restore_30 : decode cX6_restore 30 = .ok (.getfield 11, 3) := by decide +kernel
theorem dX6_restore_33 : decode cX6_restore 33 = .ok (.invokestatic 218, 3) := by decide +kernel
theorem dX6_restore_36 : decode cX6_restore 36 = .ok (.iconst 1, 1) := by decide +kernel
theorem dX6_restore_37 : decode cX6_restore 37 = .ok (.ireturn, 1) := by decide +kernel
theorem dX6_isSlot_0 : decode cX6_isSlot 0 = .ok (.iload_n 0, 1) := by decide +kernel
theorem dX6_isSlot_1 : decode cX6_isSlot 1 = .ok (.ifCond .lt 13, 3) := by decide +kernel
theorem dX6_isSlot_4 : decode cX6_isSlot 4 = .ok (.iload_n 0, 1) := by decide +kernel
theorem dX6_isSlot_5 : decode cX6_isSlot 5 = .ok (.bipush 8, 2) := by decide +kernel
theorem dX6_isSlot_7 : decode cX6_isSlot 7 = .ok (.if_icmp .ge 7, 3) := by decide +kernel
theorem dX6_isSlot_10 : decode cX6_isSlot 10 = .ok (.iconst 1, 1) := by decide +kernel
theorem dX6_isSlot_11 : decode cX6_isSlot 11 = .ok (.goto 4, 3) := by decide +kernel
theorem dX6_isSlot_14 : decode cX6_isSlot 14 = .ok (.iconst 0, 1) := by decide +kernel
theorem dX6_isSlot_15 : decode cX6_isSlot 15 = .ok (.ireturn, 1) := by decide +kernel
theorem dX6_isRule_0 : decode cX6_isRule 0 = .ok (.iload_n 0, 1) := by decide +kernel
theorem dX6_isRule_1 : decode cX6_isRule 1 = .ok (.ifCond .lt 12, 3) := by decide +kernel
theorem dX6_isRule_4 : decode cX6_isRule 4 = .ok (.iload_n 0, 1) := by decide +kernel
theorem dX6_isRule_5 : decode cX6_isRule 5 = .ok (.iconst 2, 1) := by decide +kernel
theorem dX6_isRule_6 : decode cX6_isRule 6 = .ok (.if_icmp .gt 7, 3) := by decide +kernel
theorem dX6_isRule_9 : decode cX6_isRule 9 = .ok (.iconst 1, 1) := by decide +kernel
theorem dX6_isRule_10 : decode cX6_isRule 10 = .ok (.goto 4, 3) := by decide +kernel
theorem dX6_isRule_13 : decode cX6_isRule 13 = .ok (.iconst 0, 1) := by decide +kernel
theorem dX6_isRule_14 : decode cX6_isRule 14 = .ok (.ireturn, 1) := by decide +kernel
theorem dX6_isImage_0 : decode cX6_isImage 0 = .ok (.iload_n 0, 1) := by decide +kernel
theorem dX6_isImage_1 : decode cX6_isImage 1 = .ok (.ifCond .lt 12, 3) := by decide +kernel
theorem dX6_isImage_4 : decode cX6_isImage 4 = .ok (.iload_n 0, 1) := by decide +kernel
theorem dX6_isImage_5 : decode cX6_isImage 5 = .ok (.iconst 2, 1) := by decide +kernel
theorem dX6_isImage_6 : decode cX6_isImage 6 = .ok (.if_icmp .ge 7, 3) := by decide +kernel
theorem dX6_isImage_9 : decode cX6_isImage 9 = .ok (.iconst 1, 1) := by decide +kernel
theorem dX6_isImage_10 : decode cX6_isImage 10 = .ok (.goto 4, 3) := by decide +kernel
theorem dX6_isImage_13 : decode cX6_isImage 13 = .ok (.iconst 0, 1) := by decide +kernel
theorem dX6_isImage_14 : decode cX6_isImage 14 = .ok (.ireturn, 1) := by decide +kernel
theorem dX6_asNumber_0 : decode cX6_asNumber 0 = .ok (.iload_n 0, 1) := by decide +kernel
theorem dX6_asNumber_1 : decode cX6_asNumber 1 = .ok (.ifCond .eq 7, 3) := by decide +kernel
theorem dX6_asNumber_4 : decode cX6_asNumber 4 = .ok (.iconst 1, 1) := by decide +kernel
theorem dX6_asNumber_5 : decode cX6_asNumber 5 = .ok (.goto 4, 3) := by decide +kernel
theorem dX6_asNumber_8 : decode cX6_asNumber 8 = .ok (.iconst 0, 1) := by decide +kernel
theorem dX6_asNumber_9 : decode cX6_asNumber 9 = .ok (.ireturn, 1) := by decide +kernel
theorem dX6_cellOf_0 : decode cX6_cellOf 0 = .ok (.iload_n 1, 1) := by decide +kernel
theorem dX6_cellOf_1 : decode cX6_cellOf 1 = .ok (.invokestatic 91, 3) := by decide +kernel
theorem dX6_cellOf_4 : decode cX6_cellOf 4 = .ok (.ifCond .eq 12, 3) := by decide +kernel
theorem dX6_cellOf_7 : decode cX6_cellOf 7 = .ok (.aload_n 0, 1) := by decide +kernel
theorem dX6_cellOf_8 : decode cX6_cellOf 8 = .ok (.getfield 11, 3) := by decide +kernel
theorem dX6_cellOf_11 : decode cX6_cellOf 11 = .ok (.iload_n 1, 1) := by decide +kernel
theorem dX6_cellOf_12 : decode cX6_cellOf 12 = .ok (.aaload, 1) := by decide +kernel
theorem dX6_cellOf_13 : decode cX6_cellOf 13 = .ok (.goto 4, 3) := by decide +kernel
theorem dX6_cellOf_16 : decode cX6_cellOf 16 = .ok (.aconst_null, 1) := by decide +kernel
theorem dX6_cellOf_17 : decode cX6_cellOf 17 = .ok (.areturn, 1) := by decide +kernel
theorem dX6_hold_0 : decode cX6_hold 0 = .ok (.iload_n 1, 1) := by decide +kernel
theorem dX6_hold_1 : decode cX6_hold 1 = .ok (.invokestatic 91, 3) := by decide +kernel
theorem dX6_hold_4 : decode cX6_hold 4 = .ok (.ifCond .eq 7, 3) := by decide +kernel
theorem dX6_hold_7 : decode cX6_hold 7 = .ok (.aload_n 2, 1) := by decide +kernel
theorem dX6_hold_8 : decode cX6_hold 8 = .ok (.ifnonnull 5, 3) := by decide +kernel
theorem dX6_hold_11 : decode cX6_hold 11 = .ok (.iconst (-1), 1) := by decide +kernel
theorem dX6_hold_12 : decode cX6_hold 12 = .ok (.ireturn, 1) := by decide +kernel
theorem dX6_hold_13 : decode cX6_hold 13 = .ok (.aload_n 0, 1) := by decide +kernel
theorem dX6_hold_14 : decode cX6_hold 14 = .ok (.getfield 11, 3) := by decide +kernel
theorem dX6_hold_17 : decode cX6_hold 17 = .ok (.iload_n 1, 1) := by decide +kernel
theorem dX6_hold_18 : decode cX6_hold 18 = .ok (.aload_n 2, 1) := by decide +kernel
theorem dX6_hold_19 : decode cX6_hold 19 = .ok (.aastore, 1) := by decide +kernel
theorem dX6_hold_20 : decode cX6_hold 20 = .ok (.aload_n 2, 1) := by decide +kernel
theorem dX6_hold_21 : decode cX6_hold 21 = .ok (.getfield 109, 3) := by decide +kernel
theorem dX6_hold_24 : decode cX6_hold 24 = .ok (.ireturn, 1) := by decide +kernel
theorem dX6_compareTexts_0 : decode cX6_compareTexts 0 = .ok (.iload_n 1, 1) := by decide +kernel
theorem dX6_compareTexts_1 : decode cX6_compareTexts 1 = .ok (.tableswitch 70 0 3 #[31, 70, 46, 58], 31) := by decide +kernel
theorem dX6_compareTexts_32 : decode cX6_compareTexts 32 = .ok (.aload_n 0, 1) := by decide +kernel
theorem dX6_compareTexts_33 : decode cX6_compareTexts 33 = .ok (.getfield 60, 3) := by decide +kernel
theorem dX6_compareTexts_36 : decode cX6_compareTexts 36 = .ok (.aload_n 0, 1) := by decide +kernel
theorem dX6_compareTexts_37 : decode cX6_compareTexts 37 = .ok (.getfield 63, 3) := by decide +kernel
theorem dX6_compareTexts_40 : decode cX6_compareTexts 40 = .ok (.invokevirtual 222, 3) := by decide +kernel
theorem dX6_compareTexts_43 : decode cX6_compareTexts 43 = .ok (.invokestatic 158, 3) := by decide +kernel
theorem dX6_compareTexts_46 : decode cX6_compareTexts 46 = .ok (.ireturn, 1) := by decide +kernel
theorem dX6_compareTexts_47 : decode cX6_compareTexts 47 = .ok (.aload_n 0, 1) := by decide +kernel
theorem dX6_compareTexts_48 : decode cX6_compareTexts 48 = .ok (.getfield 60, 3) := by decide +kernel
theorem dX6_compareTexts_51 : decode cX6_compareTexts 51 = .ok (.aload_n 0, 1) := by decide +kernel
theorem dX6_compareTexts_52 : decode cX6_compareTexts 52 = .ok (.getfield 63, 3) := by decide +kernel
theorem dX6_compareTexts_55 : decode cX6_compareTexts 55 = .ok (.invokevirtual 226, 3) := by decide +kernel
theorem dX6_compareTexts_58 : decode cX6_compareTexts 58 = .ok (.ireturn, 1) := by decide +kernel
theorem dX6_compareTexts_59 : decode cX6_compareTexts 59 = .ok (.aload_n 0, 1) := by decide +kernel
theorem dX6_compareTexts_60 : decode cX6_compareTexts 60 = .ok (.getfield 60, 3) := by decide +kernel
theorem dX6_compareTexts_63 : decode cX6_compareTexts 63 = .ok (.aload_n 0, 1) := by decide +kernel
theorem dX6_compareTexts_64 : decode cX6_compareTexts 64 = .ok (.getfield 63, 3) := by decide +kernel
theorem dX6_compareTexts_67 : decode cX6_compareTexts 67 = .ok (.invokevirtual 230, 3) := by decide +kernel
theorem dX6_compareTexts_70 : decode cX6_compareTexts 70 = .ok (.ireturn, 1) := by decide +kernel
theorem dX6_compareTexts_71 : decode cX6_compareTexts 71 = .ok (.aload_n 0, 1) := by decide +kernel
theorem dX6_compareTexts_72 : decode cX6_compareTexts 72 = .ok (.getfield 60, 3) := by decide +kernel
theorem dX6_compareTexts_75 : decode cX6_compareTexts 75 = .ok (.aload_n 0, 1) := by decide +kernel
theorem dX6_compareTexts_76 : decode cX6_compareTexts 76 = .ok (.getfield 63, 3) := by decide +kernel
theorem dX6_compareTexts_79 : decode cX6_compareTexts 79 = .ok (.invokevirtual 233, 3) := by decide +kernel
theorem dX6_compareTexts_82 : decode cX6_compareTexts 82 = .ok (.invokestatic 158, 3) := by decide +kernel
theorem dX6_compareTexts_85 : decode cX6_compareTexts 85 = .ok (.ireturn, 1) := by decide +kernel
