theorem dX12_named_3 : decode cX12_named 3 = .ok (.aload_n 0, 1) := by decide +kernel
theorem dX12_named_4 : decode cX12_named 4 = .ok (.getfield 63, 3) := by decide +kernel
theorem dX12_named_7 : decode cX12_named 7 = .ok (.aload_n 0, 1) := by decide +kernel
theorem dX12_named_8 : decode cX12_named 8 = .ok (.getfield 103, 3) := by decide +kernel
theorem dX12_named_11 : decode cX12_named 11 = .ok (.iaload, 1) := by decide +kernel
theorem dX12_named_12 : decode cX12_named 12 = .ok (.if_icmp .ge 30, 3) := by decide +kernel
theorem dX12_named_15 : decode cX12_named 15 = .ok (.aload_n 0, 1) := by decide +kernel
theorem dX12_named_16 : decode cX12_named 16 = .ok (.getfield 96, 3) := by decide +kernel
theorem dX12_named_19 : decode cX12_named 19 = .ok (.bipush 6, 2) := by decide +kernel
theorem dX12_named_21 : decode cX12_named 21 = .ok (.aload_n 0, 1) := by decide +kernel
theorem dX12_named_22 : decode cX12_named 22 = .ok (.getfield 103, 3) := by decide +kernel
theorem dX12_named_25 : decode cX12_named 25 = .ok (.imul, 1) := by decide +kernel
theorem dX12_named_26 : decode cX12_named 26 = .ok (.iload_n 3, 1) := by decide +kernel
theorem dX12_named_27 : decode cX12_named 27 = .ok (.iadd, 1) := by decide +kernel
theorem dX12_named_28 : decode cX12_named 28 = .ok (.laload, 1) := by decide +kernel
theorem dX12_named_29 : decode cX12_named 29 = .ok (.lload_n 1, 1) := by decide +kernel
theorem dX12_named_30 : decode cX12_named 30 = .ok (.lcmp, 1) := by decide +kernel
theorem dX12_named_31 : decode cX12_named 31 = .ok (.ifCond .ne 5, 3) := by decide +kernel
theorem dX12_named_34 : decode cX12_named 34 = .ok (.iload_n 3, 1) := by decide +kernel
theorem dX12_named_35 : decode cX12_named 35 = .ok (.ireturn, 1) := by decide +kernel
theorem dX12_named_36 : decode cX12_named 36 = .ok (.iinc 3 1, 3) := by decide +kernel
theorem dX12_named_39 : decode cX12_named 39 = .ok (.goto (-37), 3) := by decide +kernel
theorem dX12_named_42 : decode cX12_named 42 = .ok (.iconst (-1), 1) := by decide +kernel
theorem dX12_named_43 : decode cX12_named 43 = .ok (.ireturn, 1) := by decide +kernel
theorem dX12_number_0 : decode cX12_number 0 = .ok (.aload_n 0, 1) := by decide +kernel
theorem dX12_number_1 : decode cX12_number 1 = .ok (.invokevirtual 253, 3) := by decide +kernel
theorem dX12_number_4 : decode cX12_number 4 = .ok (.aload_n 0, 1) := by decide +kernel
theorem dX12_number_5 : decode cX12_number 5 = .ok (.getfield 36, 3) := by decide +kernel
theorem dX12_number_8 : decode cX12_number 8 = .ok (.ifCond .le 5, 3) := by decide +kernel
theorem dX12_number_11 : decode cX12_number 11 = .ok (.iconst 0, 1) := by decide +kernel
theorem dX12_number_12 : decode cX12_number 12 = .ok (.ireturn, 1) := by decide +kernel
theorem dX12_number_13 : decode cX12_number 13 = .ok (.aload_n 0, 1) := by decide +kernel
theorem dX12_number_14 : decode cX12_number 14 = .ok (.getfield 20, 3) := by decide +kernel
theorem dX12_number_17 : decode cX12_number 17 = .ok (.iconst 2, 1) := by decide +kernel
theorem dX12_number_18 : decode cX12_number 18 = .ok (.if_icmp .eq 12, 3) := by decide +kernel
theorem dX12_number_21 : decode cX12_number 21 = .ok (.aload_n 0, 1) := by decide +kernel
theorem dX12_number_22 : decode cX12_number 22 = .ok (.iconst 1, 1) := by decide +kernel
theorem dX12_number_23 : decode cX12_number 23 = .ok (.aload_n 0, 1) := by decide +kernel
theorem dX12_number_24 : decode cX12_number 24 = .ok (.getfield 23, 3) := by decide +kernel
theorem dX12_number_27 : decode cX12_number 27 = .ok (.invokevirtual 242, 3) := by decide +kernel
theorem dX12_number_30 : decode cX12_number 30 = .ok (.aload_n 0, 1) := by decide +kernel
theorem dX12_number_31 : decode cX12_number 31 = .ok (.getfield 36, 3) := by decide +kernel
theorem dX12_number_34 : decode cX12_number 34 = .ok (.ifCond .ne 24, 3) := by decide +kernel
theorem dX12_number_37 : decode cX12_number 37 = .ok (.aload_n 0, 1) := by decide +kernel
theorem dX12_number_38 : decode cX12_number 38 = .ok (.getfield 29, 3) := by decide +kernel
theorem dX12_number_41 : decode cX12_number 41 = .ok (.iload_n 1, 1) := by decide +kernel
theorem dX12_number_42 : decode cX12_number 42 = .ok (.iload_n 2, 1) := by decide +kernel
theorem dX12_number_43 : decode cX12_number 43 = .ok (.invokestatic 318, 3) := by decide +kernel
theorem dX12_number_46 : decode cX12_number 46 = .ok (.ifCond .ne 12, 3) := by decide +kernel
theorem dX12_number_49 : decode cX12_number 49 = .ok (.aload_n 0, 1) := by decide +kernel
theorem dX12_number_50 : decode cX12_number 50 = .ok (.iconst 4, 1) := by decide +kernel
theorem dX12_number_51 : decode cX12_number 51 = .ok (.aload_n 0, 1) := by decide +kernel
theorem dX12_number_52 : decode cX12_number 52 = .ok (.getfield 23, 3) := by decide +kernel
theorem dX12_number_55 : decode cX12_number 55 = .ok (.invokevirtual 242, 3) := by decide +kernel
theorem dX12_number_58 : decode cX12_number 58 = .ok (.aload_n 0, 1) := by decide +kernel
theorem dX12_number_59 : decode cX12_number 59 = .ok (.getfield 29, 3) := by decide +kernel
theorem dX12_number_62 : decode cX12_number 62 = .ok (.istore_n 3, 1) := by decide +kernel
theorem dX12_number_63 : decode cX12_number 63 = .ok (.aload_n 0, 1) := by decide +kernel
theorem dX12_number_64 : decode cX12_number 64 = .ok (.getfield 36, 3) := by decide +kernel
theorem dX12_number_67 : decode cX12_number 67 = .ok (.ifCond .ne 7, 3) := by decide +kernel
theorem dX12_number_70 : decode cX12_number 70 = .ok (.aload_n 0, 1) := by decide +kernel
theorem dX12_number_71 : decode cX12_number 71 = .ok (.invokevirtual 259, 3) := by decide +kernel
theorem dX12_number_74 : decode cX12_number 74 = .ok (.iload_n 3, 1) := by decide +kernel
theorem dX12_number_75 : decode cX12_number 75 = .ok (.ireturn, 1) := by decide +kernel
theorem dX12_add_0 : decode cX12_add 0 = .ok (.aload_n 0, 1) := by decide +kernel
theorem dX12_add_1 : decode cX12_add 1 = .ok (.getfield 90, 3) := by decide +kernel
theorem dX12_add_4 : decode cX12_add 4 = .ok (.sipush 1600, 3) := by decide +kernel
theorem dX12_add_7 : decode cX12_add 7 = .ok (.aload_n 0, 1) := by decide +kernel
theorem dX12_add_8 : decode cX12_add 8 = .ok (.getfield 103, 3) := by decide +kernel
theorem dX12_add_11 : decode cX12_add 11 = .ok (.imul, 1) := by decide +kernel
theorem dX12_add_12 : decode cX12_add 12 = .ok (.aload_n 0, 1) := by decide +kernel
theorem dX12_add_13 : decode cX12_add 13 = .ok (.getfield 100, 3) := by decide +kernel
theorem dX12_add_16 : decode cX12_add 16 = .ok (.iadd, 1) := by decide +kernel
theorem dX12_add_17 : decode cX12_add 17 = .ok (.iload_n 1, 1) := by decide +kernel
theorem dX12_add_18 : decode cX12_add 18 = .ok (.iastore, 1) := by decide +kernel
theorem dX12_add_19 : decode cX12_add 19 = .ok (.aload_n 0, 1) := by decide +kernel
theorem dX12_add_20 : decode cX12_add 20 = .ok (.getfield 93, 3) := by decide +kernel
theorem dX12_add_23 : decode cX12_add 23 = .ok (.sipush 1600, 3) := by decide +kernel
theorem dX12_add_26 : decode cX12_add 26 = .ok (.aload_n 0, 1) := by decide +kernel
theorem dX12_add_27 : decode cX12_add 27 = .ok (.getfield 103, 3) := by decide +kernel
theorem dX12_add_30 : decode cX12_add 30 = .ok (.imul, 1) := by decide +kernel
theorem dX12_add_31 : decode cX12_add 31 = .ok (.aload_n 0, 1) := by decide +kernel
theorem dX12_add_32 : decode cX12_add 32 = .ok (.getfield 100, 3) := by decide +kernel
theorem dX12_add_35 : decode cX12_add 35 = .ok (.iadd, 1) := by decide +kernel
theorem dX12_add_36 : decode cX12_add 36 = .ok (.iload_n 2, 1) := by decide +kernel
theorem dX12_add_37 : decode cX12_add 37 = .ok (.iastore, 1) := by decide +kernel
theorem dX12_add_38 : decode cX12_add 38 = .ok (.aload_n 0, 1) := by decide +kernel
theorem dX12_add_39 : decode cX12_add 39 = .ok (.dup, 1) := by decide +kernel
theorem dX12_add_40 : decode cX12_add 40 = .ok (.getfield 100, 3) := by decide +kernel
theorem dX12_add_43 : decode cX12_add 43 = .ok (.iconst 1, 1) := by decide +kernel
theorem dX12_add_44 : decode cX12_add 44 = .ok (.iadd, 1) := by decide +kernel
theorem dX12_add_45 : decode cX12_add 45 = .ok (.putfield 100, 3) := by decide +kernel
theorem dX12_add_48 : decode cX12_add 48 = .ok (.return_, 1) := by decide +kernel
theorem dX12_rank_0 : decode cX12_rank 0 = .ok (.iload_n 0, 1) := by decide +kernel
theorem dX12_rank_1 : decode cX12_rank 1 = .ok (.bipush 42, 2) := by decide +kernel
theorem dX12_rank_3 : decode cX12_rank 3 = .ok (.if_icmp .ne 7, 3) := by decide +kernel
theorem dX12_rank_6 : decode cX12_rank 6 = .ok (.iconst 1, 1) := by decide +kernel
theorem dX12_rank_7 : decode cX12_rank 7 = .ok (.goto 63, 3) := by decide +kernel
theorem dX12_rank_10 : decode cX12_rank 10 = .ok (.iload_n 0, 1) := by decide +kernel
theorem dX12_rank_11 : decode cX12_rank 11 = .ok (.bipush 41, 2) := by decide +kernel
theorem dX12_rank_13 : decode cX12_rank 13 = .ok (.if_icmp .ne 7, 3) := by decide +kernel
theorem dX12_rank_16 : decode cX12_rank 16 = .ok (.iconst 2, 1) := by decide +kernel
theorem dX12_rank_17 : decode cX12_rank 17 = .ok (.goto 53, 3) := by decide +kernel
theorem dX12_rank_20 : decode cX12_rank 20 = .ok (.iload_n 0, 1) := by decide +kernel
theorem dX12_rank_21 : decode cX12_rank 21 = .ok (.bipush 43, 2) := by decide +kernel
theorem dX12_rank_23 : decode cX12_rank 23 = .ok (.if_icmp .ne 7, 3) := by decide +kernel
theorem dX12_rank_26 : decode cX12_rank 26 = .ok (.iconst 3, 1) := by decide +kernel
theorem dX12_rank_27 : decode cX12_rank 27 = .ok (.goto 43, 3) := by decide +kernel
theorem dX12_rank_30 : decode cX12_rank 30 = .ok (.iload_n 0, 1) := by decide +kernel
theorem dX12_rank_31 : decode cX12_rank 31 = .ok (.bipush 38, 2) := by decide +kernel
theorem dX12_rank_33 : decode cX12_rank 33 = .ok (.if_icmp .eq 15, 3) := by decide +kernel
theorem dX12_rank_36 : decode cX12_rank 36 = .ok (.iload_n 0, 1) := by decide +kernel
theorem dX12_rank_37 : decode cX12_rank 37 = .ok (.bipush 39, 2) := by decide +kernel
theorem dX12_rank_39 : decode cX12_rank 39 = .ok (.if_icmp .eq 9, 3) := by decide +kernel
theorem dX12_rank_42 : decode cX12_rank 42 = .ok (.iload_n 0, 1) := by decide +kernel
theorem dX12_rank_43 : decode cX12_rank 43 = .ok (.bipush 40, 2) := by decide +kernel
theorem dX12_rank_45 : decode cX12_rank 45 = .ok (.if_icmp .ne 7, 3) := by decide +kernel
theorem dX12_rank_48 : decode cX12_rank 48 = .ok (.iconst 4, 1) := by decide +kernel
theorem dX12_rank_49 : decode cX12_rank 49 = .ok (.goto 21, 3) := by decide +kernel
theorem dX12_rank_52 : decode cX12_rank 52 = .ok (.iload_n 0, 1) := by decide +kernel
theorem dX12_rank_53 : decode cX12_rank 53 = .ok (.bipush 31, 2) := by decide +kernel
theorem dX12_rank_55 : decode cX12_rank 55 = .ok (.if_icmp .eq 9, 3) := by decide +kernel
theorem dX12_rank_58 : decode cX12_rank 58 = .ok (.iload_n 0, 1) := by decide +kernel
theorem dX12_rank_59 : decode cX12_rank 59 = .ok (.bipush 32, 2) := by decide +kernel
theorem dX12_rank_61 : decode cX12_rank 61 = .ok (.if_icmp .ne 7, 3) := by decide +kernel
theorem dX12_rank_64 : decode cX12_rank 64 = .ok (.iconst 5, 1) := by decide +kernel
theorem dX12_rank_65 : decode cX12_rank 65 = .ok (.goto 5, 3) := by decide +kernel
theorem dX12_rank_68 : decode cX12_rank 68 = .ok (.bipush 6, 2) := by decide +kernel
theorem dX12_rank_70 : decode cX12_rank 70 = .ok (.ireturn, 1) := by decide +kernel
theorem dX12_joins_0 : decode cX12_joins 0 = .ok (.aload_n 0, 1) := by decide +kernel
theorem dX12_joins_1 : decode cX12_joins 1 = .ok (.getfield 135, 3) := by decide +kernel
theorem dX12_joins_4 : decode cX12_joins 4 = .ok (.aload_n 0, 1) := by decide +kernel
theorem dX12_joins_5 : decode cX12_joins 5 = .ok (.getfield 123, 3) := by decide +kernel
theorem dX12_joins_8 : decode cX12_joins 8 = .ok (.aload_n 0, 1) := by decide +kernel
theorem dX12_joins_9 : decode cX12_joins 9 = .ok (.getfield 126, 3) := by decide +kernel
theorem dX12_joins_12 : decode cX12_joins 12 = .ok (.iconst 1, 1) := by decide +kernel
theorem dX12_joins_13 : decode cX12_joins 13 = .ok (.isub, 1) := by decide +kernel
theorem dX12_joins_14 : decode cX12_joins 14 = .ok (.iaload, 1) := by decide +kernel
theorem dX12_joins_15 : decode cX12_joins 15 = .ok (.if_icmp .le 72, 3) := by decide +kernel
theorem dX12_joins_18 : decode cX12_joins 18 = .ok (.aload_n 0, 1) := by decide +kernel
theorem dX12_joins_19 : decode cX12_joins 19 = .ok (.getfield 132, 3) := by decide +kernel
theorem dX12_joins_22 : decode cX12_joins 22 = .ok (.aload_n 0, 1) := by decide +kernel
theorem dX12_joins_23 : decode cX12_joins 23 = .ok (.getfield 135, 3) := by decide +kernel
theorem dX12_joins_26 : decode cX12_joins 26 = .ok (.iconst 1, 1) := by decide +kernel
theorem dX12_joins_27 : decode cX12_joins 27 = .ok (.isub, 1) := by decide +kernel
theorem dX12_joins_28 : decode cX12_joins 28 = .ok (.iaload, 1) := by decide +kernel
theorem dX12_joins_29 : decode cX12_joins 29 = .ok (.invokestatic 322, 3) := by decide +kernel
theorem dX12_joins_32 : decode cX12_joins 32 = .ok (.iload_n 1, 1) := by decide +kernel
theorem dX12_joins_33 : decode cX12_joins 33 = .ok (.if_icmp .lt 54, 3) := by decide +kernel
theorem dX12_joins_36 : decode cX12_joins 36 = .ok (.aload_n 0, 1) := by decide +kernel
theorem dX12_joins_37 : decode cX12_joins 37 = .ok (.dup, 1) := by decide +kernel
theorem dX12_joins_38 : decode cX12_joins 38 = .ok (.getfield 135, 3) := by decide +kernel
theorem dX12_joins_41 : decode cX12_joins 41 = .ok (.iconst 1, 1) := by decide +kernel
theorem dX12_joins_42 : decode cX12_joins 42 = .ok (.isub, 1) := by decide +kernel
theorem dX12_joins_43 : decode cX12_joins 43 = .ok (.putfield 135, 3) := by decide +kernel
theorem dX12_joins_46 : decode cX12_joins 46 = .ok (.aload_n 0, 1) := by decide +kernel
theorem dX12_joins_47 : decode cX12_joins 47 = .ok (.aload_n 0, 1) := by decide +kernel
theorem dX12_joins_48 : decode cX12_joins 48 = .ok (.getfield 132, 3) := by decide +kernel
theorem dX12_joins_51 : decode cX12_joins 51 = .ok (.aload_n 0, 1) := by decide +kernel
theorem dX12_joins_52 : decode cX12_joins 52 = .ok (.getfield 135, 3) := by decide +kernel
theorem dX12_joins_55 : decode cX12_joins 55 = .ok (.iaload, 1) := by decide +kernel
theorem dX12_joins_56 : decode cX12_joins 56 = .ok (.iconst 0, 1) := by decide +kernel
theorem dX12_joins_57 : decode cX12_joins 57 = .ok (.invokevirtual 325, 3) := by decide +kernel
theorem dX12_joins_60 : decode cX12_joins 60 = .ok (.aload_n 0, 1) := by decide +kernel
theorem dX12_joins_61 : decode cX12_joins 61 = .ok (.getfield 132, 3) := by decide +kernel
theorem dX12_joins_64 : decode cX12_joins 64 = .ok (.aload_n 0, 1) := by decide +kernel
theorem dX12_joins_65 : decode cX12_joins 65 = .ok (.getfield 135, 3) := by decide +kernel
theorem dX12_joins_68 : decode cX12_joins 68 = .ok (.iaload, 1) := by decide +kernel
theorem dX12_joins_69 : decode cX12_joins 69 = .ok (.bipush 43, 2) := by decide +kernel
theorem dX12_joins_71 : decode cX12_joins 71 = .ok (.if_icmp .ne (-71), 3) := by decide +kernel
theorem dX12_joins_74 : decode cX12_joins 74 = .ok (.aload_n 0, 1) := by decide +kernel
theorem dX12_joins_75 : decode cX12_joins 75 = .ok (.dup, 1) := by decide +kernel
theorem dX12_joins_76 : decode cX12_joins 76 = .ok (.getfield 129, 3) := by decide +kernel
theorem dX12_joins_79 : decode cX12_joins 79 = .ok (.iconst 1, 1) := by decide +kernel
theorem dX12_joins_80 : decode cX12_joins 80 = .ok (.isub, 1) := by decide +kernel
theorem dX12_joins_81 : decode cX12_joins 81 = .ok (.putfield 129, 3) := by decide +kernel
theorem dX12_joins_84 : decode cX12_joins 84 = .ok (.goto (-84), 3) := by decide +kernel
theorem dX12_joins_87 : decode cX12_joins 87 = .ok (.return_, 1) := by decide +kernel
theorem dX12_holdsBack_0 : decode cX12_holdsBack 0 = .ok (.aload_n 0, 1) := by decide +kernel
theorem dX12_holdsBack_1 : decode cX12_holdsBack 1 = .ok (.getfield 132, 3) := by decide +kernel
theorem dX12_holdsBack_4 : decode cX12_holdsBack 4 = .ok (.aload_n 0, 1) := by decide +kernel
theorem dX12_holdsBack_5 : decode cX12_holdsBack 5 = .ok (.getfield 135, 3) := by decide +kernel
theorem dX12_holdsBack_8 : decode cX12_holdsBack 8 = .ok (.iload_n 1, 1) := by decide +kernel
theorem dX12_holdsBack_9 : decode cX12_holdsBack 9 = .ok (.iastore, 1) := by decide +kernel
theorem dX12_holdsBack_10 : decode cX12_holdsBack 10 = .ok (.aload_n 0, 1) := by decide +kernel
theorem dX12_holdsBack_11 : decode cX12_holdsBack 11 = .ok (.dup, 1) := by decide +kernel
theorem dX12_holdsBack_12 : decode cX12_holdsBack 12 = .ok (.getfield 135, 3) := by decide +kernel
theorem dX12_holdsBack_15 : decode cX12_holdsBack 15 = .ok (.iconst 1, 1) := by decide +kernel
theorem dX12_holdsBack_16 : decode cX12_holdsBack 16 = .ok (.iadd, 1) := by decide +kernel
theorem dX12_holdsBack_17 : decode cX12_holdsBack 17 = .ok (.putfield 135, 3) := by decide +kernel
theorem dX12_holdsBack_20 : decode cX12_holdsBack 20 = .ok (.return_, 1) := by decide +kernel
theorem dX12_pushes_0 : decode cX12_pushes 0 = .ok (.aload_n 0, 1) := by decide +kernel
theorem dX12_pushes_1 : decode cX12_pushes 1 = .ok (.getfield 110, 3) := by decide +kernel
theorem dX12_pushes_4 : decode cX12_pushes 4 = .ok (.aload_n 0, 1) := by decide +kernel
theorem dX12_pushes_5 : decode cX12_pushes 5 = .ok (.getfield 126, 3) := by decide +kernel
theorem dX12_pushes_8 : decode cX12_pushes 8 = .ok (.iload_n 1, 1) := by decide +kernel
theorem dX12_pushes_9 : decode cX12_pushes 9 = .ok (.iastore, 1) := by decide +kernel
theorem dX12_pushes_10 : decode cX12_pushes 10 = .ok (.aload_n 0, 1) := by decide +kernel
theorem dX12_pushes_11 : decode cX12_pushes 11 = .ok (.getfield 113, 3) := by decide +kernel
theorem dX12_pushes_14 : decode cX12_pushes 14 = .ok (.aload_n 0, 1) := by decide +kernel
theorem dX12_pushes_15 : decode cX12_pushes 15 = .ok (.getfield 126, 3) := by decide +kernel
theorem dX12_pushes_18 : decode cX12_pushes 18 = .ok (.iconst 0, 1) := by decide +kernel
theorem dX12_pushes_19 : decode cX12_pushes 19 = .ok (.iastore, 1) := by decide +kernel
theorem dX12_pushes_20 : decode cX12_pushes 20 = .ok (.aload_n 0, 1) := by decide +kernel
theorem dX12_pushes_21 : decode cX12_pushes 21 = .ok (.getfield 116, 3) := by decide +kernel
theorem dX12_pushes_24 : decode cX12_pushes 24 = .ok (.aload_n 0, 1) := by decide +kernel
theorem dX12_pushes_25 : decode cX12_pushes 25 = .ok (.getfield 126, 3) := by decide +kernel
theorem dX12_pushes_28 : decode cX12_pushes 28 = .ok (.iconst 1, 1) := by decide +kernel
theorem dX12_pushes_29 : decode cX12_pushes 29 = .ok (.bastore, 1) := by decide +kernel
theorem dX12_pushes_30 : decode cX12_pushes 30 = .ok (.aload_n 0, 1) := by decide +kernel
theorem dX12_pushes_31 : decode cX12_pushes 31 = .ok (.getfield 123, 3) := by decide +kernel
theorem dX12_pushes_34 : decode cX12_pushes 34 = .ok (.aload_n 0, 1) := by decide +kernel
theorem dX12_pushes_35 : decode cX12_pushes 35 = .ok (.getfield 126, 3) := by decide +kernel
theorem dX12_pushes_38 : decode cX12_pushes 38 = .ok (.aload_n 0, 1) := by decide +kernel
theorem dX12_pushes_39 : decode cX12_pushes 39 = .ok (.getfield 135, 3) := by decide +kernel
theorem dX12_pushes_42 : decode cX12_pushes 42 = .ok (.iastore, 1) := by decide +kernel
theorem dX12_pushes_43 : decode cX12_pushes 43 = .ok (.aload_n 0, 1) := by decide +kernel
theorem dX12_pushes_44 : decode cX12_pushes 44 = .ok (.dup, 1) := by decide +kernel
theorem dX12_pushes_45 : decode cX12_pushes 45 = .ok (.getfield 126, 3) := by decide +kernel
theorem dX12_pushes_48 : decode cX12_pushes 48 = .ok (.iconst 1, 1) := by decide +kernel
theorem dX12_pushes_49 : decode cX12_pushes 49 = .ok (.iadd, 1) := by decide +kernel
theorem dX12_pushes_50 : decode cX12_pushes 50 = .ok (.putfield 126, 3) := by decide +kernel
theorem dX12_pushes_53 : decode cX12_pushes 53 = .ok (.return_, 1) := by decide +kernel
theorem dX12_opens_0 : decode cX12_opens 0 = .ok (.aload_n 0, 1) := by decide +kernel
theorem dX12_opens_1 : decode cX12_opens 1 = .ok (.getfield 129, 3) := by decide +kernel
theorem dX12_opens_4 : decode cX12_opens 4 = .ok (.bipush 7, 2) := by decide +kernel
theorem dX12_opens_6 : decode cX12_opens 6 = .ok (.if_icmp .ne 12, 3) := by decide +kernel
theorem dX12_opens_9 : decode cX12_opens 9 = .ok (.aload_n 0, 1) := by decide +kernel
theorem dX12_opens_10 : decode cX12_opens 10 = .ok (.iconst 5, 1) := by decide +kernel
theorem dX12_opens_11 : decode cX12_opens 11 = .ok (.aload_n 0, 1) := by decide +kernel
theorem dX12_opens_12 : decode cX12_opens 12 = .ok (.getfield 23, 3) := by decide +kernel
theorem dX12_opens_15 : decode cX12_opens 15 = .ok (.invokevirtual 242, 3) := by decide +kernel
theorem dX12_opens_18 : decode cX12_opens 18 = .ok (.aload_n 0, 1) := by decide +kernel
theorem dX12_opens_19 : decode cX12_opens 19 = .ok (.getfield 36, 3) := by decide +kernel
theorem dX12_opens_22 : decode cX12_opens 22 = .ok (.ifCond .le 4, 3) := by decide +kernel
theorem dX12_opens_25 : decode cX12_opens 25 = .ok (.return_, 1) := by decide +kernel
theorem dX12_opens_26 : decode cX12_opens 26 = .ok (.aload_n 0, 1) := by decide +kernel
theorem dX12_opens_27 : decode cX12_opens 27 = .ok (.dup, 1) := by decide +kernel
theorem dX12_opens_28 : decode cX12_opens 28 = .ok (.getfield 129, 3) := by decide +kernel
theorem dX12_opens_31 : decode cX12_opens 31 = .ok (.iconst 1, 1) := by decide +kernel
theorem dX12_opens_32 : decode cX12_opens 32 = .ok (.iadd, 1) := by decide +kernel
theorem dX12_opens_33 : decode cX12_opens 33 = .ok (.putfield 129, 3) := by decide +kernel
theorem dX12_opens_36 : decode cX12_opens 36 = .ok (.aload_n 0, 1) := by decide +kernel
theorem dX12_opens_37 : decode cX12_opens 37 = .ok (.invokevirtual 259, 3) := by decide +kernel
theorem dX12_opens_40 : decode cX12_opens 40 = .ok (.aload_n 0, 1) := by decide +kernel
theorem dX12_opens_41 : decode cX12_opens 41 = .ok (.iload_n 1, 1) := by decide +kernel
theorem dX12_opens_42 : decode cX12_opens 42 = .ok (.invokevirtual 328, 3) := by decide +kernel
theorem dX12_opens_45 : decode cX12_opens 45 = .ok (.return_, 1) := by decide +kernel
theorem dX12_isTest_0 : decode cX12_isTest 0 = .ok (.iload_n 0, 1) := by decide +kernel
theorem dX12_isTest_1 : decode cX12_isTest 1 = .ok (.iconst 1, 1) := by decide +kernel
theorem dX12_isTest_2 : decode cX12_isTest 2 = .ok (.if_icmp .eq 14, 3) := by decide +kernel
theorem dX12_isTest_5 : decode cX12_isTest 5 = .ok (.iload_n 0, 1) := by decide +kernel
theorem dX12_isTest_6 : decode cX12_isTest 6 = .ok (.iconst 5, 1) := by decide +kernel
theorem dX12_isTest_7 : decode cX12_isTest 7 = .ok (.if_icmp .eq 9, 3) := by decide +kernel
theorem dX12_isTest_10 : decode cX12_isTest 10 = .ok (.iload_n 0, 1) := by decide +kernel
theorem dX12_isTest_11 : decode cX12_isTest 11 = .ok (.bipush 6, 2) := by decide +kernel
theorem dX12_isTest_13 : decode cX12_isTest 13 = .ok (.if_icmp .ne 7, 3) := by decide +kernel
theorem dX12_isTest_16 : decode cX12_isTest 16 = .ok (.iconst 1, 1) := by decide +kernel
theorem dX12_isTest_17 : decode cX12_isTest 17 = .ok (.goto 4, 3) := by decide +kernel
theorem dX12_isTest_20 : decode cX12_isTest 20 = .ok (.iconst 0, 1) := by decide +kernel
theorem dX12_isTest_21 : decode cX12_isTest 21 = .ok (.ireturn, 1) := by decide +kernel
theorem dX12_operand_0 : decode cX12_operand 0 = .ok (.aload_n 0, 1) := by decide +kernel
theorem dX12_operand_1 : decode cX12_operand 1 = .ok (.invokevirtual 253, 3) := by decide +kernel
theorem dX12_operand_4 : decode cX12_operand 4 = .ok (.aload_n 0, 1) := by decide +kernel
theorem dX12_operand_5 : decode cX12_operand 5 = .ok (.getfield 36, 3) := by decide +kernel
theorem dX12_operand_8 : decode cX12_operand 8 = .ok (.ifCond .le 5, 3) := by decide +kernel
theorem dX12_operand_11 : decode cX12_operand 11 = .ok (.iconst 1, 1) := by decide +kernel
theorem dX12_operand_12 : decode cX12_operand 12 = .ok (.ireturn, 1) := by decide +kernel
theorem dX12_operand_13 : decode cX12_operand 13 = .ok (.aload_n 0, 1) := by decide +kernel
theorem dX12_operand_14 : decode cX12_operand 14 = .ok (.getfield 126, 3) := by decide +kernel
theorem dX12_operand_17 : decode cX12_operand 17 = .ok (.iconst 1, 1) := by decide +kernel
theorem dX12_operand_18 : decode cX12_operand 18 = .ok (.isub, 1) := by decide +kernel
theorem dX12_operand_19 : decode cX12_operand 19 = .ok (.istore_n 1, 1) := by decide +kernel
theorem dX12_operand_20 : decode cX12_operand 20 = .ok (.aload_n 0, 1) := by decide +kernel
theorem dX12_operand_21 : decode cX12_operand 21 = .ok (.getfield 110, 3) := by decide +kernel
theorem dX12_operand_24 : decode cX12_operand 24 = .ok (.iload_n 1, 1) := by decide +kernel
theorem dX12_operand_25 : decode cX12_operand 25 = .ok (.iaload, 1) := by decide +kernel
theorem dX12_operand_26 : decode cX12_operand 26 = .ok (.invokestatic 331, 3) := by decide +kernel
theorem dX12_operand_29 : decode cX12_operand 29 = .ok (.ifCond .eq 16, 3) := by decide +kernel
theorem dX12_operand_32 : decode cX12_operand 32 = .ok (.aload_n 0, 1) := by decide +kernel
theorem dX12_operand_33 : decode cX12_operand 33 = .ok (.getfield 116, 3) := by decide +kernel
theorem dX12_operand_36 : decode cX12_operand 36 = .ok (.iload_n 1, 1) := by decide +kernel
theorem dX12_operand_37 : decode cX12_operand 37 = .ok (.baload, 1) := by decide +kernel
theorem dX12_operand_38 : decode cX12_operand 38 = .ok (.ifCond .eq 7, 3) := by decide +kernel
theorem dX12_operand_41 : decode cX12_operand 41 = .ok (.iconst 1, 1) := by decide +kernel
theorem dX12_operand_42 : decode cX12_operand 42 = .ok (.goto 4, 3) := by decide +kernel
theorem dX12_operand_45 : decode cX12_operand 45 = .ok (.iconst 0, 1) := by decide +kernel
theorem dX12_operand_46 : decode cX12_operand 46 = .ok (.istore_n 2, 1) := by decide +kernel
theorem dX12_operand_47 : decode cX12_operand 47 = .ok (.iload_n 2, 1) := by decide +kernel
theorem dX12_operand_48 : decode cX12_operand 48 = .ok (.ifCond .eq 62, 3) := by decide +kernel
theorem dX12_operand_51 : decode cX12_operand 51 = .ok (.aload_n 0, 1) := by decide +kernel
theorem dX12_operand_52 : decode cX12_operand 52 = .ok (.ldc2_w 310, 3) := by decide +kernel
theorem dX12_operand_55 : decode cX12_operand 55 = .ok (.invokevirtual 334, 3) := by decide +kernel
theorem dX12_operand_58 : decode cX12_operand 58 = .ok (.ifCond .eq 52, 3) := by decide +kernel
theorem dX12_operand_61 : decode cX12_operand 61 = .ok (.aload_n 0, 1) := by decide +kernel
theorem dX12_operand_62 : decode cX12_operand 62 = .ok (.getfield 129, 3) := by decide +kernel
theorem dX12_operand_65 : decode cX12_operand 65 = .ok (.bipush 7, 2) := by decide +kernel
theorem dX12_operand_67 : decode cX12_operand 67 = .ok (.if_icmp .ne 12, 3) := by decide +kernel
theorem dX12_operand_70 : decode cX12_operand 70 = .ok (.aload_n 0, 1) := by decide +kernel
theorem dX12_operand_71 : decode cX12_operand 71 = .ok (.iconst 5, 1) := by decide +kernel
theorem dX12_operand_72 : decode cX12_operand 72 = .ok (.aload_n 0, 1) := by decide +kernel
theorem dX12_operand_73 : decode cX12_operand 73 = .ok (.getfield 23, 3) := by decide +kernel
theorem dX12_operand_76 : decode cX12_operand 76 = .ok (.invokevirtual 242, 3) := by decide +kernel
theorem dX12_operand_79 : decode cX12_operand 79 = .ok (.aload_n 0, 1) := by decide +kernel
theorem dX12_operand_80 : decode cX12_operand 80 = .ok (.getfield 36, 3) := by decide +kernel
theorem dX12_operand_83 : decode cX12_operand 83 = .ok (.ifCond .le 5, 3) := by decide +kernel
theorem dX12_operand_86 : decode cX12_operand 86 = .ok (.iconst 1, 1) := by decide +kernel
theorem dX12_operand_87 : decode cX12_operand 87 = .ok (.ireturn, 1) := by decide +kernel
theorem dX12_operand_88 : decode cX12_operand 88 = .ok (.aload_n 0, 1) := by decide +kernel
theorem dX12_operand_89 : decode cX12_operand 89 = .ok (.dup, 1) := by decide +kernel
theorem dX12_operand_90 : decode cX12_operand 90 = .ok (.getfield 129, 3) := by decide +kernel
theorem dX12_operand_93 : decode cX12_operand 93 = .ok (.iconst 1, 1) := by decide +kernel
theorem dX12_operand_94 : decode cX12_operand 94 = .ok (.iadd, 1) := by decide +kernel
theorem dX12_operand_95 : decode cX12_operand 95 = .ok (.putfield 129, 3) := by decide +kernel
theorem dX12_operand_98 : decode cX12_operand 98 = .ok (.aload_n 0, 1) := by decide +kernel
theorem dX12_operand_99 : decode cX12_operand 99 = .ok (.bipush 43, 2) := by decide +kernel
theorem dX12_operand_101 : decode cX12_operand 101 = .ok (.invokevirtual 338, 3) := by decide +kernel
theorem dX12_operand_104 : decode cX12_operand 104 = .ok (.aload_n 0, 1) := by decide +kernel
theorem dX12_operand_105 : decode cX12_operand 105 = .ok (.invokevirtual 259, 3) := by decide +kernel
theorem dX12_operand_108 : decode cX12_operand 108 = .ok (.iconst 0, 1) := by decide +kernel
theorem dX12_operand_109 : decode cX12_operand 109 = .ok (.ireturn, 1) := by decide +kernel
theorem dX12_operand_110 : decode cX12_operand 110 = .ok (.aload_n 0, 1) := by decide +kernel
theorem dX12_operand_111 : decode cX12_operand 111 = .ok (.getfield 116, 3) := by decide +kernel
theorem dX12_operand_114 : decode cX12_operand 114 = .ok (.iload_n 1, 1) := by decide +kernel
theorem dX12_operand_115 : decode cX12_operand 115 = .ok (.iconst 0, 1) := by decide +kernel
theorem dX12_operand_116 : decode cX12_operand 116 = .ok (.bastore, 1) := by decide +kernel
theorem dX12_operand_117 : decode cX12_operand 117 = .ok (.iload_n 2, 1) := by decide +kernel
theorem dX12_operand_118 : decode cX12_operand 118 = .ok (.ifCond .eq 19, 3) := by decide +kernel
theorem dX12_operand_121 : decode cX12_operand 121 = .ok (.aload_n 0, 1) := by decide +kernel
theorem dX12_operand_122 : decode cX12_operand 122 = .ok (.bipush 91, 2) := by decide +kernel
theorem dX12_operand_124 : decode cX12_operand 124 = .ok (.invokevirtual 256, 3) := by decide +kernel
theorem dX12_operand_127 : decode cX12_operand 127 = .ok (.ifCond .eq 10, 3) := by decide +kernel
theorem dX12_operand_130 : decode cX12_operand 130 = .ok (.aload_n 0, 1) := by decide +kernel
theorem dX12_operand_131 : decode cX12_operand 131 = .ok (.iconst 5, 1) := by decide +kernel
theorem dX12_operand_132 : decode cX12_operand 132 = .ok (.invokevirtual 341, 3) := by decide +kernel
theorem dX12_operand_135 : decode cX12_operand 135 = .ok (.iconst 0, 1) := by decide +kernel
theorem dX12_operand_136 : decode cX12_operand 136 = .ok (.ireturn, 1) := by decide +kernel
theorem dX12_operand_137 : decode cX12_operand 137 = .ok (.iload_n 2, 1) := by decide +kernel
theorem dX12_operand_138 : decode cX12_operand 138 = .ok (.ifCond .eq 33, 3) := by decide +kernel
theorem dX12_operand_141 : decode cX12_operand 141 = .ok (.aload_n 0, 1) := by decide +kernel
theorem dX12_operand_142 : decode cX12_operand 142 = .ok (.ldc2_w 312, 3) := by decide +kernel
theorem dX12_operand_145 : decode cX12_operand 145 = .ok (.invokevirtual 334, 3) := by decide +kernel
theorem dX12_operand_148 : decode cX12_operand 148 = .ok (.ifCond .eq 23, 3) := by decide +kernel
theorem dX12_operand_151 : decode cX12_operand 151 = .ok (.aload_n 0, 1) := by decide +kernel
theorem dX12_operand_152 : decode cX12_operand 152 = .ok (.bipush 30, 2) := by decide +kernel
theorem dX12_operand_154 : decode cX12_operand 154 = .ok (.iconst 0, 1) := by decide +kernel
theorem dX12_operand_155 : decode cX12_operand 155 = .ok (.invokevirtual 325, 3) := by decide +kernel
theorem dX12_operand_158 : decode cX12_operand 158 = .ok (.aload_n 0, 1) := by decide +kernel
theorem dX12_operand_159 : decode cX12_operand 159 = .ok (.getfield 113, 3) := by decide +kernel
theorem dX12_operand_162 : decode cX12_operand 162 = .ok (.iload_n 1, 1) := by decide +kernel
theorem dX12_operand_163 : decode cX12_operand 163 = .ok (.iconst 2, 1) := by decide +kernel
theorem dX12_operand_164 : decode cX12_operand 164 = .ok (.iastore, 1) := by decide +kernel
theorem dX12_operand_165 : decode cX12_operand 165 = .ok (.aload_n 0, 1) := by decide +kernel
theorem dX12_operand_166 : decode cX12_operand 166 = .ok (.invokevirtual 259, 3) := by decide +kernel
theorem dX12_operand_169 : decode cX12_operand 169 = .ok (.iconst 1, 1) := by decide +kernel
theorem dX12_operand_170 : decode cX12_operand 170 = .ok (.ireturn, 1) := by decide +kernel
theorem dX12_operand_171 : decode cX12_operand 171 = .ok (.aload_n 0, 1) := by decide +kernel
theorem dX12_operand_172 : decode cX12_operand 172 = .ok (.bipush 40, 2) := by decide +kernel
theorem dX12_operand_174 : decode cX12_operand 174 = .ok (.invokevirtual 256, 3) := by decide +kernel
theorem dX12_operand_177 : decode cX12_operand 177 = .ok (.ifCond .eq 10, 3) := by decide +kernel
theorem dX12_operand_180 : decode cX12_operand 180 = .ok (.aload_n 0, 1) := by decide +kernel
theorem dX12_operand_181 : decode cX12_operand 181 = .ok (.iconst 2, 1) := by decide +kernel
theorem dX12_operand_182 : decode cX12_operand 182 = .ok (.invokevirtual 341, 3) := by decide +kernel
theorem dX12_operand_185 : decode cX12_operand 185 = .ok (.iconst 0, 1) := by decide +kernel
theorem dX12_operand_186 : decode cX12_operand 186 = .ok (.ireturn, 1) := by decide +kernel
theorem dX12_operand_187 : decode cX12_operand 187 = .ok (.aload_n 0, 1) := by decide +kernel
theorem dX12_operand_188 : decode cX12_operand 188 = .ok (.ldc2_w 314, 3) := by decide +kernel
theorem dX12_operand_191 : decode cX12_operand 191 = .ok (.invokevirtual 334, 3) := by decide +kernel
theorem dX12_operand_194 : decode cX12_operand 194 = .ok (.ifCond .ne 23, 3) := by decide +kernel
theorem dX12_operand_197 : decode cX12_operand 197 = .ok (.aload_n 0, 1) := by decide +kernel
theorem dX12_operand_198 : decode cX12_operand 198 = .ok (.ldc2_w 316, 3) := by decide +kernel
theorem dX12_operand_201 : decode cX12_operand 201 = .ok (.invokevirtual 334, 3) := by decide +kernel
theorem dX12_operand_204 : decode cX12_operand 204 = .ok (.ifCond .ne 13, 3) := by decide +kernel
theorem dX12_operand_207 : decode cX12_operand 207 = .ok (.aload_n 0, 1) := by decide +kernel
theorem dX12_operand_208 : decode cX12_operand 208 = .ok (.ldc2_w 304, 3) := by decide +kernel
theorem dX12_operand_211 : decode cX12_operand 211 = .ok (.invokevirtual 334, 3) := by decide +kernel
theorem dX12_operand_214 : decode cX12_operand 214 = .ok (.ifCond .eq 99, 3) := by decide +kernel
theorem dX12_operand_217 : decode cX12_operand 217 = .ok (.aload_n 0, 1) := by decide +kernel
theorem dX12_operand_218 : decode cX12_operand 218 = .ok (.ldc2_w 314, 3) := by decide +kernel
theorem dX12_operand_221 : decode cX12_operand 221 = .ok (.invokevirtual 334, 3) := by decide +kernel
theorem dX12_operand_224 : decode cX12_operand 224 = .ok (.ifCond .eq 8, 3) := by decide +kernel
theorem dX12_operand_227 : decode cX12_operand 227 = .ok (.bipush 36, 2) := by decide +kernel
theorem dX12_operand_229 : decode cX12_operand 229 = .ok (.goto 20, 3) := by decide +kernel
theorem dX12_operand_232 : decode cX12_operand 232 = .ok (.aload_n 0, 1) := by decide +kernel
theorem dX12_operand_233 : decode cX12_operand 233 = .ok (.ldc2_w 316, 3) := by decide +kernel
theorem dX12_operand_236 : decode cX12_operand 236 = .ok (.invokevirtual 334, 3) := by decide +kernel
theorem dX12_operand_239 : decode cX12_operand 239 = .ok (.ifCond .eq 8, 3) := by decide +kernel
theorem dX12_operand_242 : decode cX12_operand 242 = .ok (.bipush 37, 2) := by decide +kernel
theorem dX12_operand_244 : decode cX12_operand 244 = .ok (.goto 5, 3) := by decide +kernel
theorem dX12_operand_247 : decode cX12_operand 247 = .ok (.bipush 44, 2) := by decide +kernel
theorem dX12_operand_249 : decode cX12_operand 249 = .ok (.istore_n 3, 1) := by decide +kernel
theorem dX12_operand_250 : decode cX12_operand 250 = .ok (.aload_n 0, 1) := by decide +kernel
theorem dX12_operand_251 : decode cX12_operand 251 = .ok (.invokevirtual 259, 3) := by decide +kernel
theorem dX12_operand_254 : decode cX12_operand 254 = .ok (.aload_n 0, 1) := by decide +kernel
theorem dX12_operand_255 : decode cX12_operand 255 = .ok (.invokevirtual 253, 3) := by decide +kernel
theorem dX12_operand_258 : decode cX12_operand 258 = .ok (.aload_n 0, 1) := by decide +kernel
theorem dX12_operand_259 : decode cX12_operand 259 = .ok (.bipush 40, 2) := by decide +kernel
theorem dX12_operand_261 : decode cX12_operand 261 = .ok (.invokevirtual 256, 3) := by decide +kernel
theorem dX12_operand_264 : decode cX12_operand 264 = .ok (.ifCond .ne 12, 3) := by decide +kernel
theorem dX12_operand_267 : decode cX12_operand 267 = .ok (.aload_n 0, 1) := by decide +kernel
theorem dX12_operand_268 : decode cX12_operand 268 = .ok (.iconst 1, 1) := by decide +kernel
theorem dX12_operand_269 : decode cX12_operand 269 = .ok (.aload_n 0, 1) := by decide +kernel
theorem dX12_operand_270 : decode cX12_operand 270 = .ok (.getfield 23, 3) := by decide +kernel
theorem dX12_operand_273 : decode cX12_operand 273 = .ok (.invokevirtual 242, 3) := by decide +kernel
theorem dX12_operand_276 : decode cX12_operand 276 = .ok (.aload_n 0, 1) := by decide +kernel
theorem dX12_operand_277 : decode cX12_operand 277 = .ok (.iload_n 3, 1) := by decide +kernel
theorem dX12_operand_278 : decode cX12_operand 278 = .ok (.bipush 44, 2) := by decide +kernel
theorem dX12_operand_280 : decode cX12_operand 280 = .ok (.if_icmp .ne 8, 3) := by decide +kernel
theorem dX12_operand_283 : decode cX12_operand 283 = .ok (.bipush 6, 2) := by decide +kernel
theorem dX12_operand_285 : decode cX12_operand 285 = .ok (.goto 4, 3) := by decide +kernel
theorem dX12_operand_288 : decode cX12_operand 288 = .ok (.iconst 3, 1) := by decide +kernel
theorem dX12_operand_289 : decode cX12_operand 289 = .ok (.invokevirtual 341, 3) := by decide +kernel
theorem dX12_operand_292 : decode cX12_operand 292 = .ok (.aload_n 0, 1) := by decide +kernel
theorem dX12_operand_293 : decode cX12_operand 293 = .ok (.getfield 36, 3) := by decide +kernel
theorem dX12_operand_296 : decode cX12_operand 296 = .ok (.ifCond .ne 15, 3) := by decide +kernel
theorem dX12_operand_299 : decode cX12_operand 299 = .ok (.aload_n 0, 1) := by decide +kernel
theorem dX12_operand_300 : decode cX12_operand 300 = .ok (.getfield 120, 3) := by decide +kernel
theorem dX12_operand_303 : decode cX12_operand 303 = .ok (.aload_n 0, 1) := by decide +kernel
theorem dX12_operand_304 : decode cX12_operand 304 = .ok (.getfield 126, 3) := by decide +kernel
theorem dX12_operand_307 : decode cX12_operand 307 = .ok (.iconst 1, 1) := by decide +kernel
theorem dX12_operand_308 : decode cX12_operand 308 = .ok (.isub, 1) := by decide +kernel
theorem dX12_operand_309 : decode cX12_operand 309 = .ok (.iload_n 3, 1) := by decide +kernel
theorem dX12_operand_310 : decode cX12_operand 310 = .ok (.iastore, 1) := by decide +kernel
theorem dX12_operand_311 : decode cX12_operand 311 = .ok (.iconst 0, 1) := by decide +kernel
theorem dX12_operand_312 : decode cX12_operand 312 = .ok (.ireturn, 1) := by decide +kernel
theorem dX12_operand_313 : decode cX12_operand 313 = .ok (.aload_n 0, 1) := by decide +kernel
theorem dX12_operand_314 : decode cX12_operand 314 = .ok (.getfield 20, 3) := by decide +kernel
theorem dX12_operand_317 : decode cX12_operand 317 = .ok (.iconst 2, 1) := by decide +kernel
theorem dX12_operand_318 : decode cX12_operand 318 = .ok (.if_icmp .ne 7, 3) := by decide +kernel
theorem dX12_operand_321 : decode cX12_operand 321 = .ok (.iconst 0, 1) := by decide +kernel
theorem dX12_operand_322 : decode cX12_operand 322 = .ok (.goto 104, 3) := by decide +kernel
theorem dX12_operand_325 : decode cX12_operand 325 = .ok (.aload_n 0, 1) := by decide +kernel
theorem dX12_operand_326 : decode cX12_operand 326 = .ok (.ldc2_w 292, 3) := by decide +kernel
theorem dX12_operand_329 : decode cX12_operand 329 = .ok (.invokevirtual 334, 3) := by decide +kernel
theorem dX12_operand_332 : decode cX12_operand 332 = .ok (.ifCond .eq 7, 3) := by decide +kernel
theorem dX12_operand_335 : decode cX12_operand 335 = .ok (.iconst 1, 1) := by decide +kernel
theorem dX12_operand_336 : decode cX12_operand 336 = .ok (.goto 90, 3) := by decide +kernel
theorem dX12_operand_339 : decode cX12_operand 339 = .ok (.aload_n 0, 1) := by decide +kernel
theorem dX12_operand_340 : decode cX12_operand 340 = .ok (.ldc2_w 294, 3) := by decide +kernel
theorem dX12_operand_343 : decode cX12_operand 343 = .ok (.invokevirtual 334, 3) := by decide +kernel
theorem dX12_operand_346 : decode cX12_operand 346 = .ok (.ifCond .eq 7, 3) := by decide +kernel
theorem dX12_operand_349 : decode cX12_operand 349 = .ok (.iconst 2, 1) := by decide +kernel
theorem dX12_operand_350 : decode cX12_operand 350 = .ok (.goto 76, 3) := by decide +kernel
theorem dX12_operand_353 : decode cX12_operand 353 = .ok (.aload_n 0, 1) := by decide +kernel
theorem dX12_operand_354 : decode cX12_operand 354 = .ok (.ldc2_w 296, 3) := by decide +kernel
theorem dX12_operand_357 : decode cX12_operand 357 = .ok (.invokevirtual 334, 3) := by decide +kernel
theorem dX12_operand_360 : decode cX12_operand 360 = .ok (.ifCond .eq 7, 3) := by decide +kernel
theorem dX12_operand_363 : decode cX12_operand 363 = .ok (.iconst 3, 1) := by decide +kernel
theorem dX12_operand_364 : decode cX12_operand 364 = .ok (.goto 62, 3) := by decide +kernel
theorem dX12_operand_367 : decode cX12_operand 367 = .ok (.aload_n 0, 1) := by decide +kernel
theorem dX12_operand_368 : decode cX12_operand 368 = .ok (.ldc2_w 298, 3) := by decide +kernel
theorem dX12_operand_371 : decode cX12_operand 371 = .ok (.invokevirtual 334, 3) := by decide +kernel
theorem dX12_operand_374 : decode cX12_operand 374 = .ok (.ifCond .eq 7, 3) := by decide +kernel
theorem dX12_operand_377 : decode cX12_operand 377 = .ok (.iconst 4, 1) := by decide +kernel
theorem dX12_operand_378 : decode cX12_operand 378 = .ok (.goto 48, 3) := by decide +kernel
theorem dX12_operand_381 : decode cX12_operand 381 = .ok (.aload_n 0, 1) := by decide +kernel
theorem dX12_operand_382 : decode cX12_operand 382 = .ok (.ldc2_w 300, 3) := by decide +kernel
theorem dX12_operand_385 : decode cX12_operand 385 = .ok (.invokevirtual 334, 3) := by decide +kernel
theorem dX12_operand_388 : decode cX12_operand 388 = .ok (.ifCond .eq 7, 3) := by decide +kernel
theorem dX12_operand_391 : decode cX12_operand 391 = .ok (.iconst 5, 1) := by decide +kernel
theorem dX12_operand_392 : decode cX12_operand 392 = .ok (.goto 34, 3) := by decide +kernel
theorem dX12_operand_395 : decode cX12_operand 395 = .ok (.aload_n 0, 1) := by decide +kernel
theorem dX12_operand_396 : decode cX12_operand 396 = .ok (.ldc2_w 302, 3) := by decide +kernel
theorem dX12_operand_399 : decode cX12_operand 399 = .ok (.invokevirtual 334, 3) := by decide +kernel
theorem dX12_operand_402 : decode cX12_operand 402 = .ok (.ifCond .eq 8, 3) := by decide +kernel
theorem dX12_operand_405 : decode cX12_operand 405 = .ok (.bipush 6, 2) := by decide +kernel
theorem dX12_operand_407 : decode cX12_operand 407 = .ok (.goto 19, 3) := by decide +kernel
theorem dX12_operand_410 : decode cX12_operand 410 = .ok (.aload_n 0, 1) := by decide +kernel
theorem dX12_operand_411 : decode cX12_operand 411 = .ok (.ldc2_w 286, 3) := by decide +kernel
theorem dX12_operand_414 : decode cX12_operand 414 = .ok (.invokevirtual 334, 3) := by decide +kernel
theorem dX12_operand_417 : decode cX12_operand 417 = .ok (.ifCond .eq 8, 3) := by decide +kernel
theorem dX12_operand_420 : decode cX12_operand 420 = .ok (.bipush 7, 2) := by decide +kernel
theorem dX12_operand_422 : decode cX12_operand 422 = .ok (.goto 4, 3) := by decide +kernel
theorem dX12_operand_425 : decode cX12_operand 425 = .ok (.iconst (-1), 1) := by decide +kernel
theorem dX12_operand_426 : decode cX12_operand 426 = .ok (.istore_n 3, 1) := by decide +kernel
theorem dX12_operand_427 : decode cX12_operand 427 = .ok (.iload_n 3, 1) := by decide +kernel
theorem dX12_operand_428 : decode cX12_operand 428 = .ok (.iconst 5, 1) := by decide +kernel
theorem dX12_operand_429 : decode cX12_operand 429 = .ok (.if_icmp .le 12, 3) := by decide +kernel
theorem dX12_operand_432 : decode cX12_operand 432 = .ok (.aload_n 0, 1) := by decide +kernel
theorem dX12_operand_433 : decode cX12_operand 433 = .ok (.getfield 106, 3) := by decide +kernel
theorem dX12_operand_436 : decode cX12_operand 436 = .ok (.ifCond .ne 5, 3) := by decide +kernel
theorem dX12_operand_439 : decode cX12_operand 439 = .ok (.iconst (-1), 1) := by decide +kernel
theorem dX12_operand_440 : decode cX12_operand 440 = .ok (.istore_n 3, 1) := by decide +kernel
theorem dX12_operand_441 : decode cX12_operand 441 = .ok (.iload_n 3, 1) := by decide +kernel
theorem dX12_operand_442 : decode cX12_operand 442 = .ok (.iconst (-1), 1) := by decide +kernel
theorem dX12_operand_443 : decode cX12_operand 443 = .ok (.if_icmp .ne 12, 3) := by decide +kernel
theorem dX12_operand_446 : decode cX12_operand 446 = .ok (.aload_n 0, 1) := by decide +kernel
theorem dX12_operand_447 : decode cX12_operand 447 = .ok (.iconst 1, 1) := by decide +kernel
theorem dX12_operand_448 : decode cX12_operand 448 = .ok (.aload_n 0, 1) := by decide +kernel
theorem dX12_operand_449 : decode cX12_operand 449 = .ok (.getfield 23, 3) := by decide +kernel
theorem dX12_operand_452 : decode cX12_operand 452 = .ok (.invokevirtual 242, 3) := by decide +kernel
theorem dX12_operand_455 : decode cX12_operand 455 = .ok (.aload_n 0, 1) := by decide +kernel
theorem dX12_operand_456 : decode cX12_operand 456 = .ok (.getfield 36, 3) := by decide +kernel
theorem dX12_operand_459 : decode cX12_operand 459 = .ok (.ifCond .le 5, 3) := by decide +kernel
theorem dX12_operand_462 : decode cX12_operand 462 = .ok (.iconst 1, 1) := by decide +kernel
theorem dX12_operand_463 : decode cX12_operand 463 = .ok (.ireturn, 1) := by decide +kernel
theorem dX12_operand_464 : decode cX12_operand 464 = .ok (.aload_n 0, 1) := by decide +kernel
theorem dX12_operand_465 : decode cX12_operand 465 = .ok (.iload_n 3, 1) := by decide +kernel
theorem dX12_operand_466 : decode cX12_operand 466 = .ok (.aload_n 0, 1) := by decide +kernel
theorem dX12_operand_467 : decode cX12_operand 467 = .ok (.getfield 29, 3) := by decide +kernel
theorem dX12_operand_470 : decode cX12_operand 470 = .ok (.invokevirtual 325, 3) := by decide +kernel
theorem dX12_operand_473 : decode cX12_operand 473 = .ok (.aload_n 0, 1) := by decide +kernel
theorem dX12_operand_474 : decode cX12_operand 474 = .ok (.invokevirtual 259, 3) := by decide +kernel
theorem dX12_operand_477 : decode cX12_operand 477 = .ok (.iconst 1, 1) := by decide +kernel
theorem dX12_operand_478 : decode cX12_operand 478 = .ok (.ireturn, 1) := by decide +kernel
theorem dX12_goesOn_0 : decode cX12_goesOn 0 = .ok (.aload_n 0, 1) := by decide +kernel
theorem dX12_goesOn_1 : decode cX12_goesOn 1 = .ok (.invokevirtual 253, 3) := by decide +kernel
theorem dX12_goesOn_4 : decode cX12_goesOn 4 = .ok (.aload_n 0, 1) := by decide +kernel
theorem dX12_goesOn_5 : decode cX12_goesOn 5 = .ok (.getfield 36, 3) := by decide +kernel
theorem dX12_goesOn_8 : decode cX12_goesOn 8 = .ok (.ifCond .le 5, 3) := by decide +kernel
theorem dX12_goesOn_11 : decode cX12_goesOn 11 = .ok (.iconst 0, 1) := by decide +kernel
theorem dX12_goesOn_12 : decode cX12_goesOn 12 = .ok (.ireturn, 1) := by decide +kernel
theorem dX12_goesOn_13 : decode cX12_goesOn 13 = .ok (.aload_n 0, 1) := by decide +kernel
theorem dX12_goesOn_14 : decode cX12_goesOn 14 = .ok (.getfield 126, 3) := by decide +kernel
theorem dX12_goesOn_17 : decode cX12_goesOn 17 = .ok (.iconst 1, 1) := by decide +kernel
theorem dX12_goesOn_18 : decode cX12_goesOn 18 = .ok (.isub, 1) := by decide +kernel
theorem dX12_goesOn_19 : decode cX12_goesOn 19 = .ok (.istore_n 1, 1) := by decide +kernel
theorem dX12_goesOn_20 : decode cX12_goesOn 20 = .ok (.aload_n 0, 1) := by decide +kernel
theorem dX12_goesOn_21 : decode cX12_goesOn 21 = .ok (.getfield 110, 3) := by decide +kernel
theorem dX12_goesOn_24 : decode cX12_goesOn 24 = .ok (.iload_n 1, 1) := by decide +kernel
theorem dX12_goesOn_25 : decode cX12_goesOn 25 = .ok (.iaload, 1) := by decide +kernel
theorem dX12_goesOn_26 : decode cX12_goesOn 26 = .ok (.istore_n 2, 1) := by decide +kernel
theorem dX12_goesOn_27 : decode cX12_goesOn 27 = .ok (.iload_n 2, 1) := by decide +kernel
theorem dX12_goesOn_28 : decode cX12_goesOn 28 = .ok (.invokestatic 331, 3) := by decide +kernel
theorem dX12_goesOn_31 : decode cX12_goesOn 31 = .ok (.istore_n 3, 1) := by decide +kernel
theorem dX12_goesOn_32 : decode cX12_goesOn 32 = .ok (.aload_n 0, 1) := by decide +kernel
theorem dX12_goesOn_33 : decode cX12_goesOn 33 = .ok (.getfield 113, 3) := by decide +kernel
theorem dX12_goesOn_36 : decode cX12_goesOn 36 = .ok (.iload_n 1, 1) := by decide +kernel
theorem dX12_goesOn_37 : decode cX12_goesOn 37 = .ok (.iaload, 1) := by decide +kernel
theorem dX12_goesOn_38 : decode cX12_goesOn 38 = .ok (.iconst 2, 1) := by decide +kernel
theorem dX12_goesOn_39 : decode cX12_goesOn 39 = .ok (.if_icmp .ge 149, 3) := by decide +kernel
theorem dX12_goesOn_42 : decode cX12_goesOn 42 = .ok (.aload_n 0, 1) := by decide +kernel
theorem dX12_goesOn_43 : decode cX12_goesOn 43 = .ok (.bipush 43, 2) := by decide +kernel
theorem dX12_goesOn_45 : decode cX12_goesOn 45 = .ok (.invokevirtual 256, 3) := by decide +kernel
theorem dX12_goesOn_48 : decode cX12_goesOn 48 = .ok (.ifCond .ne 39, 3) := by decide +kernel
theorem dX12_goesOn_51 : decode cX12_goesOn 51 = .ok (.aload_n 0, 1) := by decide +kernel
theorem dX12_goesOn_52 : decode cX12_goesOn 52 = .ok (.bipush 45, 2) := by decide +kernel
theorem dX12_goesOn_54 : decode cX12_goesOn 54 = .ok (.invokevirtual 256, 3) := by decide +kernel
theorem dX12_goesOn_57 : decode cX12_goesOn 57 = .ok (.ifCond .ne 30, 3) := by decide +kernel
theorem dX12_goesOn_60 : decode cX12_goesOn 60 = .ok (.aload_n 0, 1) := by decide +kernel
theorem dX12_goesOn_61 : decode cX12_goesOn 61 = .ok (.bipush 42, 2) := by decide +kernel
theorem dX12_goesOn_63 : decode cX12_goesOn 63 = .ok (.invokevirtual 256, 3) := by decide +kernel
theorem dX12_goesOn_66 : decode cX12_goesOn 66 = .ok (.ifCond .ne 21, 3) := by decide +kernel
theorem dX12_goesOn_69 : decode cX12_goesOn 69 = .ok (.aload_n 0, 1) := by decide +kernel
theorem dX12_goesOn_70 : decode cX12_goesOn 70 = .ok (.bipush 47, 2) := by decide +kernel
theorem dX12_goesOn_72 : decode cX12_goesOn 72 = .ok (.invokevirtual 256, 3) := by decide +kernel
theorem dX12_goesOn_75 : decode cX12_goesOn 75 = .ok (.ifCond .ne 12, 3) := by decide +kernel
theorem dX12_goesOn_78 : decode cX12_goesOn 78 = .ok (.aload_n 0, 1) := by decide +kernel
theorem dX12_goesOn_79 : decode cX12_goesOn 79 = .ok (.bipush 37, 2) := by decide +kernel
theorem dX12_goesOn_81 : decode cX12_goesOn 81 = .ok (.invokevirtual 256, 3) := by decide +kernel
theorem dX12_goesOn_84 : decode cX12_goesOn 84 = .ok (.ifCond .eq 104, 3) := by decide +kernel
theorem dX12_goesOn_87 : decode cX12_goesOn 87 = .ok (.aload_n 0, 1) := by decide +kernel
theorem dX12_goesOn_88 : decode cX12_goesOn 88 = .ok (.aload_n 0, 1) := by decide +kernel
theorem dX12_goesOn_89 : decode cX12_goesOn 89 = .ok (.bipush 43, 2) := by decide +kernel
theorem dX12_goesOn_91 : decode cX12_goesOn 91 = .ok (.invokevirtual 256, 3) := by decide +kernel
theorem dX12_goesOn_94 : decode cX12_goesOn 94 = .ok (.ifCond .ne 12, 3) := by decide +kernel
theorem dX12_goesOn_97 : decode cX12_goesOn 97 = .ok (.aload_n 0, 1) := by decide +kernel
theorem dX12_goesOn_98 : decode cX12_goesOn 98 = .ok (.bipush 45, 2) := by decide +kernel
theorem dX12_goesOn_100 : decode cX12_goesOn 100 = .ok (.invokevirtual 256, 3) := by decide +kernel
theorem dX12_goesOn_103 : decode cX12_goesOn 103 = .ok (.ifCond .eq 7, 3) := by decide +kernel
theorem dX12_goesOn_106 : decode cX12_goesOn 106 = .ok (.iconst 5, 1) := by decide +kernel
theorem dX12_goesOn_107 : decode cX12_goesOn 107 = .ok (.goto 5, 3) := by decide +kernel
theorem dX12_goesOn_110 : decode cX12_goesOn 110 = .ok (.bipush 6, 2) := by decide +kernel
theorem dX12_goesOn_112 : decode cX12_goesOn 112 = .ok (.invokevirtual 344, 3) := by decide +kernel
theorem dX12_goesOn_115 : decode cX12_goesOn 115 = .ok (.aload_n 0, 1) := by decide +kernel
theorem dX12_goesOn_116 : decode cX12_goesOn 116 = .ok (.aload_n 0, 1) := by decide +kernel
theorem dX12_goesOn_117 : decode cX12_goesOn 117 = .ok (.bipush 43, 2) := by decide +kernel
theorem dX12_goesOn_119 : decode cX12_goesOn 119 = .ok (.invokevirtual 256, 3) := by decide +kernel
theorem dX12_goesOn_122 : decode cX12_goesOn 122 = .ok (.ifCond .eq 8, 3) := by decide +kernel
theorem dX12_goesOn_125 : decode cX12_goesOn 125 = .ok (.bipush 31, 2) := by decide +kernel
theorem dX12_goesOn_127 : decode cX12_goesOn 127 = .ok (.goto 47, 3) := by decide +kernel
theorem dX12_goesOn_130 : decode cX12_goesOn 130 = .ok (.aload_n 0, 1) := by decide +kernel
theorem dX12_goesOn_131 : decode cX12_goesOn 131 = .ok (.bipush 45, 2) := by decide +kernel
theorem dX12_goesOn_133 : decode cX12_goesOn 133 = .ok (.invokevirtual 256, 3) := by decide +kernel
theorem dX12_goesOn_136 : decode cX12_goesOn 136 = .ok (.ifCond .eq 8, 3) := by decide +kernel
theorem dX12_goesOn_139 : decode cX12_goesOn 139 = .ok (.bipush 32, 2) := by decide +kernel
theorem dX12_goesOn_141 : decode cX12_goesOn 141 = .ok (.goto 33, 3) := by decide +kernel
theorem dX12_goesOn_144 : decode cX12_goesOn 144 = .ok (.aload_n 0, 1) := by decide +kernel
theorem dX12_goesOn_145 : decode cX12_goesOn 145 = .ok (.bipush 42, 2) := by decide +kernel
theorem dX12_goesOn_147 : decode cX12_goesOn 147 = .ok (.invokevirtual 256, 3) := by decide +kernel
theorem dX12_goesOn_150 : decode cX12_goesOn 150 = .ok (.ifCond .eq 8, 3) := by decide +kernel
theorem dX12_goesOn_153 : decode cX12_goesOn 153 = .ok (.bipush 33, 2) := by decide +kernel
theorem dX12_goesOn_155 : decode cX12_goesOn 155 = .ok (.goto 19, 3) := by decide +kernel
theorem dX12_goesOn_158 : decode cX12_goesOn 158 = .ok (.aload_n 0, 1) := by decide +kernel
theorem dX12_goesOn_159 : decode cX12_goesOn 159 = .ok (.bipush 47, 2) := by decide +kernel
theorem dX12_goesOn_161 : decode cX12_goesOn 161 = .ok (.invokevirtual 256, 3) := by decide +kernel
theorem dX12_goesOn_164 : decode cX12_goesOn 164 = .ok (.ifCond .eq 8, 3) := by decide +kernel
theorem dX12_goesOn_167 : decode cX12_goesOn 167 = .ok (.bipush 34, 2) := by decide +kernel
theorem dX12_goesOn_169 : decode cX12_goesOn 169 = .ok (.goto 5, 3) := by decide +kernel
theorem dX12_goesOn_172 : decode cX12_goesOn 172 = .ok (.bipush 35, 2) := by decide +kernel
theorem dX12_goesOn_174 : decode cX12_goesOn 174 = .ok (.invokevirtual 338, 3) := by decide +kernel
theorem dX12_goesOn_177 : decode cX12_goesOn 177 = .ok (.aload_n 0, 1) := by decide +kernel
theorem dX12_goesOn_178 : decode cX12_goesOn 178 = .ok (.invokevirtual 259, 3) := by decide +kernel
theorem dX12_goesOn_181 : decode cX12_goesOn 181 = .ok (.aload_n 0, 1) := by decide +kernel
theorem dX12_goesOn_182 : decode cX12_goesOn 182 = .ok (.iconst 0, 1) := by decide +kernel
theorem dX12_goesOn_183 : decode cX12_goesOn 183 = .ok (.putfield 138, 3) := by decide +kernel
theorem dX12_goesOn_186 : decode cX12_goesOn 186 = .ok (.iconst 1, 1) := by decide +kernel
theorem dX12_goesOn_187 : decode cX12_goesOn 187 = .ok (.ireturn, 1) := by decide +kernel
theorem dX12_goesOn_188 : decode cX12_goesOn 188 = .ok (.iload_n 3, 1) := by decide +kernel
theorem dX12_goesOn_189 : decode cX12_goesOn 189 = .ok (.ifCond .eq 96, 3) := by decide +kernel
theorem dX12_goesOn_192 : decode cX12_goesOn 192 = .ok (.aload_n 0, 1) := by decide +kernel
theorem dX12_goesOn_193 : decode cX12_goesOn 193 = .ok (.getfield 113, 3) := by decide +kernel
theorem dX12_goesOn_196 : decode cX12_goesOn 196 = .ok (.iload_n 1, 1) := by decide +kernel
theorem dX12_goesOn_197 : decode cX12_goesOn 197 = .ok (.iaload, 1) := by decide +kernel
theorem dX12_goesOn_198 : decode cX12_goesOn 198 = .ok (.ifCond .ne 87, 3) := by decide +kernel
theorem dX12_goesOn_201 : decode cX12_goesOn 201 = .ok (.aload_n 0, 1) := by decide +kernel
theorem dX12_goesOn_202 : decode cX12_goesOn 202 = .ok (.bipush 60, 2) := by decide +kernel
theorem dX12_goesOn_204 : decode cX12_goesOn 204 = .ok (.invokevirtual 256, 3) := by decide +kernel
theorem dX12_goesOn_207 : decode cX12_goesOn 207 = .ok (.ifCond .ne 21, 3) := by decide +kernel
theorem dX12_goesOn_210 : decode cX12_goesOn 210 = .ok (.aload_n 0, 1) := by decide +kernel
theorem dX12_goesOn_211 : decode cX12_goesOn 211 = .ok (.bipush 62, 2) := by decide +kernel
theorem dX12_goesOn_213 : decode cX12_goesOn 213 = .ok (.invokevirtual 256, 3) := by decide +kernel
theorem dX12_goesOn_216 : decode cX12_goesOn 216 = .ok (.ifCond .ne 12, 3) := by decide +kernel
theorem dX12_goesOn_219 : decode cX12_goesOn 219 = .ok (.aload_n 0, 1) := by decide +kernel
theorem dX12_goesOn_220 : decode cX12_goesOn 220 = .ok (.bipush 61, 2) := by decide +kernel
theorem dX12_goesOn_222 : decode cX12_goesOn 222 = .ok (.invokevirtual 256, 3) := by decide +kernel
theorem dX12_goesOn_225 : decode cX12_goesOn 225 = .ok (.ifCond .eq 60, 3) := by decide +kernel
theorem dX12_goesOn_228 : decode cX12_goesOn 228 = .ok (.aload_n 0, 1) := by decide +kernel
theorem dX12_goesOn_229 : decode cX12_goesOn 229 = .ok (.iconst 5, 1) := by decide +kernel
theorem dX12_goesOn_230 : decode cX12_goesOn 230 = .ok (.invokevirtual 344, 3) := by decide +kernel
theorem dX12_goesOn_233 : decode cX12_goesOn 233 = .ok (.aload_n 0, 1) := by decide +kernel
theorem dX12_goesOn_234 : decode cX12_goesOn 234 = .ok (.aload_n 0, 1) := by decide +kernel
theorem dX12_goesOn_235 : decode cX12_goesOn 235 = .ok (.bipush 60, 2) := by decide +kernel
theorem dX12_goesOn_237 : decode cX12_goesOn 237 = .ok (.invokevirtual 256, 3) := by decide +kernel
theorem dX12_goesOn_240 : decode cX12_goesOn 240 = .ok (.ifCond .eq 8, 3) := by decide +kernel
theorem dX12_goesOn_243 : decode cX12_goesOn 243 = .ok (.bipush 38, 2) := by decide +kernel
theorem dX12_goesOn_245 : decode cX12_goesOn 245 = .ok (.goto 19, 3) := by decide +kernel
theorem dX12_goesOn_248 : decode cX12_goesOn 248 = .ok (.aload_n 0, 1) := by decide +kernel
theorem dX12_goesOn_249 : decode cX12_goesOn 249 = .ok (.bipush 62, 2) := by decide +kernel
theorem dX12_goesOn_251 : decode cX12_goesOn 251 = .ok (.invokevirtual 256, 3) := by decide +kernel
theorem dX12_goesOn_254 : decode cX12_goesOn 254 = .ok (.ifCond .eq 8, 3) := by decide +kernel
theorem dX12_goesOn_257 : decode cX12_goesOn 257 = .ok (.bipush 39, 2) := by decide +kernel
theorem dX12_goesOn_259 : decode cX12_goesOn 259 = .ok (.goto 5, 3) := by decide +kernel
theorem dX12_goesOn_262 : decode cX12_goesOn 262 = .ok (.bipush 40, 2) := by decide +kernel
theorem dX12_goesOn_264 : decode cX12_goesOn 264 = .ok (.invokevirtual 338, 3) := by decide +kernel
theorem dX12_goesOn_267 : decode cX12_goesOn 267 = .ok (.aload_n 0, 1) := by decide +kernel
theorem dX12_goesOn_268 : decode cX12_goesOn 268 = .ok (.getfield 113, 3) := by decide +kernel
theorem dX12_goesOn_271 : decode cX12_goesOn 271 = .ok (.iload_n 1, 1) := by decide +kernel
theorem dX12_goesOn_272 : decode cX12_goesOn 272 = .ok (.iconst 1, 1) := by decide +kernel
theorem dX12_goesOn_273 : decode cX12_goesOn 273 = .ok (.iastore, 1) := by decide +kernel
theorem dX12_goesOn_274 : decode cX12_goesOn 274 = .ok (.aload_n 0, 1) := by decide +kernel
theorem dX12_goesOn_275 : decode cX12_goesOn 275 = .ok (.invokevirtual 259, 3) := by decide +kernel
theorem dX12_goesOn_278 : decode cX12_goesOn 278 = .ok (.aload_n 0, 1) := by decide +kernel
theorem dX12_goesOn_279 : decode cX12_goesOn 279 = .ok (.iconst 0, 1) := by decide +kernel
theorem dX12_goesOn_280 : decode cX12_goesOn 280 = .ok (.putfield 138, 3) := by decide +kernel
theorem dX12_goesOn_283 : decode cX12_goesOn 283 = .ok (.iconst 1, 1) := by decide +kernel
theorem dX12_goesOn_284 : decode cX12_goesOn 284 = .ok (.ireturn, 1) := by decide +kernel
theorem dX12_goesOn_285 : decode cX12_goesOn 285 = .ok (.iload_n 3, 1) := by decide +kernel
theorem dX12_goesOn_286 : decode cX12_goesOn 286 = .ok (.ifCond .eq 114, 3) := by decide +kernel
theorem dX12_goesOn_289 : decode cX12_goesOn 289 = .ok (.aload_n 0, 1) := by decide +kernel
theorem dX12_goesOn_290 : decode cX12_goesOn 290 = .ok (.ldc2_w 308, 3) := by decide +kernel
theorem dX12_goesOn_293 : decode cX12_goesOn 293 = .ok (.invokevirtual 334, 3) := by decide +kernel
theorem dX12_goesOn_296 : decode cX12_goesOn 296 = .ok (.ifCond .ne 13, 3) := by decide +kernel
theorem dX12_goesOn_299 : decode cX12_goesOn 299 = .ok (.aload_n 0, 1) := by decide +kernel
theorem dX12_goesOn_300 : decode cX12_goesOn 300 = .ok (.ldc2_w 306, 3) := by decide +kernel
theorem dX12_goesOn_303 : decode cX12_goesOn 303 = .ok (.invokevirtual 334, 3) := by decide +kernel
theorem dX12_goesOn_306 : decode cX12_goesOn 306 = .ok (.ifCond .eq 94, 3) := by decide +kernel
theorem dX12_goesOn_309 : decode cX12_goesOn 309 = .ok (.aload_n 0, 1) := by decide +kernel
theorem dX12_goesOn_310 : decode cX12_goesOn 310 = .ok (.getfield 113, 3) := by decide +kernel
theorem dX12_goesOn_313 : decode cX12_goesOn 313 = .ok (.iload_n 1, 1) := by decide +kernel
theorem dX12_goesOn_314 : decode cX12_goesOn 314 = .ok (.iaload, 1) := by decide +kernel
theorem dX12_goesOn_315 : decode cX12_goesOn 315 = .ok (.ifCond .ne 12, 3) := by decide +kernel
theorem dX12_goesOn_318 : decode cX12_goesOn 318 = .ok (.aload_n 0, 1) := by decide +kernel
theorem dX12_goesOn_319 : decode cX12_goesOn 319 = .ok (.iconst 1, 1) := by decide +kernel
theorem dX12_goesOn_320 : decode cX12_goesOn 320 = .ok (.aload_n 0, 1) := by decide +kernel
theorem dX12_goesOn_321 : decode cX12_goesOn 321 = .ok (.getfield 23, 3) := by decide +kernel
theorem dX12_goesOn_324 : decode cX12_goesOn 324 = .ok (.invokevirtual 242, 3) := by decide +kernel
theorem dX12_goesOn_327 : decode cX12_goesOn 327 = .ok (.aload_n 0, 1) := by decide +kernel
theorem dX12_goesOn_328 : decode cX12_goesOn 328 = .ok (.getfield 36, 3) := by decide +kernel
theorem dX12_goesOn_331 : decode cX12_goesOn 331 = .ok (.ifCond .le 5, 3) := by decide +kernel
theorem dX12_goesOn_334 : decode cX12_goesOn 334 = .ok (.iconst 0, 1) := by decide +kernel
theorem dX12_goesOn_335 : decode cX12_goesOn 335 = .ok (.ireturn, 1) := by decide +kernel
theorem dX12_goesOn_336 : decode cX12_goesOn 336 = .ok (.aload_n 0, 1) := by decide +kernel
theorem dX12_goesOn_337 : decode cX12_goesOn 337 = .ok (.ldc2_w 308, 3) := by decide +kernel
theorem dX12_goesOn_340 : decode cX12_goesOn 340 = .ok (.invokevirtual 334, 3) := by decide +kernel
theorem dX12_goesOn_343 : decode cX12_goesOn 343 = .ok (.istore 4, 2) := by decide +kernel
theorem dX12_goesOn_345 : decode cX12_goesOn 345 = .ok (.aload_n 0, 1) := by decide +kernel
theorem dX12_goesOn_346 : decode cX12_goesOn 346 = .ok (.iload 4, 2) := by decide +kernel
theorem dX12_goesOn_348 : decode cX12_goesOn 348 = .ok (.ifCond .eq 7, 3) := by decide +kernel
theorem dX12_goesOn_351 : decode cX12_goesOn 351 = .ok (.iconst 2, 1) := by decide +kernel
theorem dX12_goesOn_352 : decode cX12_goesOn 352 = .ok (.goto 4, 3) := by decide +kernel
theorem dX12_goesOn_355 : decode cX12_goesOn 355 = .ok (.iconst 1, 1) := by decide +kernel
theorem dX12_goesOn_356 : decode cX12_goesOn 356 = .ok (.invokevirtual 344, 3) := by decide +kernel
theorem dX12_goesOn_359 : decode cX12_goesOn 359 = .ok (.aload_n 0, 1) := by decide +kernel
theorem dX12_goesOn_360 : decode cX12_goesOn 360 = .ok (.iload 4, 2) := by decide +kernel
theorem dX12_goesOn_362 : decode cX12_goesOn 362 = .ok (.ifCond .eq 8, 3) := by decide +kernel
theorem dX12_goesOn_365 : decode cX12_goesOn 365 = .ok (.bipush 41, 2) := by decide +kernel
theorem dX12_goesOn_367 : decode cX12_goesOn 367 = .ok (.goto 5, 3) := by decide +kernel
theorem dX12_goesOn_370 : decode cX12_goesOn 370 = .ok (.bipush 42, 2) := by decide +kernel
theorem dX12_goesOn_372 : decode cX12_goesOn 372 = .ok (.invokevirtual 338, 3) := by decide +kernel
theorem dX12_goesOn_375 : decode cX12_goesOn 375 = .ok (.aload_n 0, 1) := by decide +kernel
theorem dX12_goesOn_376 : decode cX12_goesOn 376 = .ok (.getfield 113, 3) := by decide +kernel
theorem dX12_goesOn_379 : decode cX12_goesOn 379 = .ok (.iload_n 1, 1) := by decide +kernel
theorem dX12_goesOn_380 : decode cX12_goesOn 380 = .ok (.iconst 0, 1) := by decide +kernel
theorem dX12_goesOn_381 : decode cX12_goesOn 381 = .ok (.iastore, 1) := by decide +kernel
theorem dX12_goesOn_382 : decode cX12_goesOn 382 = .ok (.aload_n 0, 1) := by decide +kernel
theorem dX12_goesOn_383 : decode cX12_goesOn 383 = .ok (.getfield 116, 3) := by decide +kernel
theorem dX12_goesOn_386 : decode cX12_goesOn 386 = .ok (.iload_n 1, 1) := by decide +kernel
theorem dX12_goesOn_387 : decode cX12_goesOn 387 = .ok (.iconst 1, 1) := by decide +kernel
theorem dX12_goesOn_388 : decode cX12_goesOn 388 = .ok (.bastore, 1) := by decide +kernel
theorem dX12_goesOn_389 : decode cX12_goesOn 389 = .ok (.aload_n 0, 1) := by decide +kernel
theorem dX12_goesOn_390 : decode cX12_goesOn 390 = .ok (.invokevirtual 259, 3) := by decide +kernel
theorem dX12_goesOn_393 : decode cX12_goesOn 393 = .ok (.aload_n 0, 1) := by decide +kernel
theorem dX12_goesOn_394 : decode cX12_goesOn 394 = .ok (.iconst 0, 1) := by decide +kernel
theorem dX12_goesOn_395 : decode cX12_goesOn 395 = .ok (.putfield 138, 3) := by decide +kernel
theorem dX12_goesOn_398 : decode cX12_goesOn 398 = .ok (.iconst 1, 1) := by decide +kernel
theorem dX12_goesOn_399 : decode cX12_goesOn 399 = .ok (.ireturn, 1) := by decide +kernel
theorem dX12_goesOn_400 : decode cX12_goesOn 400 = .ok (.iload_n 3, 1) := by decide +kernel
theorem dX12_goesOn_401 : decode cX12_goesOn 401 = .ok (.ifCond .eq 21, 3) := by decide +kernel
theorem dX12_goesOn_404 : decode cX12_goesOn 404 = .ok (.aload_n 0, 1) := by decide +kernel
theorem dX12_goesOn_405 : decode cX12_goesOn 405 = .ok (.getfield 113, 3) := by decide +kernel
theorem dX12_goesOn_408 : decode cX12_goesOn 408 = .ok (.iload_n 1, 1) := by decide +kernel
theorem dX12_goesOn_409 : decode cX12_goesOn 409 = .ok (.iaload, 1) := by decide +kernel
theorem dX12_goesOn_410 : decode cX12_goesOn 410 = .ok (.ifCond .ne 12, 3) := by decide +kernel
theorem dX12_goesOn_413 : decode cX12_goesOn 413 = .ok (.aload_n 0, 1) := by decide +kernel
theorem dX12_goesOn_414 : decode cX12_goesOn 414 = .ok (.iconst 1, 1) := by decide +kernel
theorem dX12_goesOn_415 : decode cX12_goesOn 415 = .ok (.aload_n 0, 1) := by decide +kernel
theorem dX12_goesOn_416 : decode cX12_goesOn 416 = .ok (.getfield 23, 3) := by decide +kernel
theorem dX12_goesOn_419 : decode cX12_goesOn 419 = .ok (.invokevirtual 242, 3) := by decide +kernel
theorem dX12_goesOn_422 : decode cX12_goesOn 422 = .ok (.iload_n 2, 1) := by decide +kernel
theorem dX12_goesOn_423 : decode cX12_goesOn 423 = .ok (.iconst 2, 1) := by decide +kernel
theorem dX12_goesOn_424 : decode cX12_goesOn 424 = .ok (.if_icmp .ge 17, 3) := by decide +kernel
theorem dX12_goesOn_427 : decode cX12_goesOn 427 = .ok (.aload_n 0, 1) := by decide +kernel
theorem dX12_goesOn_428 : decode cX12_goesOn 428 = .ok (.getfield 36, 3) := by decide +kernel
theorem dX12_goesOn_431 : decode cX12_goesOn 431 = .ok (.ifCond .ne 8, 3) := by decide +kernel
theorem dX12_goesOn_434 : decode cX12_goesOn 434 = .ok (.aload_n 0, 1) := by decide +kernel
theorem dX12_goesOn_435 : decode cX12_goesOn 435 = .ok (.iconst 1, 1) := by decide +kernel
theorem dX12_goesOn_436 : decode cX12_goesOn 436 = .ok (.invokevirtual 344, 3) := by decide +kernel
theorem dX12_goesOn_439 : decode cX12_goesOn 439 = .ok (.iconst 0, 1) := by decide +kernel
theorem dX12_goesOn_440 : decode cX12_goesOn 440 = .ok (.ireturn, 1) := by decide +kernel
theorem dX12_goesOn_441 : decode cX12_goesOn 441 = .ok (.iload_n 2, 1) := by decide +kernel
theorem dX12_goesOn_442 : decode cX12_goesOn 442 = .ok (.iconst 3, 1) := by decide +kernel
theorem dX12_goesOn_443 : decode cX12_goesOn 443 = .ok (.if_icmp .eq 9, 3) := by decide +kernel
theorem dX12_goesOn_446 : decode cX12_goesOn 446 = .ok (.iload_n 2, 1) := by decide +kernel
theorem dX12_goesOn_447 : decode cX12_goesOn 447 = .ok (.bipush 6, 2) := by decide +kernel
theorem dX12_goesOn_449 : decode cX12_goesOn 449 = .ok (.if_icmp .ne 69, 3) := by decide +kernel
theorem dX12_goesOn_452 : decode cX12_goesOn 452 = .ok (.aload_n 0, 1) := by decide +kernel
theorem dX12_goesOn_453 : decode cX12_goesOn 453 = .ok (.bipush 44, 2) := by decide +kernel
theorem dX12_goesOn_455 : decode cX12_goesOn 455 = .ok (.invokevirtual 256, 3) := by decide +kernel
theorem dX12_goesOn_458 : decode cX12_goesOn 458 = .ok (.ifCond .ne 12, 3) := by decide +kernel
theorem dX12_goesOn_461 : decode cX12_goesOn 461 = .ok (.aload_n 0, 1) := by decide +kernel
theorem dX12_goesOn_462 : decode cX12_goesOn 462 = .ok (.iconst 1, 1) := by decide +kernel
theorem dX12_goesOn_463 : decode cX12_goesOn 463 = .ok (.aload_n 0, 1) := by decide +kernel
theorem dX12_goesOn_464 : decode cX12_goesOn 464 = .ok (.getfield 23, 3) := by decide +kernel
theorem dX12_goesOn_467 : decode cX12_goesOn 467 = .ok (.invokevirtual 242, 3) := by decide +kernel
theorem dX12_goesOn_470 : decode cX12_goesOn 470 = .ok (.aload_n 0, 1) := by decide +kernel
theorem dX12_goesOn_471 : decode cX12_goesOn 471 = .ok (.getfield 36, 3) := by decide +kernel
theorem dX12_goesOn_474 : decode cX12_goesOn 474 = .ok (.ifCond .le 5, 3) := by decide +kernel
theorem dX12_goesOn_477 : decode cX12_goesOn 477 = .ok (.iconst 0, 1) := by decide +kernel
theorem dX12_goesOn_478 : decode cX12_goesOn 478 = .ok (.ireturn, 1) := by decide +kernel
theorem dX12_goesOn_479 : decode cX12_goesOn 479 = .ok (.aload_n 0, 1) := by decide +kernel
theorem dX12_goesOn_480 : decode cX12_goesOn 480 = .ok (.iconst 1, 1) := by decide +kernel
theorem dX12_goesOn_481 : decode cX12_goesOn 481 = .ok (.invokevirtual 344, 3) := by decide +kernel
theorem dX12_goesOn_484 : decode cX12_goesOn 484 = .ok (.aload_n 0, 1) := by decide +kernel
theorem dX12_goesOn_485 : decode cX12_goesOn 485 = .ok (.getfield 110, 3) := by decide +kernel
theorem dX12_goesOn_488 : decode cX12_goesOn 488 = .ok (.iload_n 1, 1) := by decide +kernel
theorem dX12_goesOn_489 : decode cX12_goesOn 489 = .ok (.iload_n 2, 1) := by decide +kernel
theorem dX12_goesOn_490 : decode cX12_goesOn 490 = .ok (.iconst 3, 1) := by decide +kernel
theorem dX12_goesOn_491 : decode cX12_goesOn 491 = .ok (.if_icmp .ne 7, 3) := by decide +kernel
theorem dX12_goesOn_494 : decode cX12_goesOn 494 = .ok (.iconst 4, 1) := by decide +kernel
theorem dX12_goesOn_495 : decode cX12_goesOn 495 = .ok (.goto 4, 3) := by decide +kernel
theorem dX12_goesOn_498 : decode cX12_goesOn 498 = .ok (.iconst 3, 1) := by decide +kernel
theorem dX12_goesOn_499 : decode cX12_goesOn 499 = .ok (.iastore, 1) := by decide +kernel
theorem dX12_goesOn_500 : decode cX12_goesOn 500 = .ok (.aload_n 0, 1) := by decide +kernel
theorem dX12_goesOn_501 : decode cX12_goesOn 501 = .ok (.getfield 113, 3) := by decide +kernel
theorem dX12_goesOn_504 : decode cX12_goesOn 504 = .ok (.iload_n 1, 1) := by decide +kernel
theorem dX12_goesOn_505 : decode cX12_goesOn 505 = .ok (.iconst 0, 1) := by decide +kernel
theorem dX12_goesOn_506 : decode cX12_goesOn 506 = .ok (.iastore, 1) := by decide +kernel
theorem dX12_goesOn_507 : decode cX12_goesOn 507 = .ok (.aload_n 0, 1) := by decide +kernel
theorem dX12_goesOn_508 : decode cX12_goesOn 508 = .ok (.invokevirtual 259, 3) := by decide +kernel
theorem dX12_goesOn_511 : decode cX12_goesOn 511 = .ok (.aload_n 0, 1) := by decide +kernel
theorem dX12_goesOn_512 : decode cX12_goesOn 512 = .ok (.iconst 0, 1) := by decide +kernel
theorem dX12_goesOn_513 : decode cX12_goesOn 513 = .ok (.putfield 138, 3) := by decide +kernel
theorem dX12_goesOn_516 : decode cX12_goesOn 516 = .ok (.iconst 1, 1) := by decide +kernel
theorem dX12_goesOn_517 : decode cX12_goesOn 517 = .ok (.ireturn, 1) := by decide +kernel
theorem dX12_goesOn_518 : decode cX12_goesOn 518 = .ok (.aload_n 0, 1) := by decide +kernel
theorem dX12_goesOn_519 : decode cX12_goesOn 519 = .ok (.iload_n 2, 1) := by decide +kernel
theorem dX12_goesOn_520 : decode cX12_goesOn 520 = .ok (.iconst 5, 1) := by decide +kernel
theorem dX12_goesOn_521 : decode cX12_goesOn 521 = .ok (.if_icmp .ne 8, 3) := by decide +kernel
theorem dX12_goesOn_524 : decode cX12_goesOn 524 = .ok (.bipush 93, 2) := by decide +kernel
theorem dX12_goesOn_526 : decode cX12_goesOn 526 = .ok (.goto 5, 3) := by decide +kernel
theorem dX12_goesOn_529 : decode cX12_goesOn 529 = .ok (.bipush 41, 2) := by decide +kernel
theorem dX12_goesOn_531 : decode cX12_goesOn 531 = .ok (.invokevirtual 256, 3) := by decide +kernel
theorem dX12_goesOn_534 : decode cX12_goesOn 534 = .ok (.ifCond .ne 12, 3) := by decide +kernel
theorem dX12_goesOn_537 : decode cX12_goesOn 537 = .ok (.aload_n 0, 1) := by decide +kernel
theorem dX12_goesOn_538 : decode cX12_goesOn 538 = .ok (.iconst 1, 1) := by decide +kernel
theorem dX12_goesOn_539 : decode cX12_goesOn 539 = .ok (.aload_n 0, 1) := by decide +kernel
theorem dX12_goesOn_540 : decode cX12_goesOn 540 = .ok (.getfield 23, 3) := by decide +kernel
theorem dX12_goesOn_543 : decode cX12_goesOn 543 = .ok (.invokevirtual 242, 3) := by decide +kernel
theorem dX12_goesOn_546 : decode cX12_goesOn 546 = .ok (.aload_n 0, 1) := by decide +kernel
theorem dX12_goesOn_547 : decode cX12_goesOn 547 = .ok (.getfield 36, 3) := by decide +kernel
theorem dX12_goesOn_550 : decode cX12_goesOn 550 = .ok (.ifCond .le 5, 3) := by decide +kernel
theorem dX12_goesOn_553 : decode cX12_goesOn 553 = .ok (.iconst 0, 1) := by decide +kernel
theorem dX12_goesOn_554 : decode cX12_goesOn 554 = .ok (.ireturn, 1) := by decide +kernel
theorem dX12_goesOn_555 : decode cX12_goesOn 555 = .ok (.aload_n 0, 1) := by decide +kernel
theorem dX12_goesOn_556 : decode cX12_goesOn 556 = .ok (.iconst 1, 1) := by decide +kernel
theorem dX12_goesOn_557 : decode cX12_goesOn 557 = .ok (.invokevirtual 344, 3) := by decide +kernel
theorem dX12_goesOn_560 : decode cX12_goesOn 560 = .ok (.aload_n 0, 1) := by decide +kernel
theorem dX12_goesOn_561 : decode cX12_goesOn 561 = .ok (.dup, 1) := by decide +kernel
theorem dX12_goesOn_562 : decode cX12_goesOn 562 = .ok (.getfield 126, 3) := by decide +kernel
theorem dX12_goesOn_565 : decode cX12_goesOn 565 = .ok (.iconst 1, 1) := by decide +kernel
theorem dX12_goesOn_566 : decode cX12_goesOn 566 = .ok (.isub, 1) := by decide +kernel
theorem dX12_goesOn_567 : decode cX12_goesOn 567 = .ok (.putfield 126, 3) := by decide +kernel
theorem dX12_goesOn_570 : decode cX12_goesOn 570 = .ok (.aload_n 0, 1) := by decide +kernel
theorem dX12_goesOn_571 : decode cX12_goesOn 571 = .ok (.dup, 1) := by decide +kernel
theorem dX12_goesOn_572 : decode cX12_goesOn 572 = .ok (.getfield 129, 3) := by decide +kernel
theorem dX12_goesOn_575 : decode cX12_goesOn 575 = .ok (.iconst 1, 1) := by decide +kernel
theorem dX12_goesOn_576 : decode cX12_goesOn 576 = .ok (.isub, 1) := by decide +kernel
theorem dX12_goesOn_577 : decode cX12_goesOn 577 = .ok (.putfield 129, 3) := by decide +kernel
theorem dX12_goesOn_580 : decode cX12_goesOn 580 = .ok (.iload_n 2, 1) := by decide +kernel
theorem dX12_goesOn_581 : decode cX12_goesOn 581 = .ok (.iconst 4, 1) := by decide +kernel
theorem dX12_goesOn_582 : decode cX12_goesOn 582 = .ok (.if_icmp .ne 14, 3) := by decide +kernel
theorem dX12_goesOn_585 : decode cX12_goesOn 585 = .ok (.aload_n 0, 1) := by decide +kernel
theorem dX12_goesOn_586 : decode cX12_goesOn 586 = .ok (.aload_n 0, 1) := by decide +kernel
theorem dX12_goesOn_587 : decode cX12_goesOn 587 = .ok (.getfield 120, 3) := by decide +kernel
theorem dX12_goesOn_590 : decode cX12_goesOn 590 = .ok (.iload_n 1, 1) := by decide +kernel
theorem dX12_goesOn_591 : decode cX12_goesOn 591 = .ok (.iaload, 1) := by decide +kernel
theorem dX12_goesOn_592 : decode cX12_goesOn 592 = .ok (.iconst 0, 1) := by decide +kernel
theorem dX12_goesOn_593 : decode cX12_goesOn 593 = .ok (.invokevirtual 325, 3) := by decide +kernel
theorem dX12_goesOn_596 : decode cX12_goesOn 596 = .ok (.iload_n 2, 1) := by decide +kernel
theorem dX12_goesOn_597 : decode cX12_goesOn 597 = .ok (.iconst 5, 1) := by decide +kernel
theorem dX12_goesOn_598 : decode cX12_goesOn 598 = .ok (.if_icmp .ne 15, 3) := by decide +kernel
theorem dX12_goesOn_601 : decode cX12_goesOn 601 = .ok (.aload_n 0, 1) := by decide +kernel
theorem dX12_goesOn_602 : decode cX12_goesOn 602 = .ok (.getfield 113, 3) := by decide +kernel
theorem dX12_goesOn_605 : decode cX12_goesOn 605 = .ok (.aload_n 0, 1) := by decide +kernel
theorem dX12_goesOn_606 : decode cX12_goesOn 606 = .ok (.getfield 126, 3) := by decide +kernel
theorem dX12_goesOn_609 : decode cX12_goesOn 609 = .ok (.iconst 1, 1) := by decide +kernel
theorem dX12_goesOn_610 : decode cX12_goesOn 610 = .ok (.isub, 1) := by decide +kernel
theorem dX12_goesOn_611 : decode cX12_goesOn 611 = .ok (.iconst 2, 1) := by decide +kernel
theorem dX12_goesOn_612 : decode cX12_goesOn 612 = .ok (.iastore, 1) := by decide +kernel
theorem dX12_goesOn_613 : decode cX12_goesOn 613 = .ok (.aload_n 0, 1) := by decide +kernel
theorem dX12_goesOn_614 : decode cX12_goesOn 614 = .ok (.invokevirtual 259, 3) := by decide +kernel
theorem dX12_goesOn_617 : decode cX12_goesOn 617 = .ok (.iconst 1, 1) := by decide +kernel
theorem dX12_goesOn_618 : decode cX12_goesOn 618 = .ok (.ireturn, 1) := by decide +kernel
theorem dX12_reads_0 : decode cX12_reads 0 = .ok (.aload_n 0, 1) := by decide +kernel
theorem dX12_reads_1 : decode cX12_reads 1 = .ok (.getfield 36, 3) := by decide +kernel
theorem dX12_reads_4 : decode cX12_reads 4 = .ok (.ifCond .le 4, 3) := by decide +kernel
theorem dX12_reads_7 : decode cX12_reads 7 = .ok (.return_, 1) := by decide +kernel
theorem dX12_reads_8 : decode cX12_reads 8 = .ok (.aload_n 0, 1) := by decide +kernel
theorem dX12_reads_9 : decode cX12_reads 9 = .ok (.iconst 0, 1) := by decide +kernel
theorem dX12_reads_10 : decode cX12_reads 10 = .ok (.putfield 126, 3) := by decide +kernel
theorem dX12_reads_13 : decode cX12_reads 13 = .ok (.aload_n 0, 1) := by decide +kernel
theorem dX12_reads_14 : decode cX12_reads 14 = .ok (.iconst 0, 1) := by decide +kernel
theorem dX12_reads_15 : decode cX12_reads 15 = .ok (.putfield 129, 3) := by decide +kernel
theorem dX12_reads_18 : decode cX12_reads 18 = .ok (.aload_n 0, 1) := by decide +kernel
theorem dX12_reads_19 : decode cX12_reads 19 = .ok (.iconst 0, 1) := by decide +kernel
theorem dX12_reads_20 : decode cX12_reads 20 = .ok (.putfield 135, 3) := by decide +kernel
theorem dX12_reads_23 : decode cX12_reads 23 = .ok (.aload_n 0, 1) := by decide +kernel
theorem dX12_reads_24 : decode cX12_reads 24 = .ok (.iconst 0, 1) := by decide +kernel
theorem dX12_reads_25 : decode cX12_reads 25 = .ok (.putfield 138, 3) := by decide +kernel
theorem dX12_reads_28 : decode cX12_reads 28 = .ok (.aload_n 0, 1) := by decide +kernel
theorem dX12_reads_29 : decode cX12_reads 29 = .ok (.iload_n 1, 1) := by decide +kernel
theorem dX12_reads_30 : decode cX12_reads 30 = .ok (.ifCond .eq 7, 3) := by decide +kernel
theorem dX12_reads_33 : decode cX12_reads 33 = .ok (.iconst 1, 1) := by decide +kernel
theorem dX12_reads_34 : decode cX12_reads 34 = .ok (.goto 4, 3) := by decide +kernel
theorem dX12_reads_37 : decode cX12_reads 37 = .ok (.iconst 0, 1) := by decide +kernel
theorem dX12_reads_38 : decode cX12_reads 38 = .ok (.invokevirtual 328, 3) := by decide +kernel
theorem dX12_reads_41 : decode cX12_reads 41 = .ok (.iconst 1, 1) := by decide +kernel
theorem dX12_reads_42 : decode cX12_reads 42 = .ok (.istore_n 2, 1) := by decide +kernel
theorem dX12_reads_43 : decode cX12_reads 43 = .ok (.iload_n 2, 1) := by decide +kernel
theorem dX12_reads_44 : decode cX12_reads 44 = .ok (.ifCond .eq 46, 3) := by decide +kernel
theorem dX12_reads_47 : decode cX12_reads 47 = .ok (.aload_n 0, 1) := by decide +kernel
theorem dX12_reads_48 : decode cX12_reads 48 = .ok (.getfield 138, 3) := by decide +kernel
theorem dX12_reads_51 : decode cX12_reads 51 = .ok (.ifCond .ne 14, 3) := by decide +kernel
theorem dX12_reads_54 : decode cX12_reads 54 = .ok (.aload_n 0, 1) := by decide +kernel
theorem dX12_reads_55 : decode cX12_reads 55 = .ok (.aload_n 0, 1) := by decide +kernel
theorem dX12_reads_56 : decode cX12_reads 56 = .ok (.invokevirtual 347, 3) := by decide +kernel
theorem dX12_reads_59 : decode cX12_reads 59 = .ok (.putfield 138, 3) := by decide +kernel
theorem dX12_reads_62 : decode cX12_reads 62 = .ok (.goto 8, 3) := by decide +kernel
theorem dX12_reads_65 : decode cX12_reads 65 = .ok (.aload_n 0, 1) := by decide +kernel
theorem dX12_reads_66 : decode cX12_reads 66 = .ok (.invokevirtual 350, 3) := by decide +kernel
theorem dX12_reads_69 : decode cX12_reads 69 = .ok (.istore_n 2, 1) := by decide +kernel
theorem dX12_reads_70 : decode cX12_reads 70 = .ok (.iload_n 2, 1) := by decide +kernel
theorem dX12_reads_71 : decode cX12_reads 71 = .ok (.ifCond .eq 14, 3) := by decide +kernel
theorem dX12_reads_74 : decode cX12_reads 74 = .ok (.aload_n 0, 1) := by decide +kernel
theorem dX12_reads_75 : decode cX12_reads 75 = .ok (.getfield 36, 3) := by decide +kernel
theorem dX12_reads_78 : decode cX12_reads 78 = .ok (.ifCond .ne 7, 3) := by decide +kernel
theorem dX12_reads_81 : decode cX12_reads 81 = .ok (.iconst 1, 1) := by decide +kernel
theorem dX12_reads_82 : decode cX12_reads 82 = .ok (.goto 4, 3) := by decide +kernel
theorem dX12_reads_85 : decode cX12_reads 85 = .ok (.iconst 0, 1) := by decide +kernel
theorem dX12_reads_86 : decode cX12_reads 86 = .ok (.istore_n 2, 1) := by decide +kernel
theorem dX12_reads_87 : decode cX12_reads 87 = .ok (.goto (-44), 3) := by decide +kernel
theorem dX12_reads_90 : decode cX12_reads 90 = .ok (.return_, 1) := by decide +kernel
theorem dX12_counts_0 : decode cX12_counts 0 = .ok (.aload_n 0, 1) := by decide +kernel
theorem dX12_counts_1 : decode cX12_counts 1 = .ok (.getfield 36, 3) := by decide +kernel
theorem dX12_counts_4 : decode cX12_counts 4 = .ok (.ifCond .ne 17, 3) := by decide +kernel
theorem dX12_counts_7 : decode cX12_counts 7 = .ok (.iload_n 1, 1) := by decide +kernel
theorem dX12_counts_8 : decode cX12_counts 8 = .ok (.ifCond .eq 13, 3) := by decide +kernel
theorem dX12_counts_11 : decode cX12_counts 11 = .ok (.aload_n 0, 1) := by decide +kernel
theorem dX12_counts_12 : decode cX12_counts 12 = .ok (.bipush 6, 2) := by decide +kernel
theorem dX12_counts_14 : decode cX12_counts 14 = .ok (.aload_n 0, 1) := by decide +kernel
theorem dX12_counts_15 : decode cX12_counts 15 = .ok (.getfield 23, 3) := by decide +kernel
theorem dX12_counts_18 : decode cX12_counts 18 = .ok (.invokevirtual 242, 3) := by decide +kernel
theorem dX12_counts_21 : decode cX12_counts 21 = .ok (.aload_n 0, 1) := by decide +kernel
theorem dX12_counts_22 : decode cX12_counts 22 = .ok (.getfield 36, 3) := by decide +kernel
theorem dX12_counts_25 : decode cX12_counts 25 = .ok (.ifCond .ne 7, 3) := by decide +kernel
theorem dX12_counts_28 : decode cX12_counts 28 = .ok (.aload_n 0, 1) := by decide +kernel
theorem dX12_counts_29 : decode cX12_counts 29 = .ok (.invokevirtual 259, 3) := by decide +kernel
theorem dX12_counts_32 : decode cX12_counts 32 = .ok (.aload_n 0, 1) := by decide +kernel
theorem dX12_counts_33 : decode cX12_counts 33 = .ok (.getfield 36, 3) := by decide +kernel
theorem dX12_counts_36 : decode cX12_counts 36 = .ok (.ifCond .ne 7, 3) := by decide +kernel
theorem dX12_counts_39 : decode cX12_counts 39 = .ok (.iconst 1, 1) := by decide +kernel
theorem dX12_counts_40 : decode cX12_counts 40 = .ok (.goto 4, 3) := by decide +kernel
theorem dX12_counts_43 : decode cX12_counts 43 = .ok (.iconst 0, 1) := by decide +kernel
theorem dX12_counts_44 : decode cX12_counts 44 = .ok (.ireturn, 1) := by decide +kernel
theorem dX12_must__0 : decode cX12_must_ 0 = .ok (.aload_n 0, 1) := by decide +kernel
theorem dX12_must__1 : decode cX12_must_ 1 = .ok (.invokevirtual 253, 3) := by decide +kernel
theorem dX12_must__4 : decode cX12_must_ 4 = .ok (.aload_n 0, 1) := by decide +kernel
theorem dX12_must__5 : decode cX12_must_ 5 = .ok (.getfield 36, 3) := by decide +kernel
theorem dX12_must__8 : decode cX12_must_ 8 = .ok (.ifCond .le 4, 3) := by decide +kernel
theorem dX12_must__11 : decode cX12_must_ 11 = .ok (.return_, 1) := by decide +kernel
theorem dX12_must__12 : decode cX12_must_ 12 = .ok (.aload_n 0, 1) := by decide +kernel
theorem dX12_must__13 : decode cX12_must_ 13 = .ok (.lload_n 1, 1) := by decide +kernel
theorem dX12_must__14 : decode cX12_must_ 14 = .ok (.invokevirtual 334, 3) := by decide +kernel
theorem dX12_must__17 : decode cX12_must_ 17 = .ok (.ifCond .ne 12, 3) := by decide +kernel
theorem dX12_must__20 : decode cX12_must_ 20 = .ok (.aload_n 0, 1) := by decide +kernel
theorem dX12_must__21 : decode cX12_must_ 21 = .ok (.iconst 1, 1) := by decide +kernel
theorem dX12_must__22 : decode cX12_must_ 22 = .ok (.aload_n 0, 1) := by decide +kernel
theorem dX12_must__23 : decode cX12_must_ 23 = .ok (.getfield 23, 3) := by decide +kernel
theorem dX12_must__26 : decode cX12_must_ 26 = .ok (.invokevirtual 242, 3) := by decide +kernel
theorem dX12_must__29 : decode cX12_must_ 29 = .ok (.aload_n 0, 1) := by decide +kernel
theorem dX12_must__30 : decode cX12_must_ 30 = .ok (.getfield 36, 3) := by decide +kernel
theorem dX12_must__33 : decode cX12_must_ 33 = .ok (.ifCond .ne 7, 3) := by decide +kernel
theorem dX12_must__36 : decode cX12_must_ 36 = .ok (.aload_n 0, 1) := by decide +kernel
theorem dX12_must__37 : decode cX12_must_ 37 = .ok (.invokevirtual 259, 3) := by decide +kernel
theorem dX12_must__40 : decode cX12_must_ 40 = .ok (.return_, 1) := by decide +kernel
theorem dX12_fresh_0 : decode cX12_fresh 0 = .ok (.aload_n 0, 1) := by decide +kernel
theorem dX12_fresh_1 : decode cX12_fresh 1 = .ok (.invokevirtual 253, 3) := by decide +kernel
theorem dX12_fresh_4 : decode cX12_fresh 4 = .ok (.aload_n 0, 1) := by decide +kernel
theorem dX12_fresh_5 : decode cX12_fresh 5 = .ok (.getfield 36, 3) := by decide +kernel
theorem dX12_fresh_8 : decode cX12_fresh 8 = .ok (.ifCond .le 5, 3) := by decide +kernel
theorem dX12_fresh_11 : decode cX12_fresh 11 = .ok (.lconst 0, 1) := by decide +kernel
theorem dX12_fresh_12 : decode cX12_fresh 12 = .ok (.lreturn, 1) := by decide +kernel
theorem dX12_fresh_13 : decode cX12_fresh 13 = .ok (.aload_n 0, 1) := by decide +kernel
theorem dX12_fresh_14 : decode cX12_fresh 14 = .ok (.getfield 20, 3) := by decide +kernel
theorem dX12_fresh_17 : decode cX12_fresh 17 = .ok (.iconst 1, 1) := by decide +kernel
theorem dX12_fresh_18 : decode cX12_fresh 18 = .ok (.if_icmp .ne 14, 3) := by decide +kernel
theorem dX12_fresh_21 : decode cX12_fresh 21 = .ok (.aload_n 0, 1) := by decide +kernel
theorem dX12_fresh_22 : decode cX12_fresh 22 = .ok (.aload_n 0, 1) := by decide +kernel
theorem dX12_fresh_23 : decode cX12_fresh 23 = .ok (.getfield 32, 3) := by decide +kernel
theorem dX12_fresh_26 : decode cX12_fresh 26 = .ok (.invokevirtual 353, 3) := by decide +kernel
theorem dX12_fresh_29 : decode cX12_fresh 29 = .ok (.ifCond .eq 12, 3) := by decide +kernel
theorem dX12_fresh_32 : decode cX12_fresh 32 = .ok (.aload_n 0, 1) := by decide +kernel
theorem dX12_fresh_33 : decode cX12_fresh 33 = .ok (.iconst 1, 1) := by decide +kernel
theorem dX12_fresh_34 : decode cX12_fresh 34 = .ok (.aload_n 0, 1) := by decide +kernel
theorem dX12_fresh_35 : decode cX12_fresh 35 = .ok (.getfield 23, 3) := by decide +kernel
theorem dX12_fresh_38 : decode cX12_fresh 38 = .ok (.invokevirtual 242, 3) := by decide +kernel
theorem dX12_fresh_41 : decode cX12_fresh 41 = .ok (.aload_n 0, 1) := by decide +kernel
theorem dX12_fresh_42 : decode cX12_fresh 42 = .ok (.getfield 36, 3) := by decide +kernel
theorem dX12_fresh_45 : decode cX12_fresh 45 = .ok (.ifCond .ne 24, 3) := by decide +kernel
theorem dX12_fresh_48 : decode cX12_fresh 48 = .ok (.aload_n 0, 1) := by decide +kernel
theorem dX12_fresh_49 : decode cX12_fresh 49 = .ok (.aload_n 0, 1) := by decide +kernel
theorem dX12_fresh_50 : decode cX12_fresh 50 = .ok (.getfield 32, 3) := by decide +kernel
theorem dX12_fresh_53 : decode cX12_fresh 53 = .ok (.invokevirtual 356, 3) := by decide +kernel
theorem dX12_fresh_56 : decode cX12_fresh 56 = .ok (.iconst (-1), 1) := by decide +kernel
theorem dX12_fresh_57 : decode cX12_fresh 57 = .ok (.if_icmp .eq 12, 3) := by decide +kernel
theorem dX12_fresh_60 : decode cX12_fresh 60 = .ok (.aload_n 0, 1) := by decide +kernel
theorem dX12_fresh_61 : decode cX12_fresh 61 = .ok (.iconst 2, 1) := by decide +kernel
theorem dX12_fresh_62 : decode cX12_fresh 62 = .ok (.aload_n 0, 1) := by decide +kernel
theorem dX12_fresh_63 : decode cX12_fresh 63 = .ok (.getfield 23, 3) := by decide +kernel
theorem dX12_fresh_66 : decode cX12_fresh 66 = .ok (.invokevirtual 242, 3) := by decide +kernel
theorem dX12_fresh_69 : decode cX12_fresh 69 = .ok (.aload_n 0, 1) := by decide +kernel
theorem dX12_fresh_70 : decode cX12_fresh 70 = .ok (.getfield 32, 3) := by decide +kernel
theorem dX12_fresh_73 : decode cX12_fresh 73 = .ok (.lstore_n 1, 1) := by decide +kernel
theorem dX12_fresh_74 : decode cX12_fresh 74 = .ok (.aload_n 0, 1) := by decide +kernel
theorem dX12_fresh_75 : decode cX12_fresh 75 = .ok (.getfield 36, 3) := by decide +kernel
theorem dX12_fresh_78 : decode cX12_fresh 78 = .ok (.ifCond .ne 7, 3) := by decide +kernel
theorem dX12_fresh_81 : decode cX12_fresh 81 = .ok (.aload_n 0, 1) := by decide +kernel
theorem dX12_fresh_82 : decode cX12_fresh 82 = .ok (.invokevirtual 259, 3) := by decide +kernel
theorem dX12_fresh_85 : decode cX12_fresh 85 = .ok (.lload_n 1, 1) := by decide +kernel
theorem dX12_fresh_86 : decode cX12_fresh 86 = .ok (.lreturn, 1) := by decide +kernel
theorem dX12_known_0 : decode cX12_known 0 = .ok (.aload_n 0, 1) := by decide +kernel
theorem dX12_known_1 : decode cX12_known 1 = .ok (.invokevirtual 253, 3) := by decide +kernel
theorem dX12_known_4 : decode cX12_known 4 = .ok (.aload_n 0, 1) := by decide +kernel
theorem dX12_known_5 : decode cX12_known 5 = .ok (.getfield 36, 3) := by decide +kernel
theorem dX12_known_8 : decode cX12_known 8 = .ok (.ifCond .le 5, 3) := by decide +kernel
theorem dX12_known_11 : decode cX12_known 11 = .ok (.iconst 0, 1) := by decide +kernel
theorem dX12_known_12 : decode cX12_known 12 = .ok (.ireturn, 1) := by decide +kernel
theorem dX12_known_13 : decode cX12_known 13 = .ok (.aload_n 0, 1) := by decide +kernel
theorem dX12_known_14 : decode cX12_known 14 = .ok (.getfield 20, 3) := by decide +kernel
theorem dX12_known_17 : decode cX12_known 17 = .ok (.iconst 1, 1) := by decide +kernel
theorem dX12_known_18 : decode cX12_known 18 = .ok (.if_icmp .ne 14, 3) := by decide +kernel
theorem dX12_known_21 : decode cX12_known 21 = .ok (.aload_n 0, 1) := by decide +kernel
theorem dX12_known_22 : decode cX12_known 22 = .ok (.aload_n 0, 1) := by decide +kernel
theorem dX12_known_23 : decode cX12_known 23 = .ok (.getfield 32, 3) := by decide +kernel
theorem dX12_known_26 : decode cX12_known 26 = .ok (.invokevirtual 353, 3) := by decide +kernel
theorem dX12_known_29 : decode cX12_known 29 = .ok (.ifCond .eq 12, 3) := by decide +kernel
theorem dX12_known_32 : decode cX12_known 32 = .ok (.aload_n 0, 1) := by decide +kernel
theorem dX12_known_33 : decode cX12_known 33 = .ok (.iconst 1, 1) := by decide +kernel
theorem dX12_known_34 : decode cX12_known 34 = .ok (.aload_n 0, 1) := by decide +kernel
theorem dX12_known_35 : decode cX12_known 35 = .ok (.getfield 23, 3) := by decide +kernel
theorem dX12_known_38 : decode cX12_known 38 = .ok (.invokevirtual 242, 3) := by decide +kernel
theorem dX12_known_41 : decode cX12_known 41 = .ok (.aload_n 0, 1) := by decide +kernel
theorem dX12_known_42 : decode cX12_known 42 = .ok (.getfield 36, 3) := by decide +kernel
theorem dX12_known_45 : decode cX12_known 45 = .ok (.ifCond .le 7, 3) := by decide +kernel
theorem dX12_known_48 : decode cX12_known 48 = .ok (.iconst 0, 1) := by decide +kernel
theorem dX12_known_49 : decode cX12_known 49 = .ok (.goto 11, 3) := by decide +kernel
theorem dX12_known_52 : decode cX12_known 52 = .ok (.aload_n 0, 1) := by decide +kernel
theorem dX12_known_53 : decode cX12_known 53 = .ok (.aload_n 0, 1) := by decide +kernel
theorem dX12_known_54 : decode cX12_known 54 = .ok (.getfield 32, 3) := by decide +kernel
theorem dX12_known_57 : decode cX12_known 57 = .ok (.invokevirtual 356, 3) := by decide +kernel
theorem dX12_known_60 : decode cX12_known 60 = .ok (.istore_n 1, 1) := by decide +kernel
theorem dX12_known_61 : decode cX12_known 61 = .ok (.aload_n 0, 1) := by decide +kernel
theorem dX12_known_62 : decode cX12_known 62 = .ok (.getfield 36, 3) := by decide +kernel
theorem dX12_known_65 : decode cX12_known 65 = .ok (.ifCond .ne 17, 3) := by decide +kernel
theorem dX12_known_68 : decode cX12_known 68 = .ok (.iload_n 1, 1) := by decide +kernel
theorem dX12_known_69 : decode cX12_known 69 = .ok (.iconst (-1), 1) := by decide +kernel
theorem dX12_known_70 : decode cX12_known 70 = .ok (.if_icmp .ne 12, 3) := by decide +kernel
theorem dX12_known_73 : decode cX12_known 73 = .ok (.aload_n 0, 1) := by decide +kernel
theorem dX12_known_74 : decode cX12_known 74 = .ok (.iconst 3, 1) := by decide +kernel
theorem dX12_known_75 : decode cX12_known 75 = .ok (.aload_n 0, 1) := by decide +kernel
theorem dX12_known_76 : decode cX12_known 76 = .ok (.getfield 23, 3) := by decide +kernel
theorem dX12_known_79 : decode cX12_known 79 = .ok (.invokevirtual 242, 3) := by decide +kernel
theorem dX12_known_82 : decode cX12_known 82 = .ok (.aload_n 0, 1) := by decide +kernel
theorem dX12_known_83 : decode cX12_known 83 = .ok (.getfield 36, 3) := by decide +kernel
theorem dX12_known_86 : decode cX12_known 86 = .ok (.ifCond .ne 7, 3) := by decide +kernel
theorem dX12_known_89 : decode cX12_known 89 = .ok (.aload_n 0, 1) := by decide +kernel
theorem dX12_known_90 : decode cX12_known 90 = .ok (.invokevirtual 259, 3) := by decide +kernel
theorem dX12_known_93 : decode cX12_known 93 = .ok (.aload_n 0, 1) := by decide +kernel
theorem dX12_known_94 : decode cX12_known 94 = .ok (.getfield 36, 3) := by decide +kernel
theorem dX12_known_97 : decode cX12_known 97 = .ok (.ifCond .le 7, 3) := by decide +kernel
theorem dX12_known_100 : decode cX12_known 100 = .ok (.iconst 0, 1) := by decide +kernel
theorem dX12_known_101 : decode cX12_known 101 = .ok (.goto 4, 3) := by decide +kernel
theorem dX12_known_104 : decode cX12_known 104 = .ok (.iload_n 1, 1) := by decide +kernel
theorem dX12_known_105 : decode cX12_known 105 = .ok (.ireturn, 1) := by decide +kernel
theorem dX12_begins_0 : decode cX12_begins 0 = .ok (.aload_n 0, 1) := by decide +kernel
theorem dX12_begins_1 : decode cX12_begins 1 = .ok (.ldc2_w 262, 3) := by decide +kernel
theorem dX12_begins_4 : decode cX12_begins 4 = .ok (.invokevirtual 360, 3) := by decide +kernel
theorem dX12_begins_7 : decode cX12_begins 7 = .ok (.aload_n 0, 1) := by decide +kernel
theorem dX12_begins_8 : decode cX12_begins 8 = .ok (.getfield 54, 3) := by decide +kernel
theorem dX12_begins_11 : decode cX12_begins 11 = .ok (.aload_n 0, 1) := by decide +kernel
theorem dX12_begins_12 : decode cX12_begins 12 = .ok (.getfield 103, 3) := by decide +kernel
theorem dX12_begins_15 : decode cX12_begins 15 = .ok (.aload_n 0, 1) := by decide +kernel
theorem dX12_begins_16 : decode cX12_begins 16 = .ok (.iconst 2, 1) := by decide +kernel
theorem dX12_begins_17 : decode cX12_begins 17 = .ok (.bipush 9, 2) := by decide +kernel
theorem dX12_begins_19 : decode cX12_begins 19 = .ok (.invokevirtual 364, 3) := by decide +kernel
theorem dX12_begins_22 : decode cX12_begins 22 = .ok (.iastore, 1) := by decide +kernel
theorem dX12_begins_23 : decode cX12_begins 23 = .ok (.aload_n 0, 1) := by decide +kernel
theorem dX12_begins_24 : decode cX12_begins 24 = .ok (.ldc2_w 264, 3) := by decide +kernel
theorem dX12_begins_27 : decode cX12_begins 27 = .ok (.invokevirtual 360, 3) := by decide +kernel
theorem dX12_begins_30 : decode cX12_begins 30 = .ok (.aload_n 0, 1) := by decide +kernel
theorem dX12_begins_31 : decode cX12_begins 31 = .ok (.getfield 57, 3) := by decide +kernel
theorem dX12_begins_34 : decode cX12_begins 34 = .ok (.aload_n 0, 1) := by decide +kernel
theorem dX12_begins_35 : decode cX12_begins 35 = .ok (.getfield 103, 3) := by decide +kernel
theorem dX12_begins_38 : decode cX12_begins 38 = .ok (.aload_n 0, 1) := by decide +kernel
theorem dX12_begins_39 : decode cX12_begins 39 = .ok (.iconst 2, 1) := by decide +kernel
theorem dX12_begins_40 : decode cX12_begins 40 = .ok (.bipush 9, 2) := by decide +kernel
theorem dX12_begins_42 : decode cX12_begins 42 = .ok (.invokevirtual 364, 3) := by decide +kernel
theorem dX12_begins_45 : decode cX12_begins 45 = .ok (.iastore, 1) := by decide +kernel
theorem dX12_begins_46 : decode cX12_begins 46 = .ok (.iconst 0, 1) := by decide +kernel
theorem dX12_begins_47 : decode cX12_begins 47 = .ok (.istore_n 1, 1) := by decide +kernel
theorem dX12_begins_48 : decode cX12_begins 48 = .ok (.iload_n 1, 1) := by decide +kernel
theorem dX12_begins_49 : decode cX12_begins 49 = .ok (.bipush 81, 2) := by decide +kernel
theorem dX12_begins_51 : decode cX12_begins 51 = .ok (.if_icmp .ge 24, 3) := by decide +kernel
theorem dX12_begins_54 : decode cX12_begins 54 = .ok (.aload_n 0, 1) := by decide +kernel
theorem dX12_begins_55 : decode cX12_begins 55 = .ok (.getfield 60, 3) := by decide +kernel
theorem dX12_begins_58 : decode cX12_begins 58 = .ok (.bipush 81, 2) := by decide +kernel
theorem dX12_begins_60 : decode cX12_begins 60 = .ok (.aload_n 0, 1) := by decide +kernel
theorem dX12_begins_61 : decode cX12_begins 61 = .ok (.getfield 103, 3) := by decide +kernel
theorem dX12_begins_64 : decode cX12_begins 64 = .ok (.imul, 1) := by decide +kernel
theorem dX12_begins_65 : decode cX12_begins 65 = .ok (.iload_n 1, 1) := by decide +kernel
theorem dX12_begins_66 : decode cX12_begins 66 = .ok (.iadd, 1) := by decide +kernel
theorem dX12_begins_67 : decode cX12_begins 67 = .ok (.iconst 0, 1) := by decide +kernel
theorem dX12_begins_68 : decode cX12_begins 68 = .ok (.iastore, 1) := by decide +kernel
theorem dX12_begins_69 : decode cX12_begins 69 = .ok (.iinc 1 1, 3) := by decide +kernel
theorem dX12_begins_72 : decode cX12_begins 72 = .ok (.goto (-24), 3) := by decide +kernel
theorem dX12_begins_75 : decode cX12_begins 75 = .ok (.return_, 1) := by decide +kernel
theorem dX12_greying_0 : decode cX12_greying 0 = .ok (.aload_n 0, 1) := by decide +kernel
theorem dX12_greying_1 : decode cX12_greying 1 = .ok (.iconst 0, 1) := by decide +kernel
theorem dX12_greying_2 : decode cX12_greying 2 = .ok (.invokevirtual 368, 3) := by decide +kernel
theorem dX12_greying_5 : decode cX12_greying 5 = .ok (.ifCond .ne 4, 3) := by decide +kernel
theorem dX12_greying_8 : decode cX12_greying 8 = .ok (.return_, 1) := by decide +kernel
theorem dX12_greying_9 : decode cX12_greying 9 = .ok (.aload_n 0, 1) := by decide +kernel
theorem dX12_greying_10 : decode cX12_greying 10 = .ok (.iconst 0, 1) := by decide +kernel
theorem dX12_greying_11 : decode cX12_greying 11 = .ok (.aload_n 0, 1) := by decide +kernel
theorem dX12_greying_12 : decode cX12_greying 12 = .ok (.getfield 54, 3) := by decide +kernel
theorem dX12_greying_15 : decode cX12_greying 15 = .ok (.aload_n 0, 1) := by decide +kernel
theorem dX12_greying_16 : decode cX12_greying 16 = .ok (.getfield 103, 3) := by decide +kernel
theorem dX12_greying_19 : decode cX12_greying 19 = .ok (.iaload, 1) := by decide +kernel
theorem dX12_greying_20 : decode cX12_greying 20 = .ok (.iconst 1, 1) := by decide +kernel
theorem dX12_greying_21 : decode cX12_greying 21 = .ok (.isub, 1) := by decide +kernel
theorem dX12_greying_22 : decode cX12_greying 22 = .ok (.invokevirtual 364, 3) := by decide +kernel
theorem dX12_greying_25 : decode cX12_greying 25 = .ok (.istore_n 1, 1) := by decide +kernel
theorem dX12_greying_26 : decode cX12_greying 26 = .ok (.aload_n 0, 1) := by decide +kernel
theorem dX12_greying_27 : decode cX12_greying 27 = .ok (.iconst 0, 1) := by decide +kernel
theorem dX12_greying_28 : decode cX12_greying 28 = .ok (.aload_n 0, 1) := by decide +kernel
theorem dX12_greying_29 : decode cX12_greying 29 = .ok (.getfield 57, 3) := by decide +kernel
theorem dX12_greying_32 : decode cX12_greying 32 = .ok (.aload_n 0, 1) := by decide +kernel
theorem dX12_greying_33 : decode cX12_greying 33 = .ok (.getfield 103, 3) := by decide +kernel
theorem dX12_greying_36 : decode cX12_greying 36 = .ok (.iaload, 1) := by decide +kernel
theorem dX12_greying_37 : decode cX12_greying 37 = .ok (.iconst 1, 1) := by decide +kernel
theorem dX12_greying_38 : decode cX12_greying 38 = .ok (.isub, 1) := by decide +kernel
theorem dX12_greying_39 : decode cX12_greying 39 = .ok (.invokevirtual 364, 3) := by decide +kernel
theorem dX12_greying_42 : decode cX12_greying 42 = .ok (.istore_n 2, 1) := by decide +kernel
theorem dX12_greying_43 : decode cX12_greying 43 = .ok (.aload_n 0, 1) := by decide +kernel
theorem dX12_greying_44 : decode cX12_greying 44 = .ok (.iconst 0, 1) := by decide +kernel
theorem dX12_greying_45 : decode cX12_greying 45 = .ok (.bipush 9, 2) := by decide +kernel
theorem dX12_greying_47 : decode cX12_greying 47 = .ok (.invokevirtual 364, 3) := by decide +kernel
theorem dX12_greying_50 : decode cX12_greying 50 = .ok (.istore_n 3, 1) := by decide +kernel
theorem dX12_greying_51 : decode cX12_greying 51 = .ok (.aload_n 0, 1) := by decide +kernel
theorem dX12_greying_52 : decode cX12_greying 52 = .ok (.getfield 36, 3) := by decide +kernel
theorem dX12_greying_55 : decode cX12_greying 55 = .ok (.ifCond .ne 23, 3) := by decide +kernel
theorem dX12_greying_58 : decode cX12_greying 58 = .ok (.aload_n 0, 1) := by decide +kernel
theorem dX12_greying_59 : decode cX12_greying 59 = .ok (.getfield 60, 3) := by decide +kernel
theorem dX12_greying_62 : decode cX12_greying 62 = .ok (.bipush 81, 2) := by decide +kernel
theorem dX12_greying_64 : decode cX12_greying 64 = .ok (.aload_n 0, 1) := by decide +kernel
theorem dX12_greying_65 : decode cX12_greying 65 = .ok (.getfield 103, 3) := by decide +kernel
theorem dX12_greying_68 : decode cX12_greying 68 = .ok (.imul, 1) := by decide +kernel
theorem dX12_greying_69 : decode cX12_greying 69 = .ok (.bipush 9, 2) := by decide +kernel
theorem dX12_greying_71 : decode cX12_greying 71 = .ok (.iload_n 2, 1) := by decide +kernel
theorem dX12_greying_72 : decode cX12_greying 72 = .ok (.imul, 1) := by decide +kernel
theorem dX12_greying_73 : decode cX12_greying 73 = .ok (.iadd, 1) := by decide +kernel
theorem dX12_greying_74 : decode cX12_greying 74 = .ok (.iload_n 1, 1) := by decide +kernel
theorem dX12_greying_75 : decode cX12_greying 75 = .ok (.iadd, 1) := by decide +kernel
theorem dX12_greying_76 : decode cX12_greying 76 = .ok (.iload_n 3, 1) := by decide +kernel
theorem dX12_greying_77 : decode cX12_greying 77 = .ok (.iastore, 1) := by decide +kernel
theorem dX12_greying_78 : decode cX12_greying 78 = .ok (.return_, 1) := by decide +kernel
theorem dX12_boxing_0 : decode cX12_boxing 0 = .ok (.aload_n 0, 1) := by decide +kernel
theorem dX12_boxing_1 : decode cX12_boxing 1 = .ok (.aload_n 0, 1) := by decide +kernel
theorem dX12_boxing_2 : decode cX12_boxing 2 = .ok (.getfield 63, 3) := by decide +kernel
theorem dX12_boxing_5 : decode cX12_boxing 5 = .ok (.aload_n 0, 1) := by decide +kernel
theorem dX12_boxing_6 : decode cX12_boxing 6 = .ok (.getfield 103, 3) := by decide +kernel
theorem dX12_boxing_9 : decode cX12_boxing 9 = .ok (.iaload, 1) := by decide +kernel
theorem dX12_boxing_10 : decode cX12_boxing 10 = .ok (.bipush 6, 2) := by decide +kernel
theorem dX12_boxing_12 : decode cX12_boxing 12 = .ok (.if_icmp .ne 7, 3) := by decide +kernel
theorem dX12_boxing_15 : decode cX12_boxing 15 = .ok (.iconst 1, 1) := by decide +kernel
theorem dX12_boxing_16 : decode cX12_boxing 16 = .ok (.goto 4, 3) := by decide +kernel
theorem dX12_boxing_19 : decode cX12_boxing 19 = .ok (.iconst 0, 1) := by decide +kernel
theorem dX12_boxing_20 : decode cX12_boxing 20 = .ok (.invokevirtual 368, 3) := by decide +kernel
theorem dX12_boxing_23 : decode cX12_boxing 23 = .ok (.ifCond .ne 4, 3) := by decide +kernel
theorem dX12_boxing_26 : decode cX12_boxing 26 = .ok (.return_, 1) := by decide +kernel
theorem dX12_boxing_27 : decode cX12_boxing 27 = .ok (.bipush 6, 2) := by decide +kernel
theorem dX12_boxing_29 : decode cX12_boxing 29 = .ok (.aload_n 0, 1) := by decide +kernel
theorem dX12_boxing_30 : decode cX12_boxing 30 = .ok (.getfield 103, 3) := by decide +kernel
theorem dX12_boxing_33 : decode cX12_boxing 33 = .ok (.imul, 1) := by decide +kernel
theorem dX12_boxing_34 : decode cX12_boxing 34 = .ok (.aload_n 0, 1) := by decide +kernel
theorem dX12_boxing_35 : decode cX12_boxing 35 = .ok (.getfield 63, 3) := by decide +kernel
theorem dX12_boxing_38 : decode cX12_boxing 38 = .ok (.aload_n 0, 1) := by decide +kernel
theorem dX12_boxing_39 : decode cX12_boxing 39 = .ok (.getfield 103, 3) := by decide +kernel
theorem dX12_boxing_42 : decode cX12_boxing 42 = .ok (.iaload, 1) := by decide +kernel
theorem dX12_boxing_43 : decode cX12_boxing 43 = .ok (.iadd, 1) := by decide +kernel
theorem dX12_boxing_44 : decode cX12_boxing 44 = .ok (.istore_n 1, 1) := by decide +kernel
theorem dX12_boxing_45 : decode cX12_boxing 45 = .ok (.aload_n 0, 1) := by decide +kernel
theorem dX12_boxing_46 : decode cX12_boxing 46 = .ok (.getfield 96, 3) := by decide +kernel
theorem dX12_boxing_49 : decode cX12_boxing 49 = .ok (.iload_n 1, 1) := by decide +kernel
theorem dX12_boxing_50 : decode cX12_boxing 50 = .ok (.aload_n 0, 1) := by decide +kernel
theorem dX12_boxing_51 : decode cX12_boxing 51 = .ok (.invokevirtual 372, 3) := by decide +kernel
theorem dX12_boxing_54 : decode cX12_boxing 54 = .ok (.lastore, 1) := by decide +kernel
theorem dX12_boxing_55 : decode cX12_boxing 55 = .ok (.aload_n 0, 1) := by decide +kernel
theorem dX12_boxing_56 : decode cX12_boxing 56 = .ok (.ldc2_w 270, 3) := by decide +kernel
theorem dX12_boxing_59 : decode cX12_boxing 59 = .ok (.invokevirtual 360, 3) := by decide +kernel
theorem dX12_boxing_62 : decode cX12_boxing 62 = .ok (.aload_n 0, 1) := by decide +kernel
theorem dX12_boxing_63 : decode cX12_boxing 63 = .ok (.iconst 0, 1) := by decide +kernel
theorem dX12_boxing_64 : decode cX12_boxing 64 = .ok (.aload_n 0, 1) := by decide +kernel
theorem dX12_boxing_65 : decode cX12_boxing 65 = .ok (.getfield 54, 3) := by decide +kernel
theorem dX12_boxing_68 : decode cX12_boxing 68 = .ok (.aload_n 0, 1) := by decide +kernel
theorem dX12_boxing_69 : decode cX12_boxing 69 = .ok (.getfield 103, 3) := by decide +kernel
theorem dX12_boxing_72 : decode cX12_boxing 72 = .ok (.iaload, 1) := by decide +kernel
theorem dX12_boxing_73 : decode cX12_boxing 73 = .ok (.iconst 1, 1) := by decide +kernel
theorem dX12_boxing_74 : decode cX12_boxing 74 = .ok (.isub, 1) := by decide +kernel
theorem dX12_boxing_75 : decode cX12_boxing 75 = .ok (.invokevirtual 364, 3) := by decide +kernel
theorem dX12_boxing_78 : decode cX12_boxing 78 = .ok (.istore_n 2, 1) := by decide +kernel
theorem dX12_boxing_79 : decode cX12_boxing 79 = .ok (.aload_n 0, 1) := by decide +kernel
theorem dX12_boxing_80 : decode cX12_boxing 80 = .ok (.invokevirtual 253, 3) := by decide +kernel
theorem dX12_boxing_83 : decode cX12_boxing 83 = .ok (.aload_n 0, 1) := by decide +kernel
theorem dX12_boxing_84 : decode cX12_boxing 84 = .ok (.getfield 23, 3) := by decide +kernel
theorem dX12_boxing_87 : decode cX12_boxing 87 = .ok (.istore_n 3, 1) := by decide +kernel
theorem dX12_boxing_88 : decode cX12_boxing 88 = .ok (.aload_n 0, 1) := by decide +kernel
theorem dX12_boxing_89 : decode cX12_boxing 89 = .ok (.iconst 0, 1) := by decide +kernel
theorem dX12_boxing_90 : decode cX12_boxing 90 = .ok (.aload_n 0, 1) := by decide +kernel
theorem dX12_boxing_91 : decode cX12_boxing 91 = .ok (.getfield 57, 3) := by decide +kernel
theorem dX12_boxing_94 : decode cX12_boxing 94 = .ok (.aload_n 0, 1) := by decide +kernel
theorem dX12_boxing_95 : decode cX12_boxing 95 = .ok (.getfield 103, 3) := by decide +kernel
theorem dX12_boxing_98 : decode cX12_boxing 98 = .ok (.iaload, 1) := by decide +kernel
theorem dX12_boxing_99 : decode cX12_boxing 99 = .ok (.iconst 1, 1) := by decide +kernel
theorem dX12_boxing_100 : decode cX12_boxing 100 = .ok (.isub, 1) := by decide +kernel
theorem dX12_boxing_101 : decode cX12_boxing 101 = .ok (.invokevirtual 364, 3) := by decide +kernel
theorem dX12_boxing_104 : decode cX12_boxing 104 = .ok (.istore 4, 2) := by decide +kernel
theorem dX12_boxing_106 : decode cX12_boxing 106 = .ok (.iconst 0, 1) := by decide +kernel
theorem dX12_boxing_107 : decode cX12_boxing 107 = .ok (.istore 5, 2) := by decide +kernel
theorem dX12_boxing_109 : decode cX12_boxing 109 = .ok (.iload 5, 2) := by decide +kernel
theorem dX12_boxing_111 : decode cX12_boxing 111 = .ok (.aload_n 0, 1) := by decide +kernel
theorem dX12_boxing_112 : decode cX12_boxing 112 = .ok (.getfield 63, 3) := by decide +kernel
theorem dX12_boxing_115 : decode cX12_boxing 115 = .ok (.aload_n 0, 1) := by decide +kernel
theorem dX12_boxing_116 : decode cX12_boxing 116 = .ok (.getfield 103, 3) := by decide +kernel
theorem dX12_boxing_119 : decode cX12_boxing 119 = .ok (.iaload, 1) := by decide +kernel
theorem dX12_boxing_120 : decode cX12_boxing 120 = .ok (.if_icmp .ge 47, 3) := by decide +kernel
theorem dX12_boxing_123 : decode cX12_boxing 123 = .ok (.aload_n 0, 1) := by decide +kernel
theorem dX12_boxing_124 : decode cX12_boxing 124 = .ok (.getfield 36, 3) := by decide +kernel
theorem dX12_boxing_127 : decode cX12_boxing 127 = .ok (.ifCond .ne 40, 3) := by decide +kernel
theorem dX12_boxing_130 : decode cX12_boxing 130 = .ok (.aload_n 0, 1) := by decide +kernel
theorem dX12_boxing_131 : decode cX12_boxing 131 = .ok (.getfield 66, 3) := by decide +kernel
theorem dX12_boxing_134 : decode cX12_boxing 134 = .ok (.bipush 6, 2) := by decide +kernel
theorem dX12_boxing_136 : decode cX12_boxing 136 = .ok (.aload_n 0, 1) := by decide +kernel
theorem dX12_boxing_137 : decode cX12_boxing 137 = .ok (.getfield 103, 3) := by decide +kernel
theorem dX12_boxing_140 : decode cX12_boxing 140 = .ok (.imul, 1) := by decide +kernel
theorem dX12_boxing_141 : decode cX12_boxing 141 = .ok (.iload 5, 2) := by decide +kernel
theorem dX12_boxing_143 : decode cX12_boxing 143 = .ok (.iadd, 1) := by decide +kernel
theorem dX12_boxing_144 : decode cX12_boxing 144 = .ok (.iaload, 1) := by decide +kernel
theorem dX12_boxing_145 : decode cX12_boxing 145 = .ok (.bipush 9, 2) := by decide +kernel
theorem dX12_boxing_147 : decode cX12_boxing 147 = .ok (.iload 4, 2) := by decide +kernel
theorem dX12_boxing_149 : decode cX12_boxing 149 = .ok (.imul, 1) := by decide +kernel
theorem dX12_boxing_150 : decode cX12_boxing 150 = .ok (.iload_n 2, 1) := by decide +kernel
theorem dX12_boxing_151 : decode cX12_boxing 151 = .ok (.iadd, 1) := by decide +kernel
theorem dX12_boxing_152 : decode cX12_boxing 152 = .ok (.if_icmp .ne 9, 3) := by decide +kernel
theorem dX12_boxing_155 : decode cX12_boxing 155 = .ok (.aload_n 0, 1) := by decide +kernel
theorem dX12_boxing_156 : decode cX12_boxing 156 = .ok (.iconst 4, 1) := by decide +kernel
theorem dX12_boxing_157 : decode cX12_boxing 157 = .ok (.iload_n 3, 1) := by decide +kernel
theorem dX12_boxing_158 : decode cX12_boxing 158 = .ok (.invokevirtual 242, 3) := by decide +kernel
theorem dX12_boxing_161 : decode cX12_boxing 161 = .ok (.iinc 5 1, 3) := by decide +kernel
theorem dX12_boxing_164 : decode cX12_boxing 164 = .ok (.goto (-55), 3) := by decide +kernel
theorem dX12_boxing_167 : decode cX12_boxing 167 = .ok (.aload_n 0, 1) := by decide +kernel
theorem dX12_boxing_168 : decode cX12_boxing 168 = .ok (.getfield 66, 3) := by decide +kernel
theorem dX12_boxing_171 : decode cX12_boxing 171 = .ok (.iload_n 1, 1) := by decide +kernel
theorem dX12_boxing_172 : decode cX12_boxing 172 = .ok (.bipush 9, 2) := by decide +kernel
theorem dX12_boxing_174 : decode cX12_boxing 174 = .ok (.iload 4, 2) := by decide +kernel
theorem dX12_boxing_176 : decode cX12_boxing 176 = .ok (.imul, 1) := by decide +kernel
theorem dX12_boxing_177 : decode cX12_boxing 177 = .ok (.iload_n 2, 1) := by decide +kernel
theorem dX12_boxing_178 : decode cX12_boxing 178 = .ok (.iadd, 1) := by decide +kernel
theorem dX12_boxing_179 : decode cX12_boxing 179 = .ok (.iastore, 1) := by decide +kernel
theorem dX12_boxing_180 : decode cX12_boxing 180 = .ok (.aload_n 0, 1) := by decide +kernel
theorem dX12_boxing_181 : decode cX12_boxing 181 = .ok (.ldc2_w 272, 3) := by decide +kernel
theorem dX12_boxing_184 : decode cX12_boxing 184 = .ok (.invokevirtual 360, 3) := by decide +kernel
theorem dX12_boxing_187 : decode cX12_boxing 187 = .ok (.aload_n 0, 1) := by decide +kernel
theorem dX12_boxing_188 : decode cX12_boxing 188 = .ok (.getfield 69, 3) := by decide +kernel
theorem dX12_boxing_191 : decode cX12_boxing 191 = .ok (.iload_n 1, 1) := by decide +kernel
theorem dX12_boxing_192 : decode cX12_boxing 192 = .ok (.aload_n 0, 1) := by decide +kernel
theorem dX12_boxing_193 : decode cX12_boxing 193 = .ok (.iconst 0, 1) := by decide +kernel
theorem dX12_boxing_194 : decode cX12_boxing 194 = .ok (.iconst 3, 1) := by decide +kernel
theorem dX12_boxing_195 : decode cX12_boxing 195 = .ok (.invokevirtual 364, 3) := by decide +kernel
theorem dX12_boxing_198 : decode cX12_boxing 198 = .ok (.iastore, 1) := by decide +kernel
theorem dX12_boxing_199 : decode cX12_boxing 199 = .ok (.aload_n 0, 1) := by decide +kernel
theorem dX12_boxing_200 : decode cX12_boxing 200 = .ok (.getfield 72, 3) := by decide +kernel
theorem dX12_boxing_203 : decode cX12_boxing 203 = .ok (.iload_n 1, 1) := by decide +kernel
theorem dX12_boxing_204 : decode cX12_boxing 204 = .ok (.iconst 1, 1) := by decide +kernel
theorem dX12_boxing_205 : decode cX12_boxing 205 = .ok (.iastore, 1) := by decide +kernel
theorem dX12_boxing_206 : decode cX12_boxing 206 = .ok (.aload_n 0, 1) := by decide +kernel
theorem dX12_boxing_207 : decode cX12_boxing 207 = .ok (.getfield 75, 3) := by decide +kernel
theorem dX12_boxing_210 : decode cX12_boxing 210 = .ok (.iload_n 1, 1) := by decide +kernel
theorem dX12_boxing_211 : decode cX12_boxing 211 = .ok (.iconst 1, 1) := by decide +kernel
theorem dX12_boxing_212 : decode cX12_boxing 212 = .ok (.iastore, 1) := by decide +kernel
theorem dX12_boxing_213 : decode cX12_boxing 213 = .ok (.aload_n 0, 1) := by decide +kernel
theorem dX12_boxing_214 : decode cX12_boxing 214 = .ok (.getfield 78, 3) := by decide +kernel
theorem dX12_boxing_217 : decode cX12_boxing 217 = .ok (.iload_n 1, 1) := by decide +kernel
theorem dX12_boxing_218 : decode cX12_boxing 218 = .ok (.iconst 0, 1) := by decide +kernel
theorem dX12_boxing_219 : decode cX12_boxing 219 = .ok (.iastore, 1) := by decide +kernel
theorem dX12_boxing_220 : decode cX12_boxing 220 = .ok (.aload_n 0, 1) := by decide +kernel
theorem dX12_boxing_221 : decode cX12_boxing 221 = .ok (.getfield 36, 3) := by decide +kernel
theorem dX12_boxing_224 : decode cX12_boxing 224 = .ok (.ifCond .ne 16, 3) := by decide +kernel
theorem dX12_boxing_227 : decode cX12_boxing 227 = .ok (.aload_n 0, 1) := by decide +kernel
theorem dX12_boxing_228 : decode cX12_boxing 228 = .ok (.getfield 63, 3) := by decide +kernel
theorem dX12_boxing_231 : decode cX12_boxing 231 = .ok (.aload_n 0, 1) := by decide +kernel
theorem dX12_boxing_232 : decode cX12_boxing 232 = .ok (.getfield 103, 3) := by decide +kernel
theorem dX12_boxing_235 : decode cX12_boxing 235 = .ok (.dup2, 1) := by decide +kernel
theorem dX12_boxing_236 : decode cX12_boxing 236 = .ok (.iaload, 1) := by decide +kernel
theorem dX12_boxing_237 : decode cX12_boxing 237 = .ok (.iconst 1, 1) := by decide +kernel
theorem dX12_boxing_238 : decode cX12_boxing 238 = .ok (.iadd, 1) := by decide +kernel
theorem dX12_boxing_239 : decode cX12_boxing 239 = .ok (.iastore, 1) := by decide +kernel
theorem dX12_boxing_240 : decode cX12_boxing 240 = .ok (.return_, 1) := by decide +kernel
theorem dX12_eyeing_0 : decode cX12_eyeing 0 = .ok (.aload_n 0, 1) := by decide +kernel
theorem dX12_eyeing_1 : decode cX12_eyeing 1 = .ok (.iconst 0, 1) := by decide +kernel
theorem dX12_eyeing_2 : decode cX12_eyeing 2 = .ok (.invokevirtual 368, 3) := by decide +kernel
theorem dX12_eyeing_5 : decode cX12_eyeing 5 = .ok (.ifCond .ne 4, 3) := by decide +kernel
theorem dX12_eyeing_8 : decode cX12_eyeing 8 = .ok (.return_, 1) := by decide +kernel
theorem dX12_eyeing_9 : decode cX12_eyeing 9 = .ok (.bipush 6, 2) := by decide +kernel
theorem dX12_eyeing_11 : decode cX12_eyeing 11 = .ok (.aload_n 0, 1) := by decide +kernel
theorem dX12_eyeing_12 : decode cX12_eyeing 12 = .ok (.getfield 103, 3) := by decide +kernel
theorem dX12_eyeing_15 : decode cX12_eyeing 15 = .ok (.imul, 1) := by decide +kernel
theorem dX12_eyeing_16 : decode cX12_eyeing 16 = .ok (.aload_n 0, 1) := by decide +kernel
theorem dX12_eyeing_17 : decode cX12_eyeing 17 = .ok (.invokevirtual 376, 3) := by decide +kernel
theorem dX12_eyeing_20 : decode cX12_eyeing 20 = .ok (.iadd, 1) := by decide +kernel
theorem dX12_eyeing_21 : decode cX12_eyeing 21 = .ok (.istore_n 1, 1) := by decide +kernel
theorem dX12_eyeing_22 : decode cX12_eyeing 22 = .ok (.aload_n 0, 1) := by decide +kernel
theorem dX12_eyeing_23 : decode cX12_eyeing 23 = .ok (.ldc2_w 276, 3) := by decide +kernel
theorem dX12_eyeing_26 : decode cX12_eyeing 26 = .ok (.invokevirtual 360, 3) := by decide +kernel
theorem dX12_eyeing_29 : decode cX12_eyeing 29 = .ok (.aload_n 0, 1) := by decide +kernel
theorem dX12_eyeing_30 : decode cX12_eyeing 30 = .ok (.iconst 0, 1) := by decide +kernel
theorem dX12_eyeing_31 : decode cX12_eyeing 31 = .ok (.iconst 2, 1) := by decide +kernel
theorem dX12_eyeing_32 : decode cX12_eyeing 32 = .ok (.invokevirtual 364, 3) := by decide +kernel
theorem dX12_eyeing_35 : decode cX12_eyeing 35 = .ok (.istore_n 2, 1) := by decide +kernel
theorem dX12_eyeing_36 : decode cX12_eyeing 36 = .ok (.aload_n 0, 1) := by decide +kernel
theorem dX12_eyeing_37 : decode cX12_eyeing 37 = .ok (.ldc2_w 278, 3) := by decide +kernel
theorem dX12_eyeing_40 : decode cX12_eyeing 40 = .ok (.invokevirtual 360, 3) := by decide +kernel
theorem dX12_eyeing_43 : decode cX12_eyeing 43 = .ok (.aload_n 0, 1) := by decide +kernel
theorem dX12_eyeing_44 : decode cX12_eyeing 44 = .ok (.iconst 0, 1) := by decide +kernel
theorem dX12_eyeing_45 : decode cX12_eyeing 45 = .ok (.iconst 3, 1) := by decide +kernel
theorem dX12_eyeing_46 : decode cX12_eyeing 46 = .ok (.invokevirtual 364, 3) := by decide +kernel
theorem dX12_eyeing_49 : decode cX12_eyeing 49 = .ok (.istore_n 3, 1) := by decide +kernel
theorem dX12_eyeing_50 : decode cX12_eyeing 50 = .ok (.aload_n 0, 1) := by decide +kernel
theorem dX12_eyeing_51 : decode cX12_eyeing 51 = .ok (.getfield 36, 3) := by decide +kernel
theorem dX12_eyeing_54 : decode cX12_eyeing 54 = .ok (.ifCond .le 4, 3) := by decide +kernel
theorem dX12_eyeing_57 : decode cX12_eyeing 57 = .ok (.return_, 1) := by decide +kernel
theorem dX12_eyeing_58 : decode cX12_eyeing 58 = .ok (.aload_n 0, 1) := by decide +kernel
theorem dX12_eyeing_59 : decode cX12_eyeing 59 = .ok (.getfield 72, 3) := by decide +kernel
theorem dX12_eyeing_62 : decode cX12_eyeing 62 = .ok (.iload_n 1, 1) := by decide +kernel
theorem dX12_eyeing_63 : decode cX12_eyeing 63 = .ok (.iload_n 2, 1) := by decide +kernel
theorem dX12_eyeing_64 : decode cX12_eyeing 64 = .ok (.iastore, 1) := by decide +kernel
theorem dX12_eyeing_65 : decode cX12_eyeing 65 = .ok (.aload_n 0, 1) := by decide +kernel
theorem dX12_eyeing_66 : decode cX12_eyeing 66 = .ok (.getfield 75, 3) := by decide +kernel
theorem dX12_eyeing_69 : decode cX12_eyeing 69 = .ok (.iload_n 1, 1) := by decide +kernel
theorem dX12_eyeing_70 : decode cX12_eyeing 70 = .ok (.iload_n 3, 1) := by decide +kernel
theorem dX12_eyeing_71 : decode cX12_eyeing 71 = .ok (.iastore, 1) := by decide +kernel
theorem dX12_eyeing_72 : decode cX12_eyeing 72 = .ok (.return_, 1) := by decide +kernel
theorem dX12_biasing_0 : decode cX12_biasing 0 = .ok (.aload_n 0, 1) := by decide +kernel
theorem dX12_biasing_1 : decode cX12_biasing 1 = .ok (.iconst 0, 1) := by decide +kernel
theorem dX12_biasing_2 : decode cX12_biasing 2 = .ok (.invokevirtual 368, 3) := by decide +kernel
theorem dX12_biasing_5 : decode cX12_biasing 5 = .ok (.ifCond .ne 4, 3) := by decide +kernel
theorem dX12_biasing_8 : decode cX12_biasing 8 = .ok (.return_, 1) := by decide +kernel
theorem dX12_biasing_9 : decode cX12_biasing 9 = .ok (.bipush 6, 2) := by decide +kernel
theorem dX12_biasing_11 : decode cX12_biasing 11 = .ok (.aload_n 0, 1) := by decide +kernel
theorem dX12_biasing_12 : decode cX12_biasing 12 = .ok (.getfield 103, 3) := by decide +kernel
theorem dX12_biasing_15 : decode cX12_biasing 15 = .ok (.imul, 1) := by decide +kernel
theorem dX12_biasing_16 : decode cX12_biasing 16 = .ok (.aload_n 0, 1) := by decide +kernel
theorem dX12_biasing_17 : decode cX12_biasing 17 = .ok (.invokevirtual 376, 3) := by decide +kernel
theorem dX12_biasing_20 : decode cX12_biasing 20 = .ok (.iadd, 1) := by decide +kernel
theorem dX12_biasing_21 : decode cX12_biasing 21 = .ok (.istore_n 1, 1) := by decide +kernel
theorem dX12_biasing_22 : decode cX12_biasing 22 = .ok (.aload_n 0, 1) := by decide +kernel
theorem dX12_biasing_23 : decode cX12_biasing 23 = .ok (.iconst 0, 1) := by decide +kernel
theorem dX12_biasing_24 : decode cX12_biasing 24 = .ok (.bipush 9, 2) := by decide +kernel
theorem dX12_biasing_26 : decode cX12_biasing 26 = .ok (.invokevirtual 364, 3) := by decide +kernel
theorem dX12_biasing_29 : decode cX12_biasing 29 = .ok (.istore_n 2, 1) := by decide +kernel
theorem dX12_biasing_30 : decode cX12_biasing 30 = .ok (.aload_n 0, 1) := by decide +kernel
theorem dX12_biasing_31 : decode cX12_biasing 31 = .ok (.getfield 36, 3) := by decide +kernel
theorem dX12_biasing_34 : decode cX12_biasing 34 = .ok (.ifCond .ne 10, 3) := by decide +kernel
theorem dX12_biasing_37 : decode cX12_biasing 37 = .ok (.aload_n 0, 1) := by decide +kernel
theorem dX12_biasing_38 : decode cX12_biasing 38 = .ok (.getfield 78, 3) := by decide +kernel
theorem dX12_biasing_41 : decode cX12_biasing 41 = .ok (.iload_n 1, 1) := by decide +kernel
theorem dX12_biasing_42 : decode cX12_biasing 42 = .ok (.iload_n 2, 1) := by decide +kernel
theorem dX12_biasing_43 : decode cX12_biasing 43 = .ok (.iastore, 1) := by decide +kernel
theorem dX12_biasing_44 : decode cX12_biasing 44 = .ok (.return_, 1) := by decide +kernel
theorem dX12_reading_0 : decode cX12_reading 0 = .ok (.iconst 2, 1) := by decide +kernel
theorem dX12_reading_1 : decode cX12_reading 1 = .ok (.aload_n 0, 1) := by decide +kernel
theorem dX12_reading_2 : decode cX12_reading 2 = .ok (.getfield 103, 3) := by decide +kernel
theorem dX12_reading_5 : decode cX12_reading 5 = .ok (.imul, 1) := by decide +kernel
theorem dX12_reading_6 : decode cX12_reading 6 = .ok (.iload_n 1, 1) := by decide +kernel
theorem dX12_reading_7 : decode cX12_reading 7 = .ok (.iadd, 1) := by decide +kernel
theorem dX12_reading_8 : decode cX12_reading 8 = .ok (.istore_n 2, 1) := by decide +kernel
theorem dX12_reading_9 : decode cX12_reading 9 = .ok (.aload_n 0, 1) := by decide +kernel
theorem dX12_reading_10 : decode cX12_reading 10 = .ok (.aload_n 0, 1) := by decide +kernel
theorem dX12_reading_11 : decode cX12_reading 11 = .ok (.getfield 84, 3) := by decide +kernel
theorem dX12_reading_14 : decode cX12_reading 14 = .ok (.iload_n 2, 1) := by decide +kernel
theorem dX12_reading_15 : decode cX12_reading 15 = .ok (.iaload, 1) := by decide +kernel
theorem dX12_reading_16 : decode cX12_reading 16 = .ok (.iconst (-1), 1) := by decide +kernel
theorem dX12_reading_17 : decode cX12_reading 17 = .ok (.if_icmp .eq 7, 3) := by decide +kernel
theorem dX12_reading_20 : decode cX12_reading 20 = .ok (.iconst 1, 1) := by decide +kernel
theorem dX12_reading_21 : decode cX12_reading 21 = .ok (.goto 4, 3) := by decide +kernel
theorem dX12_reading_24 : decode cX12_reading 24 = .ok (.iconst 0, 1) := by decide +kernel
theorem dX12_reading_25 : decode cX12_reading 25 = .ok (.invokevirtual 368, 3) := by decide +kernel
theorem dX12_reading_28 : decode cX12_reading 28 = .ok (.ifCond .ne 4, 3) := by decide +kernel
theorem dX12_reading_31 : decode cX12_reading 31 = .ok (.return_, 1) := by decide +kernel
theorem dX12_reading_32 : decode cX12_reading 32 = .ok (.aload_n 0, 1) := by decide +kernel
theorem dX12_reading_33 : decode cX12_reading 33 = .ok (.iload_n 1, 1) := by decide +kernel
theorem dX12_reading_34 : decode cX12_reading 34 = .ok (.iconst 1, 1) := by decide +kernel
theorem dX12_reading_35 : decode cX12_reading 35 = .ok (.if_icmp .ne 7, 3) := by decide +kernel
theorem dX12_reading_38 : decode cX12_reading 38 = .ok (.iconst 1, 1) := by decide +kernel
theorem dX12_reading_39 : decode cX12_reading 39 = .ok (.goto 4, 3) := by decide +kernel
theorem dX12_reading_42 : decode cX12_reading 42 = .ok (.iconst 0, 1) := by decide +kernel
theorem dX12_reading_43 : decode cX12_reading 43 = .ok (.putfield 106, 3) := by decide +kernel
theorem dX12_reading_46 : decode cX12_reading 46 = .ok (.aload_n 0, 1) := by decide +kernel
theorem dX12_reading_47 : decode cX12_reading 47 = .ok (.getfield 84, 3) := by decide +kernel
theorem dX12_reading_50 : decode cX12_reading 50 = .ok (.iload_n 2, 1) := by decide +kernel
theorem dX12_reading_51 : decode cX12_reading 51 = .ok (.aload_n 0, 1) := by decide +kernel
theorem dX12_reading_52 : decode cX12_reading 52 = .ok (.getfield 100, 3) := by decide +kernel
theorem dX12_reading_55 : decode cX12_reading 55 = .ok (.iastore, 1) := by decide +kernel
theorem dX12_reading_56 : decode cX12_reading 56 = .ok (.aload_n 0, 1) := by decide +kernel
theorem dX12_reading_57 : decode cX12_reading 57 = .ok (.iload_n 1, 1) := by decide +kernel
theorem dX12_reading_58 : decode cX12_reading 58 = .ok (.iconst 1, 1) := by decide +kernel
theorem dX12_reading_59 : decode cX12_reading 59 = .ok (.if_icmp .ne 7, 3) := by decide +kernel
theorem dX12_reading_62 : decode cX12_reading 62 = .ok (.iconst 1, 1) := by decide +kernel
theorem dX12_reading_63 : decode cX12_reading 63 = .ok (.goto 4, 3) := by decide +kernel
theorem dX12_reading_66 : decode cX12_reading 66 = .ok (.iconst 0, 1) := by decide +kernel
theorem dX12_reading_67 : decode cX12_reading 67 = .ok (.invokevirtual 380, 3) := by decide +kernel
theorem dX12_reading_70 : decode cX12_reading 70 = .ok (.aload_n 0, 1) := by decide +kernel
theorem dX12_reading_71 : decode cX12_reading 71 = .ok (.getfield 87, 3) := by decide +kernel
theorem dX12_reading_74 : decode cX12_reading 74 = .ok (.iload_n 2, 1) := by decide +kernel
theorem dX12_reading_75 : decode cX12_reading 75 = .ok (.aload_n 0, 1) := by decide +kernel
theorem dX12_reading_76 : decode cX12_reading 76 = .ok (.getfield 100, 3) := by decide +kernel
theorem dX12_reading_79 : decode cX12_reading 79 = .ok (.iastore, 1) := by decide +kernel
theorem dX12_reading_80 : decode cX12_reading 80 = .ok (.return_, 1) := by decide +kernel
theorem dX12_telling_0 : decode cX12_telling 0 = .ok (.aload_n 0, 1) := by decide +kernel
theorem dX12_telling_1 : decode cX12_telling 1 = .ok (.iconst 0, 1) := by decide +kernel
theorem dX12_telling_2 : decode cX12_telling 2 = .ok (.invokevirtual 368, 3) := by decide +kernel
theorem dX12_telling_5 : decode cX12_telling 5 = .ok (.ifCond .ne 4, 3) := by decide +kernel
theorem dX12_telling_8 : decode cX12_telling 8 = .ok (.return_, 1) := by decide +kernel
theorem dX12_telling_9 : decode cX12_telling 9 = .ok (.aload_n 0, 1) := by decide +kernel
theorem dX12_telling_10 : decode cX12_telling 10 = .ok (.iconst 0, 1) := by decide +kernel
theorem dX12_telling_11 : decode cX12_telling 11 = .ok (.iload_n 2, 1) := by decide +kernel
theorem dX12_telling_12 : decode cX12_telling 12 = .ok (.invokevirtual 364, 3) := by decide +kernel
theorem dX12_telling_15 : decode cX12_telling 15 = .ok (.istore_n 3, 1) := by decide +kernel
theorem dX12_telling_16 : decode cX12_telling 16 = .ok (.aload_n 0, 1) := by decide +kernel
theorem dX12_telling_17 : decode cX12_telling 17 = .ok (.getfield 36, 3) := by decide +kernel
theorem dX12_telling_20 : decode cX12_telling 20 = .ok (.ifCond .ne 17, 3) := by decide +kernel
theorem dX12_telling_23 : decode cX12_telling 23 = .ok (.aload_n 0, 1) := by decide +kernel
theorem dX12_telling_24 : decode cX12_telling 24 = .ok (.getfield 81, 3) := by decide +kernel
theorem dX12_telling_27 : decode cX12_telling 27 = .ok (.iconst 3, 1) := by decide +kernel
theorem dX12_telling_28 : decode cX12_telling 28 = .ok (.aload_n 0, 1) := by decide +kernel
theorem dX12_telling_29 : decode cX12_telling 29 = .ok (.getfield 103, 3) := by decide +kernel
theorem dX12_telling_32 : decode cX12_telling 32 = .ok (.imul, 1) := by decide +kernel
theorem dX12_telling_33 : decode cX12_telling 33 = .ok (.iload_n 1, 1) := by decide +kernel
theorem dX12_telling_34 : decode cX12_telling 34 = .ok (.iadd, 1) := by decide +kernel
theorem dX12_telling_35 : decode cX12_telling 35 = .ok (.iload_n 3, 1) := by decide +kernel
theorem dX12_telling_36 : decode cX12_telling 36 = .ok (.iastore, 1) := by decide +kernel
theorem dX12_telling_37 : decode cX12_telling 37 = .ok (.return_, 1) := by decide +kernel
theorem dX12_statement_0 : decode cX12_statement 0 = .ok (.aload_n 0, 1) := by decide +kernel
theorem dX12_statement_1 : decode cX12_statement 1 = .ok (.invokevirtual 253, 3) := by decide +kernel
theorem dX12_statement_4 : decode cX12_statement 4 = .ok (.aload_n 0, 1) := by decide +kernel
theorem dX12_statement_5 : decode cX12_statement 5 = .ok (.getfield 36, 3) := by decide +kernel
theorem dX12_statement_8 : decode cX12_statement 8 = .ok (.ifCond .le 4, 3) := by decide +kernel
theorem dX12_statement_11 : decode cX12_statement 11 = .ok (.return_, 1) := by decide +kernel
theorem dX12_statement_12 : decode cX12_statement 12 = .ok (.aload_n 0, 1) := by decide +kernel
theorem dX12_statement_13 : decode cX12_statement 13 = .ok (.ldc2_w 266, 3) := by decide +kernel
theorem dX12_statement_16 : decode cX12_statement 16 = .ok (.invokevirtual 334, 3) := by decide +kernel
theorem dX12_statement_19 : decode cX12_statement 19 = .ok (.ifCond .eq 10, 3) := by decide +kernel
theorem dX12_statement_22 : decode cX12_statement 22 = .ok (.aload_n 0, 1) := by decide +kernel
theorem dX12_statement_23 : decode cX12_statement 23 = .ok (.invokevirtual 384, 3) := by decide +kernel
theorem dX12_statement_26 : decode cX12_statement 26 = .ok (.goto 160, 3) := by decide +kernel
theorem dX12_statement_29 : decode cX12_statement 29 = .ok (.aload_n 0, 1) := by decide +kernel
theorem dX12_statement_30 : decode cX12_statement 30 = .ok (.ldc2_w 268, 3) := by decide +kernel
theorem dX12_statement_33 : decode cX12_statement 33 = .ok (.invokevirtual 334, 3) := by decide +kernel
theorem dX12_statement_36 : decode cX12_statement 36 = .ok (.ifCond .eq 10, 3) := by decide +kernel
theorem dX12_statement_39 : decode cX12_statement 39 = .ok (.aload_n 0, 1) := by decide +kernel
theorem dX12_statement_40 : decode cX12_statement 40 = .ok (.invokevirtual 387, 3) := by decide +kernel
theorem dX12_statement_43 : decode cX12_statement 43 = .ok (.goto 143, 3) := by decide +kernel
theorem dX12_statement_46 : decode cX12_statement 46 = .ok (.aload_n 0, 1) := by decide +kernel
theorem dX12_statement_47 : decode cX12_statement 47 = .ok (.ldc2_w 274, 3) := by decide +kernel
theorem dX12_statement_50 : decode cX12_statement 50 = .ok (.invokevirtual 334, 3) := by decide +kernel
theorem dX12_statement_53 : decode cX12_statement 53 = .ok (.ifCond .eq 10, 3) := by decide +kernel
theorem dX12_statement_56 : decode cX12_statement 56 = .ok (.aload_n 0, 1) := by decide +kernel
theorem dX12_statement_57 : decode cX12_statement 57 = .ok (.invokevirtual 390, 3) := by decide +kernel
theorem dX12_statement_60 : decode cX12_statement 60 = .ok (.goto 126, 3) := by decide +kernel
theorem dX12_statement_63 : decode cX12_statement 63 = .ok (.aload_n 0, 1) := by decide +kernel
theorem dX12_statement_64 : decode cX12_statement 64 = .ok (.ldc2_w 280, 3) := by decide +kernel
theorem dX12_statement_67 : decode cX12_statement 67 = .ok (.invokevirtual 334, 3) := by decide +kernel
theorem dX12_statement_70 : decode cX12_statement 70 = .ok (.ifCond .eq 10, 3) := by decide +kernel
theorem dX12_statement_73 : decode cX12_statement 73 = .ok (.aload_n 0, 1) := by decide +kernel
theorem dX12_statement_74 : decode cX12_statement 74 = .ok (.invokevirtual 393, 3) := by decide +kernel
theorem dX12_statement_77 : decode cX12_statement 77 = .ok (.goto 109, 3) := by decide +kernel
theorem dX12_statement_80 : decode cX12_statement 80 = .ok (.aload_n 0, 1) := by decide +kernel
theorem dX12_statement_81 : decode cX12_statement 81 = .ok (.ldc2_w 282, 3) := by decide +kernel
theorem dX12_statement_84 : decode cX12_statement 84 = .ok (.invokevirtual 334, 3) := by decide +kernel
theorem dX12_statement_87 : decode cX12_statement 87 = .ok (.ifCond .eq 11, 3) := by decide +kernel
theorem dX12_statement_90 : decode cX12_statement 90 = .ok (.aload_n 0, 1) := by decide +kernel
theorem dX12_statement_91 : decode cX12_statement 91 = .ok (.iconst 0, 1) := by decide +kernel
theorem dX12_statement_92 : decode cX12_statement 92 = .ok (.invokevirtual 396, 3) := by decide +kernel
theorem dX12_statement_95 : decode cX12_statement 95 = .ok (.goto 91, 3) := by decide +kernel
theorem dX12_statement_98 : decode cX12_statement 98 = .ok (.aload_n 0, 1) := by decide +kernel
theorem dX12_statement_99 : decode cX12_statement 99 = .ok (.ldc2_w 284, 3) := by decide +kernel
theorem dX12_statement_102 : decode cX12_statement 102 = .ok (.invokevirtual 334, 3) := by decide +kernel
theorem dX12_statement_105 : decode cX12_statement 105 = .ok (.ifCond .eq 11, 3) := by decide +kernel
theorem dX12_statement_108 : decode cX12_statement 108 = .ok (.aload_n 0, 1) := by decide +kernel
theorem dX12_statement_109 : decode cX12_statement 109 = .ok (.iconst 1, 1) := by decide +kernel
theorem dX12_statement_110 : decode cX12_statement 110 = .ok (.invokevirtual 396, 3) := by decide +kernel
theorem dX12_statement_113 : decode cX12_statement 113 = .ok (.goto 73, 3) := by decide +kernel
theorem dX12_statement_116 : decode cX12_statement 116 = .ok (.aload_n 0, 1) := by decide +kernel
theorem dX12_statement_117 : decode cX12_statement 117 = .ok (.ldc2_w 286, 3) := by decide +kernel
theorem dX12_statement_120 : decode cX12_statement 120 = .ok (.invokevirtual 334, 3) := by decide +kernel
theorem dX12_statement_123 : decode cX12_statement 123 = .ok (.ifCond .eq 14, 3) := by decide +kernel
theorem dX12_statement_126 : decode cX12_statement 126 = .ok (.aload_n 0, 1) := by decide +kernel
theorem dX12_statement_127 : decode cX12_statement 127 = .ok (.iconst 0, 1) := by decide +kernel
theorem dX12_statement_128 : decode cX12_statement 128 = .ok (.sipush 999, 3) := by decide +kernel
theorem dX12_statement_131 : decode cX12_statement 131 = .ok (.invokevirtual 399, 3) := by decide +kernel
theorem dX12_statement_134 : decode cX12_statement 134 = .ok (.goto 52, 3) := by decide +kernel
theorem dX12_statement_137 : decode cX12_statement 137 = .ok (.aload_n 0, 1) := by decide +kernel
theorem dX12_statement_138 : decode cX12_statement 138 = .ok (.ldc2_w 288, 3) := by decide +kernel
theorem dX12_statement_141 : decode cX12_statement 141 = .ok (.invokevirtual 334, 3) := by decide +kernel
theorem dX12_statement_144 : decode cX12_statement 144 = .ok (.ifCond .eq 13, 3) := by decide +kernel
theorem dX12_statement_147 : decode cX12_statement 147 = .ok (.aload_n 0, 1) := by decide +kernel
theorem dX12_statement_148 : decode cX12_statement 148 = .ok (.iconst 1, 1) := by decide +kernel
theorem dX12_statement_149 : decode cX12_statement 149 = .ok (.bipush 9, 2) := by decide +kernel
theorem dX12_statement_151 : decode cX12_statement 151 = .ok (.invokevirtual 399, 3) := by decide +kernel
theorem dX12_statement_154 : decode cX12_statement 154 = .ok (.goto 32, 3) := by decide +kernel
theorem dX12_statement_157 : decode cX12_statement 157 = .ok (.aload_n 0, 1) := by decide +kernel
theorem dX12_statement_158 : decode cX12_statement 158 = .ok (.ldc2_w 290, 3) := by decide +kernel
theorem dX12_statement_161 : decode cX12_statement 161 = .ok (.invokevirtual 334, 3) := by decide +kernel
theorem dX12_statement_164 : decode cX12_statement 164 = .ok (.ifCond .eq 13, 3) := by decide +kernel
theorem dX12_statement_167 : decode cX12_statement 167 = .ok (.aload_n 0, 1) := by decide +kernel
theorem dX12_statement_168 : decode cX12_statement 168 = .ok (.iconst 2, 1) := by decide +kernel
theorem dX12_statement_169 : decode cX12_statement 169 = .ok (.bipush 100, 2) := by decide +kernel
theorem dX12_statement_171 : decode cX12_statement 171 = .ok (.invokevirtual 399, 3) := by decide +kernel
theorem dX12_statement_174 : decode cX12_statement 174 = .ok (.goto 12, 3) := by decide +kernel
theorem dX12_statement_177 : decode cX12_statement 177 = .ok (.aload_n 0, 1) := by decide +kernel
theorem dX12_statement_178 : decode cX12_statement 178 = .ok (.iconst 1, 1) := by decide +kernel
theorem dX12_statement_179 : decode cX12_statement 179 = .ok (.aload_n 0, 1) := by decide +kernel
theorem dX12_statement_180 : decode cX12_statement 180 = .ok (.getfield 23, 3) := by decide +kernel
theorem dX12_statement_183 : decode cX12_statement 183 = .ok (.invokevirtual 242, 3) := by decide +kernel
theorem dX12_statement_186 : decode cX12_statement 186 = .ok (.return_, 1) := by decide +kernel
theorem dX12_finishes_0 : decode cX12_finishes 0 = .ok (.aload_n 0, 1) := by decide +kernel
theorem dX12_finishes_1 : decode cX12_finishes 1 = .ok (.invokevirtual 253, 3) := by decide +kernel
theorem dX12_finishes_4 : decode cX12_finishes 4 = .ok (.aload_n 0, 1) := by decide +kernel
theorem dX12_finishes_5 : decode cX12_finishes 5 = .ok (.getfield 36, 3) := by decide +kernel
theorem dX12_finishes_8 : decode cX12_finishes 8 = .ok (.ifCond .le 4, 3) := by decide +kernel
theorem dX12_finishes_11 : decode cX12_finishes 11 = .ok (.return_, 1) := by decide +kernel
theorem dX12_finishes_12 : decode cX12_finishes 12 = .ok (.aload_n 0, 1) := by decide +kernel
theorem dX12_finishes_13 : decode cX12_finishes 13 = .ok (.getfield 26, 3) := by decide +kernel
theorem dX12_finishes_16 : decode cX12_finishes 16 = .ok (.istore_n 2, 1) := by decide +kernel
theorem dX12_finishes_17 : decode cX12_finishes 17 = .ok (.iload_n 2, 1) := by decide +kernel
theorem dX12_finishes_18 : decode cX12_finishes 18 = .ok (.aload_n 0, 1) := by decide +kernel
theorem dX12_finishes_19 : decode cX12_finishes 19 = .ok (.getfield 17, 3) := by decide +kernel
theorem dX12_finishes_22 : decode cX12_finishes 22 = .ok (.if_icmp .ge 31, 3) := by decide +kernel
theorem dX12_finishes_25 : decode cX12_finishes 25 = .ok (.aload_n 0, 1) := by decide +kernel
theorem dX12_finishes_26 : decode cX12_finishes 26 = .ok (.getfield 7, 3) := by decide +kernel
theorem dX12_finishes_29 : decode cX12_finishes 29 = .ok (.iload_n 2, 1) := by decide +kernel
theorem dX12_finishes_30 : decode cX12_finishes 30 = .ok (.iaload, 1) := by decide +kernel
theorem dX12_finishes_31 : decode cX12_finishes 31 = .ok (.bipush 32, 2) := by decide +kernel
theorem dX12_finishes_33 : decode cX12_finishes 33 = .ok (.if_icmp .eq 14, 3) := by decide +kernel
theorem dX12_finishes_36 : decode cX12_finishes 36 = .ok (.aload_n 0, 1) := by decide +kernel
theorem dX12_finishes_37 : decode cX12_finishes 37 = .ok (.getfield 7, 3) := by decide +kernel
theorem dX12_finishes_40 : decode cX12_finishes 40 = .ok (.iload_n 2, 1) := by decide +kernel
theorem dX12_finishes_41 : decode cX12_finishes 41 = .ok (.iaload, 1) := by decide +kernel
theorem dX12_finishes_42 : decode cX12_finishes 42 = .ok (.bipush 10, 2) := by decide +kernel
theorem dX12_finishes_44 : decode cX12_finishes 44 = .ok (.if_icmp .ne 9, 3) := by decide +kernel
theorem dX12_finishes_47 : decode cX12_finishes 47 = .ok (.iinc 2 1, 3) := by decide +kernel
theorem dX12_finishes_50 : decode cX12_finishes 50 = .ok (.goto (-33), 3) := by decide +kernel
theorem dX12_finishes_53 : decode cX12_finishes 53 = .ok (.aload_n 0, 1) := by decide +kernel
theorem dX12_finishes_54 : decode cX12_finishes 54 = .ok (.bipush 59, 2) := by decide +kernel
theorem dX12_finishes_56 : decode cX12_finishes 56 = .ok (.invokevirtual 256, 3) := by decide +kernel
theorem dX12_finishes_59 : decode cX12_finishes 59 = .ok (.ifCond .eq 24, 3) := by decide +kernel
theorem dX12_finishes_62 : decode cX12_finishes 62 = .ok (.iload_n 1, 1) := by decide +kernel
theorem dX12_finishes_63 : decode cX12_finishes 63 = .ok (.bipush 80, 2) := by decide +kernel
theorem dX12_finishes_65 : decode cX12_finishes 65 = .ok (.if_icmp .ne 18, 3) := by decide +kernel
theorem dX12_finishes_68 : decode cX12_finishes 68 = .ok (.iload_n 2, 1) := by decide +kernel
theorem dX12_finishes_69 : decode cX12_finishes 69 = .ok (.aload_n 0, 1) := by decide +kernel
theorem dX12_finishes_70 : decode cX12_finishes 70 = .ok (.getfield 17, 3) := by decide +kernel
theorem dX12_finishes_73 : decode cX12_finishes 73 = .ok (.if_icmp .ge 10, 3) := by decide +kernel
theorem dX12_finishes_76 : decode cX12_finishes 76 = .ok (.aload_n 0, 1) := by decide +kernel
theorem dX12_finishes_77 : decode cX12_finishes 77 = .ok (.bipush 6, 2) := by decide +kernel
theorem dX12_finishes_79 : decode cX12_finishes 79 = .ok (.iload_n 2, 1) := by decide +kernel
theorem dX12_finishes_80 : decode cX12_finishes 80 = .ok (.invokevirtual 242, 3) := by decide +kernel
theorem dX12_finishes_83 : decode cX12_finishes 83 = .ok (.aload_n 0, 1) := by decide +kernel
theorem dX12_finishes_84 : decode cX12_finishes 84 = .ok (.bipush 59, 2) := by decide +kernel
theorem dX12_finishes_86 : decode cX12_finishes 86 = .ok (.invokevirtual 402, 3) := by decide +kernel
theorem dX12_finishes_89 : decode cX12_finishes 89 = .ok (.return_, 1) := by decide +kernel
theorem dX12_kitchen_0 : decode cX12_kitchen 0 = .ok (.aload_n 0, 1) := by decide +kernel
theorem dX12_kitchen_1 : decode cX12_kitchen 1 = .ok (.aload_n 0, 1) := by decide +kernel
theorem dX12_kitchen_2 : decode cX12_kitchen 2 = .ok (.getfield 13, 3) := by decide +kernel
theorem dX12_kitchen_5 : decode cX12_kitchen 5 = .ok (.putfield 17, 3) := by decide +kernel
theorem dX12_kitchen_8 : decode cX12_kitchen 8 = .ok (.aload_n 0, 1) := by decide +kernel
theorem dX12_kitchen_9 : decode cX12_kitchen 9 = .ok (.iconst 0, 1) := by decide +kernel
theorem dX12_kitchen_10 : decode cX12_kitchen 10 = .ok (.putfield 13, 3) := by decide +kernel
theorem dX12_kitchen_13 : decode cX12_kitchen 13 = .ok (.aload_n 0, 1) := by decide +kernel
theorem dX12_kitchen_14 : decode cX12_kitchen 14 = .ok (.iconst 0, 1) := by decide +kernel
theorem dX12_kitchen_15 : decode cX12_kitchen 15 = .ok (.putfield 26, 3) := by decide +kernel
theorem dX12_kitchen_18 : decode cX12_kitchen 18 = .ok (.aload_n 0, 1) := by decide +kernel
theorem dX12_kitchen_19 : decode cX12_kitchen 19 = .ok (.iconst 0, 1) := by decide +kernel
theorem dX12_kitchen_20 : decode cX12_kitchen 20 = .ok (.putfield 36, 3) := by decide +kernel
theorem dX12_kitchen_23 : decode cX12_kitchen 23 = .ok (.aload_n 0, 1) := by decide +kernel
theorem dX12_kitchen_24 : decode cX12_kitchen 24 = .ok (.iconst (-1), 1) := by decide +kernel
theorem dX12_kitchen_25 : decode cX12_kitchen 25 = .ok (.putfield 39, 3) := by decide +kernel
theorem dX12_kitchen_28 : decode cX12_kitchen 28 = .ok (.aload_n 0, 1) := by decide +kernel
theorem dX12_kitchen_29 : decode cX12_kitchen 29 = .ok (.iconst 1, 1) := by decide +kernel
theorem dX12_kitchen_30 : decode cX12_kitchen 30 = .ok (.aload_n 0, 1) := by decide +kernel
theorem dX12_kitchen_31 : decode cX12_kitchen 31 = .ok (.getfield 51, 3) := by decide +kernel
theorem dX12_kitchen_34 : decode cX12_kitchen 34 = .ok (.isub, 1) := by decide +kernel
theorem dX12_kitchen_35 : decode cX12_kitchen 35 = .ok (.putfield 103, 3) := by decide +kernel
theorem dX12_kitchen_38 : decode cX12_kitchen 38 = .ok (.aload_n 0, 1) := by decide +kernel
theorem dX12_kitchen_39 : decode cX12_kitchen 39 = .ok (.getfield 63, 3) := by decide +kernel
theorem dX12_kitchen_42 : decode cX12_kitchen 42 = .ok (.aload_n 0, 1) := by decide +kernel
theorem dX12_kitchen_43 : decode cX12_kitchen 43 = .ok (.getfield 103, 3) := by decide +kernel
theorem dX12_kitchen_46 : decode cX12_kitchen 46 = .ok (.iconst 0, 1) := by decide +kernel
theorem dX12_kitchen_47 : decode cX12_kitchen 47 = .ok (.iastore, 1) := by decide +kernel
theorem dX12_kitchen_48 : decode cX12_kitchen 48 = .ok (.aload_n 0, 1) := by decide +kernel
theorem dX12_kitchen_49 : decode cX12_kitchen 49 = .ok (.aload_n 0, 1) := by decide +kernel
theorem dX12_kitchen_50 : decode cX12_kitchen 50 = .ok (.getfield 103, 3) := by decide +kernel
theorem dX12_kitchen_53 : decode cX12_kitchen 53 = .ok (.invokevirtual 231, 3) := by decide +kernel
theorem dX12_kitchen_56 : decode cX12_kitchen 56 = .ok (.aload_n 0, 1) := by decide +kernel
theorem dX12_kitchen_57 : decode cX12_kitchen 57 = .ok (.getfield 84, 3) := by decide +kernel
theorem dX12_kitchen_60 : decode cX12_kitchen 60 = .ok (.iconst 2, 1) := by decide +kernel
theorem dX12_kitchen_61 : decode cX12_kitchen 61 = .ok (.aload_n 0, 1) := by decide +kernel
theorem dX12_kitchen_62 : decode cX12_kitchen 62 = .ok (.getfield 103, 3) := by decide +kernel
theorem dX12_kitchen_65 : decode cX12_kitchen 65 = .ok (.imul, 1) := by decide +kernel
theorem dX12_kitchen_66 : decode cX12_kitchen 66 = .ok (.iconst (-1), 1) := by decide +kernel
theorem dX12_kitchen_67 : decode cX12_kitchen 67 = .ok (.iastore, 1) := by decide +kernel
theorem dX12_kitchen_68 : decode cX12_kitchen 68 = .ok (.aload_n 0, 1) := by decide +kernel
theorem dX12_kitchen_69 : decode cX12_kitchen 69 = .ok (.getfield 84, 3) := by decide +kernel
theorem dX12_kitchen_72 : decode cX12_kitchen 72 = .ok (.iconst 2, 1) := by decide +kernel
theorem dX12_kitchen_73 : decode cX12_kitchen 73 = .ok (.aload_n 0, 1) := by decide +kernel
theorem dX12_kitchen_74 : decode cX12_kitchen 74 = .ok (.getfield 103, 3) := by decide +kernel
theorem dX12_kitchen_77 : decode cX12_kitchen 77 = .ok (.imul, 1) := by decide +kernel
theorem dX12_kitchen_78 : decode cX12_kitchen 78 = .ok (.iconst 1, 1) := by decide +kernel
theorem dX12_kitchen_79 : decode cX12_kitchen 79 = .ok (.iadd, 1) := by decide +kernel
theorem dX12_kitchen_80 : decode cX12_kitchen 80 = .ok (.iconst (-1), 1) := by decide +kernel
theorem dX12_kitchen_81 : decode cX12_kitchen 81 = .ok (.iastore, 1) := by decide +kernel
theorem dX12_kitchen_82 : decode cX12_kitchen 82 = .ok (.aload_n 0, 1) := by decide +kernel
theorem dX12_kitchen_83 : decode cX12_kitchen 83 = .ok (.iconst 0, 1) := by decide +kernel
theorem dX12_kitchen_84 : decode cX12_kitchen 84 = .ok (.putfield 100, 3) := by decide +kernel
theorem dX12_kitchen_87 : decode cX12_kitchen 87 = .ok (.aload_n 0, 1) := by decide +kernel
theorem dX12_kitchen_88 : decode cX12_kitchen 88 = .ok (.invokevirtual 259, 3) := by decide +kernel
theorem dX12_kitchen_91 : decode cX12_kitchen 91 = .ok (.aload_n 0, 1) := by decide +kernel
theorem dX12_kitchen_92 : decode cX12_kitchen 92 = .ok (.invokevirtual 404, 3) := by decide +kernel
theorem dX12_kitchen_95 : decode cX12_kitchen 95 = .ok (.iconst 1, 1) := by decide +kernel
theorem dX12_kitchen_96 : decode cX12_kitchen 96 = .ok (.istore_n 1, 1) := by decide +kernel
theorem dX12_kitchen_97 : decode cX12_kitchen 97 = .ok (.aload_n 0, 1) := by decide +kernel
theorem dX12_kitchen_98 : decode cX12_kitchen 98 = .ok (.iload_n 1, 1) := by decide +kernel
theorem dX12_kitchen_99 : decode cX12_kitchen 99 = .ok (.invokevirtual 406, 3) := by decide +kernel
theorem dX12_kitchen_102 : decode cX12_kitchen 102 = .ok (.aload_n 0, 1) := by decide +kernel
theorem dX12_kitchen_103 : decode cX12_kitchen 103 = .ok (.getfield 36, 3) := by decide +kernel
theorem dX12_kitchen_106 : decode cX12_kitchen 106 = .ok (.ifCond .ne 25, 3) := by decide +kernel
theorem dX12_kitchen_109 : decode cX12_kitchen 109 = .ok (.aload_n 0, 1) := by decide +kernel
theorem dX12_kitchen_110 : decode cX12_kitchen 110 = .ok (.getfield 20, 3) := by decide +kernel
theorem dX12_kitchen_113 : decode cX12_kitchen 113 = .ok (.ifCond .eq 18, 3) := by decide +kernel
theorem dX12_kitchen_116 : decode cX12_kitchen 116 = .ok (.aload_n 0, 1) := by decide +kernel
theorem dX12_kitchen_117 : decode cX12_kitchen 117 = .ok (.invokevirtual 409, 3) := by decide +kernel
theorem dX12_kitchen_120 : decode cX12_kitchen 120 = .ok (.iinc 1 1, 3) := by decide +kernel
theorem dX12_kitchen_123 : decode cX12_kitchen 123 = .ok (.aload_n 0, 1) := by decide +kernel
theorem dX12_kitchen_124 : decode cX12_kitchen 124 = .ok (.iload_n 1, 1) := by decide +kernel
theorem dX12_kitchen_125 : decode cX12_kitchen 125 = .ok (.invokevirtual 406, 3) := by decide +kernel
theorem dX12_kitchen_128 : decode cX12_kitchen 128 = .ok (.goto (-26), 3) := by decide +kernel
theorem dX12_kitchen_131 : decode cX12_kitchen 131 = .ok (.aload_n 0, 1) := by decide +kernel
theorem dX12_kitchen_132 : decode cX12_kitchen 132 = .ok (.aload_n 0, 1) := by decide +kernel
theorem dX12_kitchen_133 : decode cX12_kitchen 133 = .ok (.getfield 36, 3) := by decide +kernel
theorem dX12_kitchen_136 : decode cX12_kitchen 136 = .ok (.putfield 42, 3) := by decide +kernel
theorem dX12_kitchen_139 : decode cX12_kitchen 139 = .ok (.aload_n 0, 1) := by decide +kernel
theorem dX12_kitchen_140 : decode cX12_kitchen 140 = .ok (.aload_n 0, 1) := by decide +kernel
theorem dX12_kitchen_141 : decode cX12_kitchen 141 = .ok (.getfield 39, 3) := by decide +kernel
theorem dX12_kitchen_144 : decode cX12_kitchen 144 = .ok (.putfield 45, 3) := by decide +kernel
theorem dX12_kitchen_147 : decode cX12_kitchen 147 = .ok (.aload_n 0, 1) := by decide +kernel
theorem dX12_kitchen_148 : decode cX12_kitchen 148 = .ok (.getfield 36, 3) := by decide +kernel
theorem dX12_kitchen_151 : decode cX12_kitchen 151 = .ok (.ifCond .le 9, 3) := by decide +kernel
theorem dX12_kitchen_154 : decode cX12_kitchen 154 = .ok (.aload_n 0, 1) := by decide +kernel
theorem dX12_kitchen_155 : decode cX12_kitchen 155 = .ok (.iconst 1, 1) := by decide +kernel
theorem dX12_kitchen_156 : decode cX12_kitchen 156 = .ok (.invokevirtual 235, 3) := by decide +kernel
theorem dX12_kitchen_159 : decode cX12_kitchen 159 = .ok (.ireturn, 1) := by decide +kernel
theorem dX12_kitchen_160 : decode cX12_kitchen 160 = .ok (.aload_n 0, 1) := by decide +kernel
theorem dX12_kitchen_161 : decode cX12_kitchen 161 = .ok (.aload_n 0, 1) := by decide +kernel
theorem dX12_kitchen_162 : decode cX12_kitchen 162 = .ok (.getfield 103, 3) := by decide +kernel
theorem dX12_kitchen_165 : decode cX12_kitchen 165 = .ok (.putfield 51, 3) := by decide +kernel
theorem dX12_kitchen_168 : decode cX12_kitchen 168 = .ok (.aload_n 0, 1) := by decide +kernel
theorem dX12_kitchen_169 : decode cX12_kitchen 169 = .ok (.invokevirtual 412, 3) := by decide +kernel
theorem dX12_kitchen_172 : decode cX12_kitchen 172 = .ok (.iload_n 1, 1) := by decide +kernel
theorem dX12_kitchen_173 : decode cX12_kitchen 173 = .ok (.ireturn, 1) := by decide +kernel
theorem dX12_fault_0 : decode cX12_fault 0 = .ok (.iload_n 1, 1) := by decide +kernel
theorem dX12_fault_1 : decode cX12_fault 1 = .ok (.ifCond .ne 10, 3) := by decide +kernel
theorem dX12_fault_4 : decode cX12_fault 4 = .ok (.aload_n 0, 1) := by decide +kernel
theorem dX12_fault_5 : decode cX12_fault 5 = .ok (.getfield 42, 3) := by decide +kernel
theorem dX12_fault_8 : decode cX12_fault 8 = .ok (.goto 16, 3) := by decide +kernel
theorem dX12_fault_11 : decode cX12_fault 11 = .ok (.iload_n 1, 1) := by decide +kernel
theorem dX12_fault_12 : decode cX12_fault 12 = .ok (.iconst 1, 1) := by decide +kernel
theorem dX12_fault_13 : decode cX12_fault 13 = .ok (.if_icmp .ne 10, 3) := by decide +kernel
theorem dX12_fault_16 : decode cX12_fault 16 = .ok (.aload_n 0, 1) := by decide +kernel
theorem dX12_fault_17 : decode cX12_fault 17 = .ok (.getfield 45, 3) := by decide +kernel
theorem dX12_fault_20 : decode cX12_fault 20 = .ok (.goto 4, 3) := by decide +kernel
theorem dX12_fault_23 : decode cX12_fault 23 = .ok (.iconst (-1), 1) := by decide +kernel
theorem dX12_fault_24 : decode cX12_fault 24 = .ok (.ireturn, 1) := by decide +kernel
theorem dX12_refuses_0 : decode cX12_refuses 0 = .ok (.aload_n 0, 1) := by decide +kernel
theorem dX12_refuses_1 : decode cX12_refuses 1 = .ok (.getfield 141, 3) := by decide +kernel
theorem dX12_refuses_4 : decode cX12_refuses 4 = .ok (.iload_n 1, 1) := by decide +kernel
theorem dX12_refuses_5 : decode cX12_refuses 5 = .ok (.dup2, 1) := by decide +kernel
theorem dX12_refuses_6 : decode cX12_refuses 6 = .ok (.iaload, 1) := by decide +kernel
theorem dX12_refuses_7 : decode cX12_refuses 7 = .ok (.iconst 1, 1) := by decide +kernel
theorem dX12_refuses_8 : decode cX12_refuses 8 = .ok (.iadd, 1) := by decide +kernel
theorem dX12_refuses_9 : decode cX12_refuses 9 = .ok (.iastore, 1) := by decide +kernel
theorem dX12_refuses_10 : decode cX12_refuses 10 = .ok (.iconst (-1), 1) := by decide +kernel
theorem dX12_refuses_11 : decode cX12_refuses 11 = .ok (.ireturn, 1) := by decide +kernel
theorem dX12_status_0 : decode cX12_status 0 = .ok (.iload_n 1, 1) := by decide +kernel
theorem dX12_status_1 : decode cX12_status 1 = .ok (.iconst 0, 1) := by decide +kernel
theorem dX12_status_2 : decode cX12_status 2 = .ok (.iconst 5, 1) := by decide +kernel
theorem dX12_status_3 : decode cX12_status 3 = .ok (.invokestatic 318, 3) := by decide +kernel
theorem dX12_status_6 : decode cX12_status 6 = .ok (.ifCond .eq 12, 3) := by decide +kernel
theorem dX12_status_9 : decode cX12_status 9 = .ok (.aload_n 0, 1) := by decide +kernel
theorem dX12_status_10 : decode cX12_status 10 = .ok (.getfield 141, 3) := by decide +kernel
theorem dX12_status_13 : decode cX12_status 13 = .ok (.iload_n 1, 1) := by decide +kernel
theorem dX12_status_14 : decode cX12_status 14 = .ok (.iaload, 1) := by decide +kernel
theorem dX12_status_15 : decode cX12_status 15 = .ok (.goto 4, 3) := by decide +kernel
theorem dX12_status_18 : decode cX12_status 18 = .ok (.iconst (-1), 1) := by decide +kernel
theorem dX12_status_19 : decode cX12_status 19 = .ok (.ireturn, 1) := by decide +kernel
theorem dX12_copies_0 : decode cX12_copies 0 = .ok (.aload_n 0, 1) := by decide +kernel
theorem dX12_copies_1 : decode cX12_copies 1 = .ok (.getfield 144, 3) := by decide +kernel
theorem dX12_copies_4 : decode cX12_copies 4 = .ok (.iload_n 1, 1) := by decide +kernel
theorem dX12_copies_5 : decode cX12_copies 5 = .ok (.aload_n 0, 1) := by decide +kernel
theorem dX12_copies_6 : decode cX12_copies 6 = .ok (.getfield 144, 3) := by decide +kernel
theorem dX12_copies_9 : decode cX12_copies 9 = .ok (.iload_n 2, 1) := by decide +kernel
theorem dX12_copies_10 : decode cX12_copies 10 = .ok (.iaload, 1) := by decide +kernel
theorem dX12_copies_11 : decode cX12_copies 11 = .ok (.iastore, 1) := by decide +kernel
theorem dX12_copies_12 : decode cX12_copies 12 = .ok (.aload_n 0, 1) := by decide +kernel
theorem dX12_copies_13 : decode cX12_copies 13 = .ok (.getfield 147, 3) := by decide +kernel
theorem dX12_copies_16 : decode cX12_copies 16 = .ok (.iload_n 1, 1) := by decide +kernel
theorem dX12_copies_17 : decode cX12_copies 17 = .ok (.aload_n 0, 1) := by decide +kernel
theorem dX12_copies_18 : decode cX12_copies 18 = .ok (.getfield 147, 3) := by decide +kernel
theorem dX12_copies_21 : decode cX12_copies 21 = .ok (.iload_n 2, 1) := by decide +kernel
theorem dX12_copies_22 : decode cX12_copies 22 = .ok (.iaload, 1) := by decide +kernel
theorem dX12_copies_23 : decode cX12_copies 23 = .ok (.iastore, 1) := by decide +kernel
theorem dX12_copies_24 : decode cX12_copies 24 = .ok (.iconst 0, 1) := by decide +kernel
theorem dX12_copies_25 : decode cX12_copies 25 = .ok (.istore_n 3, 1) := by decide +kernel
theorem dX12_copies_26 : decode cX12_copies 26 = .ok (.iload_n 3, 1) := by decide +kernel
theorem dX12_copies_27 : decode cX12_copies 27 = .ok (.bipush 6, 2) := by decide +kernel
theorem dX12_copies_29 : decode cX12_copies 29 = .ok (.if_icmp .ge 119, 3) := by decide +kernel
theorem dX12_copies_32 : decode cX12_copies 32 = .ok (.aload_n 0, 1) := by decide +kernel
theorem dX12_copies_33 : decode cX12_copies 33 = .ok (.getfield 150, 3) := by decide +kernel
theorem dX12_copies_36 : decode cX12_copies 36 = .ok (.bipush 6, 2) := by decide +kernel
theorem dX12_copies_38 : decode cX12_copies 38 = .ok (.iload_n 1, 1) := by decide +kernel
theorem dX12_copies_39 : decode cX12_copies 39 = .ok (.imul, 1) := by decide +kernel
theorem dX12_copies_40 : decode cX12_copies 40 = .ok (.iload_n 3, 1) := by decide +kernel
theorem dX12_copies_41 : decode cX12_copies 41 = .ok (.iadd, 1) := by decide +kernel
theorem dX12_copies_42 : decode cX12_copies 42 = .ok (.aload_n 0, 1) := by decide +kernel
theorem dX12_copies_43 : decode cX12_copies 43 = .ok (.getfield 150, 3) := by decide +kernel
theorem dX12_copies_46 : decode cX12_copies 46 = .ok (.bipush 6, 2) := by decide +kernel
theorem dX12_copies_48 : decode cX12_copies 48 = .ok (.iload_n 2, 1) := by decide +kernel
theorem dX12_copies_49 : decode cX12_copies 49 = .ok (.imul, 1) := by decide +kernel
theorem dX12_copies_50 : decode cX12_copies 50 = .ok (.iload_n 3, 1) := by decide +kernel
theorem dX12_copies_51 : decode cX12_copies 51 = .ok (.iadd, 1) := by decide +kernel
theorem dX12_copies_52 : decode cX12_copies 52 = .ok (.iaload, 1) := by decide +kernel
theorem dX12_copies_53 : decode cX12_copies 53 = .ok (.iastore, 1) := by decide +kernel
theorem dX12_copies_54 : decode cX12_copies 54 = .ok (.aload_n 0, 1) := by decide +kernel
theorem dX12_copies_55 : decode cX12_copies 55 = .ok (.getfield 153, 3) := by decide +kernel
theorem dX12_copies_58 : decode cX12_copies 58 = .ok (.bipush 6, 2) := by decide +kernel
theorem dX12_copies_60 : decode cX12_copies 60 = .ok (.iload_n 1, 1) := by decide +kernel
theorem dX12_copies_61 : decode cX12_copies 61 = .ok (.imul, 1) := by decide +kernel
theorem dX12_copies_62 : decode cX12_copies 62 = .ok (.iload_n 3, 1) := by decide +kernel
theorem dX12_copies_63 : decode cX12_copies 63 = .ok (.iadd, 1) := by decide +kernel
theorem dX12_copies_64 : decode cX12_copies 64 = .ok (.aload_n 0, 1) := by decide +kernel
theorem dX12_copies_65 : decode cX12_copies 65 = .ok (.getfield 153, 3) := by decide +kernel
theorem dX12_copies_68 : decode cX12_copies 68 = .ok (.bipush 6, 2) := by decide +kernel
theorem dX12_copies_70 : decode cX12_copies 70 = .ok (.iload_n 2, 1) := by decide +kernel
theorem dX12_copies_71 : decode cX12_copies 71 = .ok (.imul, 1) := by decide +kernel
theorem dX12_copies_72 : decode cX12_copies 72 = .ok (.iload_n 3, 1) := by decide +kernel
theorem dX12_copies_73 : decode cX12_copies 73 = .ok (.iadd, 1) := by decide +kernel
theorem dX12_copies_74 : decode cX12_copies 74 = .ok (.iaload, 1) := by decide +kernel
theorem dX12_copies_75 : decode cX12_copies 75 = .ok (.iastore, 1) := by decide +kernel
theorem dX12_copies_76 : decode cX12_copies 76 = .ok (.aload_n 0, 1) := by decide +kernel
theorem dX12_copies_77 : decode cX12_copies 77 = .ok (.getfield 156, 3) := by decide +kernel
theorem dX12_copies_80 : decode cX12_copies 80 = .ok (.bipush 6, 2) := by decide +kernel
theorem dX12_copies_82 : decode cX12_copies 82 = .ok (.iload_n 1, 1) := by decide +kernel
theorem dX12_copies_83 : decode cX12_copies 83 = .ok (.imul, 1) := by decide +kernel
theorem dX12_copies_84 : decode cX12_copies 84 = .ok (.iload_n 3, 1) := by decide +kernel
theorem dX12_copies_85 : decode cX12_copies 85 = .ok (.iadd, 1) := by decide +kernel
theorem dX12_copies_86 : decode cX12_copies 86 = .ok (.aload_n 0, 1) := by decide +kernel
theorem dX12_copies_87 : decode cX12_copies 87 = .ok (.getfield 156, 3) := by decide +kernel
theorem dX12_copies_90 : decode cX12_copies 90 = .ok (.bipush 6, 2) := by decide +kernel
theorem dX12_copies_92 : decode cX12_copies 92 = .ok (.iload_n 2, 1) := by decide +kernel
theorem dX12_copies_93 : decode cX12_copies 93 = .ok (.imul, 1) := by decide +kernel
theorem dX12_copies_94 : decode cX12_copies 94 = .ok (.iload_n 3, 1) := by decide +kernel
theorem dX12_copies_95 : decode cX12_copies 95 = .ok (.iadd, 1) := by decide +kernel
theorem dX12_copies_96 : decode cX12_copies 96 = .ok (.iaload, 1) := by decide +kernel
theorem dX12_copies_97 : decode cX12_copies 97 = .ok (.iastore, 1) := by decide +kernel
theorem dX12_copies_98 : decode cX12_copies 98 = .ok (.aload_n 0, 1) := by decide +kernel
theorem dX12_copies_99 : decode cX12_copies 99 = .ok (.getfield 159, 3) := by decide +kernel
theorem dX12_copies_102 : decode cX12_copies 102 = .ok (.bipush 6, 2) := by decide +kernel
theorem dX12_copies_104 : decode cX12_copies 104 = .ok (.iload_n 1, 1) := by decide +kernel
theorem dX12_copies_105 : decode cX12_copies 105 = .ok (.imul, 1) := by decide +kernel
theorem dX12_copies_106 : decode cX12_copies 106 = .ok (.iload_n 3, 1) := by decide +kernel
theorem dX12_copies_107 : decode cX12_copies 107 = .ok (.iadd, 1) := by decide +kernel
theorem dX12_copies_108 : decode cX12_copies 108 = .ok (.aload_n 0, 1) := by decide +kernel
theorem dX12_copies_109 : decode cX12_copies 109 = .ok (.getfield 159, 3) := by decide +kernel
theorem dX12_copies_112 : decode cX12_copies 112 = .ok (.bipush 6, 2) := by decide +kernel
theorem dX12_copies_114 : decode cX12_copies 114 = .ok (.iload_n 2, 1) := by decide +kernel
theorem dX12_copies_115 : decode cX12_copies 115 = .ok (.imul, 1) := by decide +kernel
theorem dX12_copies_116 : decode cX12_copies 116 = .ok (.iload_n 3, 1) := by decide +kernel
theorem dX12_copies_117 : decode cX12_copies 117 = .ok (.iadd, 1) := by decide +kernel
theorem dX12_copies_118 : decode cX12_copies 118 = .ok (.iaload, 1) := by decide +kernel
theorem dX12_copies_119 : decode cX12_copies 119 = .ok (.iastore, 1) := by decide +kernel
theorem dX12_copies_120 : decode cX12_copies 120 = .ok (.aload_n 0, 1) := by decide +kernel
theorem dX12_copies_121 : decode cX12_copies 121 = .ok (.getfield 162, 3) := by decide +kernel
theorem dX12_copies_124 : decode cX12_copies 124 = .ok (.bipush 6, 2) := by decide +kernel
theorem dX12_copies_126 : decode cX12_copies 126 = .ok (.iload_n 1, 1) := by decide +kernel
theorem dX12_copies_127 : decode cX12_copies 127 = .ok (.imul, 1) := by decide +kernel
theorem dX12_copies_128 : decode cX12_copies 128 = .ok (.iload_n 3, 1) := by decide +kernel
theorem dX12_copies_129 : decode cX12_copies 129 = .ok (.iadd, 1) := by decide +kernel
theorem dX12_copies_130 : decode cX12_copies 130 = .ok (.aload_n 0, 1) := by decide +kernel
theorem dX12_copies_131 : decode cX12_copies 131 = .ok (.getfield 162, 3) := by decide +kernel
theorem dX12_copies_134 : decode cX12_copies 134 = .ok (.bipush 6, 2) := by decide +kernel
theorem dX12_copies_136 : decode cX12_copies 136 = .ok (.iload_n 2, 1) := by decide +kernel
theorem dX12_copies_137 : decode cX12_copies 137 = .ok (.imul, 1) := by decide +kernel
theorem dX12_copies_138 : decode cX12_copies 138 = .ok (.iload_n 3, 1) := by decide +kernel
theorem dX12_copies_139 : decode cX12_copies 139 = .ok (.iadd, 1) := by decide +kernel
theorem dX12_copies_140 : decode cX12_copies 140 = .ok (.iaload, 1) := by decide +kernel
theorem dX12_copies_141 : decode cX12_copies 141 = .ok (.iastore, 1) := by decide +kernel
theorem dX12_copies_142 : decode cX12_copies 142 = .ok (.iinc 3 1, 3) := by decide +kernel
theorem dX12_copies_145 : decode cX12_copies 145 = .ok (.goto (-119), 3) := by decide +kernel
theorem dX12_copies_148 : decode cX12_copies 148 = .ok (.aload_n 0, 1) := by decide +kernel
theorem dX12_copies_149 : decode cX12_copies 149 = .ok (.getfield 165, 3) := by decide +kernel
theorem dX12_copies_152 : decode cX12_copies 152 = .ok (.iload_n 1, 1) := by decide +kernel
theorem dX12_copies_153 : decode cX12_copies 153 = .ok (.aload_n 0, 1) := by decide +kernel
theorem dX12_copies_154 : decode cX12_copies 154 = .ok (.getfield 165, 3) := by decide +kernel
theorem dX12_copies_157 : decode cX12_copies 157 = .ok (.iload_n 2, 1) := by decide +kernel
theorem dX12_copies_158 : decode cX12_copies 158 = .ok (.iaload, 1) := by decide +kernel
theorem dX12_copies_159 : decode cX12_copies 159 = .ok (.iastore, 1) := by decide +kernel
theorem dX12_copies_160 : decode cX12_copies 160 = .ok (.iconst 0, 1) := by decide +kernel
theorem dX12_copies_161 : decode cX12_copies 161 = .ok (.istore_n 3, 1) := by decide +kernel
theorem dX12_copies_162 : decode cX12_copies 162 = .ok (.iload_n 3, 1) := by decide +kernel
theorem dX12_copies_163 : decode cX12_copies 163 = .ok (.iconst 4, 1) := by decide +kernel
theorem dX12_copies_164 : decode cX12_copies 164 = .ok (.aload_n 0, 1) := by decide +kernel
theorem dX12_copies_165 : decode cX12_copies 165 = .ok (.getfield 165, 3) := by decide +kernel
theorem dX12_copies_168 : decode cX12_copies 168 = .ok (.iload_n 2, 1) := by decide +kernel
theorem dX12_copies_169 : decode cX12_copies 169 = .ok (.iaload, 1) := by decide +kernel
theorem dX12_copies_170 : decode cX12_copies 170 = .ok (.imul, 1) := by decide +kernel
theorem dX12_copies_171 : decode cX12_copies 171 = .ok (.if_icmp .ge 33, 3) := by decide +kernel
theorem dX12_copies_174 : decode cX12_copies 174 = .ok (.aload_n 0, 1) := by decide +kernel
theorem dX12_copies_175 : decode cX12_copies 175 = .ok (.getfield 168, 3) := by decide +kernel
theorem dX12_copies_178 : decode cX12_copies 178 = .ok (.sipush 240, 3) := by decide +kernel
theorem dX12_copies_181 : decode cX12_copies 181 = .ok (.iload_n 1, 1) := by decide +kernel
theorem dX12_copies_182 : decode cX12_copies 182 = .ok (.imul, 1) := by decide +kernel
theorem dX12_copies_183 : decode cX12_copies 183 = .ok (.iload_n 3, 1) := by decide +kernel
theorem dX12_copies_184 : decode cX12_copies 184 = .ok (.iadd, 1) := by decide +kernel
theorem dX12_copies_185 : decode cX12_copies 185 = .ok (.aload_n 0, 1) := by decide +kernel
theorem dX12_copies_186 : decode cX12_copies 186 = .ok (.getfield 168, 3) := by decide +kernel
theorem dX12_copies_189 : decode cX12_copies 189 = .ok (.sipush 240, 3) := by decide +kernel
theorem dX12_copies_192 : decode cX12_copies 192 = .ok (.iload_n 2, 1) := by decide +kernel
theorem dX12_copies_193 : decode cX12_copies 193 = .ok (.imul, 1) := by decide +kernel
theorem dX12_copies_194 : decode cX12_copies 194 = .ok (.iload_n 3, 1) := by decide +kernel
theorem dX12_copies_195 : decode cX12_copies 195 = .ok (.iadd, 1) := by decide +kernel
theorem dX12_copies_196 : decode cX12_copies 196 = .ok (.iaload, 1) := by decide +kernel
theorem dX12_copies_197 : decode cX12_copies 197 = .ok (.iastore, 1) := by decide +kernel
theorem dX12_copies_198 : decode cX12_copies 198 = .ok (.iinc 3 1, 3) := by decide +kernel
theorem dX12_copies_201 : decode cX12_copies 201 = .ok (.goto (-39), 3) := by decide +kernel
theorem dX12_copies_204 : decode cX12_copies 204 = .ok (.return_, 1) := by decide +kernel
theorem dX12_begin_0 : decode cX12_begin 0 = .ok (.aload_n 0, 1) := by decide +kernel
theorem dX12_begin_1 : decode cX12_begin 1 = .ok (.getfield 144, 3) := by decide +kernel
theorem dX12_begin_4 : decode cX12_begin 4 = .ok (.iconst 0, 1) := by decide +kernel
theorem dX12_begin_5 : decode cX12_begin 5 = .ok (.iconst 0, 1) := by decide +kernel
theorem dX12_begin_6 : decode cX12_begin 6 = .ok (.iastore, 1) := by decide +kernel
theorem dX12_begin_7 : decode cX12_begin 7 = .ok (.aload_n 0, 1) := by decide +kernel
theorem dX12_begin_8 : decode cX12_begin 8 = .ok (.getfield 147, 3) := by decide +kernel
theorem dX12_begin_11 : decode cX12_begin 11 = .ok (.iconst 0, 1) := by decide +kernel
theorem dX12_begin_12 : decode cX12_begin 12 = .ok (.aload_n 0, 1) := by decide +kernel
theorem dX12_begin_13 : decode cX12_begin 13 = .ok (.iconst 1, 1) := by decide +kernel
theorem dX12_begin_14 : decode cX12_begin 14 = .ok (.invokevirtual 415, 3) := by decide +kernel
theorem dX12_begin_17 : decode cX12_begin 17 = .ok (.iastore, 1) := by decide +kernel
theorem dX12_begin_18 : decode cX12_begin 18 = .ok (.iconst 0, 1) := by decide +kernel
theorem dX12_begin_19 : decode cX12_begin 19 = .ok (.istore_n 1, 1) := by decide +kernel
theorem dX12_begin_20 : decode cX12_begin 20 = .ok (.iload_n 1, 1) := by decide +kernel
theorem dX12_begin_21 : decode cX12_begin 21 = .ok (.bipush 6, 2) := by decide +kernel
theorem dX12_begin_23 : decode cX12_begin 23 = .ok (.if_icmp .ge 74, 3) := by decide +kernel
theorem dX12_begin_26 : decode cX12_begin 26 = .ok (.aload_n 0, 1) := by decide +kernel
theorem dX12_begin_27 : decode cX12_begin 27 = .ok (.getfield 150, 3) := by decide +kernel
theorem dX12_begin_30 : decode cX12_begin 30 = .ok (.iload_n 1, 1) := by decide +kernel
theorem dX12_begin_31 : decode cX12_begin 31 = .ok (.aload_n 0, 1) := by decide +kernel
theorem dX12_begin_32 : decode cX12_begin 32 = .ok (.getfield 66, 3) := by decide +kernel
theorem dX12_begin_35 : decode cX12_begin 35 = .ok (.bipush 6, 2) := by decide +kernel
theorem dX12_begin_37 : decode cX12_begin 37 = .ok (.aload_n 0, 1) := by decide +kernel
theorem dX12_begin_38 : decode cX12_begin 38 = .ok (.getfield 51, 3) := by decide +kernel
theorem dX12_begin_41 : decode cX12_begin 41 = .ok (.imul, 1) := by decide +kernel
theorem dX12_begin_42 : decode cX12_begin 42 = .ok (.iload_n 1, 1) := by decide +kernel
theorem dX12_begin_43 : decode cX12_begin 43 = .ok (.iadd, 1) := by decide +kernel
theorem dX12_begin_44 : decode cX12_begin 44 = .ok (.iaload, 1) := by decide +kernel
theorem dX12_begin_45 : decode cX12_begin 45 = .ok (.iastore, 1) := by decide +kernel
theorem dX12_begin_46 : decode cX12_begin 46 = .ok (.aload_n 0, 1) := by decide +kernel
theorem dX12_begin_47 : decode cX12_begin 47 = .ok (.getfield 153, 3) := by decide +kernel
theorem dX12_begin_50 : decode cX12_begin 50 = .ok (.iload_n 1, 1) := by decide +kernel
theorem dX12_begin_51 : decode cX12_begin 51 = .ok (.aload_n 0, 1) := by decide +kernel
theorem dX12_begin_52 : decode cX12_begin 52 = .ok (.getfield 69, 3) := by decide +kernel
theorem dX12_begin_55 : decode cX12_begin 55 = .ok (.bipush 6, 2) := by decide +kernel
theorem dX12_begin_57 : decode cX12_begin 57 = .ok (.aload_n 0, 1) := by decide +kernel
theorem dX12_begin_58 : decode cX12_begin 58 = .ok (.getfield 51, 3) := by decide +kernel
theorem dX12_begin_61 : decode cX12_begin 61 = .ok (.imul, 1) := by decide +kernel
theorem dX12_begin_62 : decode cX12_begin 62 = .ok (.iload_n 1, 1) := by decide +kernel
theorem dX12_begin_63 : decode cX12_begin 63 = .ok (.iadd, 1) := by decide +kernel
theorem dX12_begin_64 : decode cX12_begin 64 = .ok (.iaload, 1) := by decide +kernel
theorem dX12_begin_65 : decode cX12_begin 65 = .ok (.iastore, 1) := by decide +kernel
theorem dX12_begin_66 : decode cX12_begin 66 = .ok (.aload_n 0, 1) := by decide +kernel
theorem dX12_begin_67 : decode cX12_begin 67 = .ok (.getfield 156, 3) := by decide +kernel
theorem dX12_begin_70 : decode cX12_begin 70 = .ok (.iload_n 1, 1) := by decide +kernel
theorem dX12_begin_71 : decode cX12_begin 71 = .ok (.aload_n 0, 1) := by decide +kernel
theorem dX12_begin_72 : decode cX12_begin 72 = .ok (.iconst 0, 1) := by decide +kernel
theorem dX12_begin_73 : decode cX12_begin 73 = .ok (.invokevirtual 415, 3) := by decide +kernel
theorem dX12_begin_76 : decode cX12_begin 76 = .ok (.iastore, 1) := by decide +kernel
theorem dX12_begin_77 : decode cX12_begin 77 = .ok (.aload_n 0, 1) := by decide +kernel
theorem dX12_begin_78 : decode cX12_begin 78 = .ok (.getfield 159, 3) := by decide +kernel
theorem dX12_begin_81 : decode cX12_begin 81 = .ok (.iload_n 1, 1) := by decide +kernel
theorem dX12_begin_82 : decode cX12_begin 82 = .ok (.iconst 0, 1) := by decide +kernel
theorem dX12_begin_83 : decode cX12_begin 83 = .ok (.iastore, 1) := by decide +kernel
theorem dX12_begin_84 : decode cX12_begin 84 = .ok (.aload_n 0, 1) := by decide +kernel
theorem dX12_begin_85 : decode cX12_begin 85 = .ok (.getfield 162, 3) := by decide +kernel
theorem dX12_begin_88 : decode cX12_begin 88 = .ok (.iload_n 1, 1) := by decide +kernel
theorem dX12_begin_89 : decode cX12_begin 89 = .ok (.iconst 0, 1) := by decide +kernel
theorem dX12_begin_90 : decode cX12_begin 90 = .ok (.iastore, 1) := by decide +kernel
theorem dX12_begin_91 : decode cX12_begin 91 = .ok (.iinc 1 1, 3) := by decide +kernel
theorem dX12_begin_94 : decode cX12_begin 94 = .ok (.goto (-74), 3) := by decide +kernel
theorem dX12_begin_97 : decode cX12_begin 97 = .ok (.aload_n 0, 1) := by decide +kernel
theorem dX12_begin_98 : decode cX12_begin 98 = .ok (.getfield 165, 3) := by decide +kernel
theorem dX12_begin_101 : decode cX12_begin 101 = .ok (.iconst 0, 1) := by decide +kernel
theorem dX12_begin_102 : decode cX12_begin 102 = .ok (.iconst 0, 1) := by decide +kernel
theorem dX12_begin_103 : decode cX12_begin 103 = .ok (.iastore, 1) := by decide +kernel
theorem dX12_begin_104 : decode cX12_begin 104 = .ok (.aload_n 0, 1) := by decide +kernel
theorem dX12_begin_105 : decode cX12_begin 105 = .ok (.iconst 0, 1) := by decide +kernel
theorem dX12_begin_106 : decode cX12_begin 106 = .ok (.putfield 174, 3) := by decide +kernel
theorem dX12_begin_109 : decode cX12_begin 109 = .ok (.aload_n 0, 1) := by decide +kernel
theorem dX12_begin_110 : decode cX12_begin 110 = .ok (.iconst 0, 1) := by decide +kernel
theorem dX12_begin_111 : decode cX12_begin 111 = .ok (.putfield 213, 3) := by decide +kernel
theorem dX12_begin_114 : decode cX12_begin 114 = .ok (.return_, 1) := by decide +kernel
theorem dX12_slot_0 : decode cX12_slot 0 = .ok (.iconst 2, 1) := by decide +kernel
theorem dX12_slot_1 : decode cX12_slot 1 = .ok (.aload_n 0, 1) := by decide +kernel
theorem dX12_slot_2 : decode cX12_slot 2 = .ok (.getfield 171, 3) := by decide +kernel
theorem dX12_slot_5 : decode cX12_slot 5 = .ok (.iload_n 1, 1) := by decide +kernel
theorem dX12_slot_6 : decode cX12_slot 6 = .ok (.iadd, 1) := by decide +kernel
theorem dX12_slot_7 : decode cX12_slot 7 = .ok (.bipush 20, 2) := by decide +kernel
theorem dX12_slot_9 : decode cX12_slot 9 = .ok (.irem, 1) := by decide +kernel
theorem dX12_slot_10 : decode cX12_slot 10 = .ok (.iadd, 1) := by decide +kernel
theorem dX12_slot_11 : decode cX12_slot 11 = .ok (.ireturn, 1) := by decide +kernel
theorem dX12_keeps_0 : decode cX12_keeps 0 = .ok (.aload_n 0, 1) := by decide +kernel
theorem dX12_keeps_1 : decode cX12_keeps 1 = .ok (.getfield 174, 3) := by decide +kernel
theorem dX12_keeps_4 : decode cX12_keeps 4 = .ok (.bipush 20, 2) := by decide +kernel
theorem dX12_keeps_6 : decode cX12_keeps 6 = .ok (.if_icmp .ne 26, 3) := by decide +kernel
theorem dX12_keeps_9 : decode cX12_keeps 9 = .ok (.aload_n 0, 1) := by decide +kernel
theorem dX12_keeps_10 : decode cX12_keeps 10 = .ok (.aload_n 0, 1) := by decide +kernel
theorem dX12_keeps_11 : decode cX12_keeps 11 = .ok (.getfield 171, 3) := by decide +kernel
theorem dX12_keeps_14 : decode cX12_keeps 14 = .ok (.iconst 1, 1) := by decide +kernel
theorem dX12_keeps_15 : decode cX12_keeps 15 = .ok (.iadd, 1) := by decide +kernel
theorem dX12_keeps_16 : decode cX12_keeps 16 = .ok (.bipush 20, 2) := by decide +kernel
theorem dX12_keeps_18 : decode cX12_keeps 18 = .ok (.irem, 1) := by decide +kernel
theorem dX12_keeps_19 : decode cX12_keeps 19 = .ok (.putfield 171, 3) := by decide +kernel
theorem dX12_keeps_22 : decode cX12_keeps 22 = .ok (.aload_n 0, 1) := by decide +kernel
theorem dX12_keeps_23 : decode cX12_keeps 23 = .ok (.dup, 1) := by decide +kernel
theorem dX12_keeps_24 : decode cX12_keeps 24 = .ok (.getfield 174, 3) := by decide +kernel
theorem dX12_keeps_27 : decode cX12_keeps 27 = .ok (.iconst 1, 1) := by decide +kernel
theorem dX12_keeps_28 : decode cX12_keeps 28 = .ok (.isub, 1) := by decide +kernel
theorem dX12_keeps_29 : decode cX12_keeps 29 = .ok (.putfield 174, 3) := by decide +kernel
theorem dX12_keeps_32 : decode cX12_keeps 32 = .ok (.aload_n 0, 1) := by decide +kernel
theorem dX12_keeps_33 : decode cX12_keeps 33 = .ok (.aload_n 0, 1) := by decide +kernel
theorem dX12_keeps_34 : decode cX12_keeps 34 = .ok (.aload_n 0, 1) := by decide +kernel
theorem dX12_keeps_35 : decode cX12_keeps 35 = .ok (.getfield 174, 3) := by decide +kernel
theorem dX12_keeps_38 : decode cX12_keeps 38 = .ok (.invokevirtual 418, 3) := by decide +kernel
theorem dX12_keeps_41 : decode cX12_keeps 41 = .ok (.iconst 0, 1) := by decide +kernel
theorem dX12_keeps_42 : decode cX12_keeps 42 = .ok (.invokevirtual 421, 3) := by decide +kernel
theorem dX12_keeps_45 : decode cX12_keeps 45 = .ok (.aload_n 0, 1) := by decide +kernel
theorem dX12_keeps_46 : decode cX12_keeps 46 = .ok (.dup, 1) := by decide +kernel
theorem dX12_keeps_47 : decode cX12_keeps 47 = .ok (.getfield 174, 3) := by decide +kernel
theorem dX12_keeps_50 : decode cX12_keeps 50 = .ok (.iconst 1, 1) := by decide +kernel
theorem dX12_keeps_51 : decode cX12_keeps 51 = .ok (.iadd, 1) := by decide +kernel
theorem dX12_keeps_52 : decode cX12_keeps 52 = .ok (.putfield 174, 3) := by decide +kernel
theorem dX12_keeps_55 : decode cX12_keeps 55 = .ok (.return_, 1) := by decide +kernel
theorem dX12_undo_0 : decode cX12_undo 0 = .ok (.aload_n 0, 1) := by decide +kernel
theorem dX12_undo_1 : decode cX12_undo 1 = .ok (.getfield 174, 3) := by decide +kernel
theorem dX12_undo_4 : decode cX12_undo 4 = .ok (.ifCond .ne 17, 3) := by decide +kernel
theorem dX12_undo_7 : decode cX12_undo 7 = .ok (.aload_n 0, 1) := by decide +kernel
theorem dX12_undo_8 : decode cX12_undo 8 = .ok (.iconst 4, 1) := by decide +kernel
theorem dX12_undo_9 : decode cX12_undo 9 = .ok (.invokevirtual 235, 3) := by decide +kernel
theorem dX12_undo_12 : decode cX12_undo 12 = .ok (.ifCond .lt 7, 3) := by decide +kernel
theorem dX12_undo_15 : decode cX12_undo 15 = .ok (.iconst 1, 1) := by decide +kernel
theorem dX12_undo_16 : decode cX12_undo 16 = .ok (.goto 4, 3) := by decide +kernel
theorem dX12_undo_19 : decode cX12_undo 19 = .ok (.iconst 0, 1) := by decide +kernel
theorem dX12_undo_20 : decode cX12_undo 20 = .ok (.ireturn, 1) := by decide +kernel
theorem dX12_undo_21 : decode cX12_undo 21 = .ok (.aload_n 0, 1) := by decide +kernel
theorem dX12_undo_22 : decode cX12_undo 22 = .ok (.dup, 1) := by decide +kernel
theorem dX12_undo_23 : decode cX12_undo 23 = .ok (.getfield 174, 3) := by decide +kernel
theorem dX12_undo_26 : decode cX12_undo 26 = .ok (.iconst 1, 1) := by decide +kernel
theorem dX12_undo_27 : decode cX12_undo 27 = .ok (.isub, 1) := by decide +kernel
theorem dX12_undo_28 : decode cX12_undo 28 = .ok (.putfield 174, 3) := by decide +kernel
theorem dX12_undo_31 : decode cX12_undo 31 = .ok (.aload_n 0, 1) := by decide +kernel
theorem dX12_undo_32 : decode cX12_undo 32 = .ok (.iconst 0, 1) := by decide +kernel
theorem dX12_undo_33 : decode cX12_undo 33 = .ok (.aload_n 0, 1) := by decide +kernel
theorem dX12_undo_34 : decode cX12_undo 34 = .ok (.aload_n 0, 1) := by decide +kernel
theorem dX12_undo_35 : decode cX12_undo 35 = .ok (.getfield 174, 3) := by decide +kernel
theorem dX12_undo_38 : decode cX12_undo 38 = .ok (.invokevirtual 418, 3) := by decide +kernel
theorem dX12_undo_41 : decode cX12_undo 41 = .ok (.invokevirtual 421, 3) := by decide +kernel
theorem dX12_undo_44 : decode cX12_undo 44 = .ok (.iconst 1, 1) := by decide +kernel
theorem dX12_undo_45 : decode cX12_undo 45 = .ok (.ireturn, 1) := by decide +kernel
theorem dX12_held_0 : decode cX12_held 0 = .ok (.lload_n 0, 1) := by decide +kernel
theorem dX12_held_1 : decode cX12_held 1 = .ok (.ldc2_w 424, 3) := by decide +kernel
theorem dX12_held_4 : decode cX12_held 4 = .ok (.lcmp, 1) := by decide +kernel
theorem dX12_held_5 : decode cX12_held 5 = .ok (.ifCond .le 9, 3) := by decide +kernel
theorem dX12_held_8 : decode cX12_held 8 = .ok (.ldc2_w 424, 3) := by decide +kernel
theorem dX12_held_11 : decode cX12_held 11 = .ok (.goto 18, 3) := by decide +kernel
theorem dX12_held_14 : decode cX12_held 14 = .ok (.lload_n 0, 1) := by decide +kernel
theorem dX12_held_15 : decode cX12_held 15 = .ok (.ldc2_w 426, 3) := by decide +kernel
theorem dX12_held_18 : decode cX12_held 18 = .ok (.lcmp, 1) := by decide +kernel
theorem dX12_held_19 : decode cX12_held 19 = .ok (.ifCond .ge 9, 3) := by decide +kernel
theorem dX12_held_22 : decode cX12_held 22 = .ok (.ldc2_w 426, 3) := by decide +kernel
theorem dX12_held_25 : decode cX12_held 25 = .ok (.goto 4, 3) := by decide +kernel
theorem dX12_held_28 : decode cX12_held 28 = .ok (.lload_n 0, 1) := by decide +kernel
theorem dX12_held_29 : decode cX12_held 29 = .ok (.lreturn, 1) := by decide +kernel
theorem dX12_floor_0 : decode cX12_floor 0 = .ok (.lload_n 2, 1) := by decide +kernel
theorem dX12_floor_1 : decode cX12_floor 1 = .ok (.lconst 0, 1) := by decide +kernel
theorem dX12_floor_2 : decode cX12_floor 2 = .ok (.lcmp, 1) := by decide +kernel
theorem dX12_floor_3 : decode cX12_floor 3 = .ok (.ifCond .ne 5, 3) := by decide +kernel
theorem dX12_floor_6 : decode cX12_floor 6 = .ok (.lconst 0, 1) := by decide +kernel
theorem dX12_floor_7 : decode cX12_floor 7 = .ok (.lreturn, 1) := by decide +kernel
theorem dX12_floor_8 : decode cX12_floor 8 = .ok (.lload_n 0, 1) := by decide +kernel
theorem dX12_floor_9 : decode cX12_floor 9 = .ok (.lload_n 2, 1) := by decide +kernel
theorem dX12_floor_10 : decode cX12_floor 10 = .ok (.ldiv, 1) := by decide +kernel
theorem dX12_floor_11 : decode cX12_floor 11 = .ok (.lstore 4, 2) := by decide +kernel
theorem dX12_floor_13 : decode cX12_floor 13 = .ok (.lload_n 0, 1) := by decide +kernel
theorem dX12_floor_14 : decode cX12_floor 14 = .ok (.lload_n 2, 1) := by decide +kernel
theorem dX12_floor_15 : decode cX12_floor 15 = .ok (.lrem, 1) := by decide +kernel
theorem dX12_floor_16 : decode cX12_floor 16 = .ok (.lconst 0, 1) := by decide +kernel
theorem dX12_floor_17 : decode cX12_floor 17 = .ok (.lcmp, 1) := by decide +kernel
theorem dX12_floor_18 : decode cX12_floor 18 = .ok (.ifCond .eq 35, 3) := by decide +kernel
theorem dX12_floor_21 : decode cX12_floor 21 = .ok (.lload_n 0, 1) := by decide +kernel
theorem dX12_floor_22 : decode cX12_floor 22 = .ok (.lconst 0, 1) := by decide +kernel
theorem dX12_floor_23 : decode cX12_floor 23 = .ok (.lcmp, 1) := by decide +kernel
theorem dX12_floor_24 : decode cX12_floor 24 = .ok (.ifCond .ge 7, 3) := by decide +kernel
theorem dX12_floor_27 : decode cX12_floor 27 = .ok (.iconst 1, 1) := by decide +kernel
theorem dX12_floor_28 : decode cX12_floor 28 = .ok (.goto 4, 3) := by decide +kernel
theorem dX12_floor_31 : decode cX12_floor 31 = .ok (.iconst 0, 1) := by decide +kernel
theorem dX12_floor_32 : decode cX12_floor 32 = .ok (.lload_n 2, 1) := by decide +kernel
theorem dX12_floor_33 : decode cX12_floor 33 = .ok (.lconst 0, 1) := by decide +kernel
theorem dX12_floor_34 : decode cX12_floor 34 = .ok (.lcmp, 1) := by decide +kernel
theorem dX12_floor_35 : decode cX12_floor 35 = .ok (.ifCond .ge 7, 3) := by decide +kernel
theorem dX12_floor_38 : decode cX12_floor 38 = .ok (.iconst 1, 1) := by decide +kernel
theorem dX12_floor_39 : decode cX12_floor 39 = .ok (.goto 4, 3) := by decide +kernel
theorem dX12_floor_42 : decode cX12_floor 42 = .ok (.iconst 0, 1) := by decide +kernel
theorem dX12_floor_43 : decode cX12_floor 43 = .ok (.if_icmp .eq 10, 3) := by decide +kernel
theorem dX12_floor_46 : decode cX12_floor 46 = .ok (.lload 4, 2) := by decide +kernel
theorem dX12_floor_48 : decode cX12_floor 48 = .ok (.lconst 1, 1) := by decide +kernel
theorem dX12_floor_49 : decode cX12_floor 49 = .ok (.lsub, 1) := by decide +kernel
theorem dX12_floor_50 : decode cX12_floor 50 = .ok (.goto 5, 3) := by decide +kernel
theorem dX12_floor_53 : decode cX12_floor 53 = .ok (.lload 4, 2) := by decide +kernel
theorem dX12_floor_55 : decode cX12_floor 55 = .ok (.lreturn, 1) := by decide +kernel
theorem dX12_two_0 : decode cX12_two 0 = .ok (.iload_n 0, 1) := by decide +kernel
theorem dX12_two_1 : decode cX12_two 1 = .ok (.tableswitch 176 31 41 #[59, 66, 73, 80, 89, 112, 124, 136, 148, 160, 172], 59) := by decide +kernel
theorem dX12_two_60 : decode cX12_two 60 = .ok (.lload_n 1, 1) := by decide +kernel
theorem dX12_two_61 : decode cX12_two 61 = .ok (.lload_n 3, 1) := by decide +kernel
theorem dX12_two_62 : decode cX12_two 62 = .ok (.ladd, 1) := by decide +kernel
theorem dX12_two_63 : decode cX12_two 63 = .ok (.invokestatic 428, 3) := by decide +kernel
theorem dX12_two_66 : decode cX12_two 66 = .ok (.lreturn, 1) := by decide +kernel
theorem dX12_two_67 : decode cX12_two 67 = .ok (.lload_n 1, 1) := by decide +kernel
theorem dX12_two_68 : decode cX12_two 68 = .ok (.lload_n 3, 1) := by decide +kernel
theorem dX12_two_69 : decode cX12_two 69 = .ok (.lsub, 1) := by decide +kernel
theorem dX12_two_70 : decode cX12_two 70 = .ok (.invokestatic 428, 3) := by decide +kernel
theorem dX12_two_73 : decode cX12_two 73 = .ok (.lreturn, 1) := by decide +kernel
theorem dX12_two_74 : decode cX12_two 74 = .ok (.lload_n 1, 1) := by decide +kernel
theorem dX12_two_75 : decode cX12_two 75 = .ok (.lload_n 3, 1) := by decide +kernel
theorem dX12_two_76 : decode cX12_two 76 = .ok (.lmul, 1) := by decide +kernel
theorem dX12_two_77 : decode cX12_two 77 = .ok (.invokestatic 428, 3) := by decide +kernel
theorem dX12_two_80 : decode cX12_two 80 = .ok (.lreturn, 1) := by decide +kernel
theorem dX12_two_81 : decode cX12_two 81 = .ok (.lload_n 1, 1) := by decide +kernel
theorem dX12_two_82 : decode cX12_two 82 = .ok (.lload_n 3, 1) := by decide +kernel
theorem dX12_two_83 : decode cX12_two 83 = .ok (.invokestatic 432, 3) := by decide +kernel
theorem dX12_two_86 : decode cX12_two 86 = .ok (.invokestatic 428, 3) := by decide +kernel
theorem dX12_two_89 : decode cX12_two 89 = .ok (.lreturn, 1) := by decide +kernel
theorem dX12_two_90 : decode cX12_two 90 = .ok (.lload_n 3, 1) := by decide +kernel
theorem dX12_two_91 : decode cX12_two 91 = .ok (.lconst 0, 1) := by decide +kernel
theorem dX12_two_92 : decode cX12_two 92 = .ok (.lcmp, 1) := by decide +kernel
theorem dX12_two_93 : decode cX12_two 93 = .ok (.ifCond .ne 7, 3) := by decide +kernel
theorem dX12_two_96 : decode cX12_two 96 = .ok (.lconst 0, 1) := by decide +kernel
theorem dX12_two_97 : decode cX12_two 97 = .ok (.goto 15, 3) := by decide +kernel
theorem dX12_two_100 : decode cX12_two 100 = .ok (.lload_n 1, 1) := by decide +kernel
theorem dX12_two_101 : decode cX12_two 101 = .ok (.lload_n 3, 1) := by decide +kernel
theorem dX12_two_102 : decode cX12_two 102 = .ok (.lload_n 1, 1) := by decide +kernel
theorem dX12_two_103 : decode cX12_two 103 = .ok (.lload_n 3, 1) := by decide +kernel
theorem dX12_two_104 : decode cX12_two 104 = .ok (.invokestatic 432, 3) := by decide +kernel
theorem dX12_two_107 : decode cX12_two 107 = .ok (.lmul, 1) := by decide +kernel
theorem dX12_two_108 : decode cX12_two 108 = .ok (.lsub, 1) := by decide +kernel
theorem dX12_two_109 : decode cX12_two 109 = .ok (.invokestatic 428, 3) := by decide +kernel
theorem dX12_two_112 : decode cX12_two 112 = .ok (.lreturn, 1) := by decide +kernel
theorem dX12_two_113 : decode cX12_two 113 = .ok (.lload_n 1, 1) := by decide +kernel
theorem dX12_two_114 : decode cX12_two 114 = .ok (.lload_n 3, 1) := by decide +kernel
theorem dX12_two_115 : decode cX12_two 115 = .ok (.lcmp, 1) := by decide +kernel
theorem dX12_two_116 : decode cX12_two 116 = .ok (.ifCond .ge 7, 3) := by decide +kernel
theorem dX12_two_119 : decode cX12_two 119 = .ok (.lload_n 1, 1) := by decide +kernel
theorem dX12_two_120 : decode cX12_two 120 = .ok (.goto 4, 3) := by decide +kernel
theorem dX12_two_123 : decode cX12_two 123 = .ok (.lload_n 3, 1) := by decide +kernel
theorem dX12_two_124 : decode cX12_two 124 = .ok (.lreturn, 1) := by decide +kernel
theorem dX12_two_125 : decode cX12_two 125 = .ok (.lload_n 1, 1) := by decide +kernel
theorem dX12_two_126 : decode cX12_two 126 = .ok (.lload_n 3, 1) := by decide +kernel
theorem dX12_two_127 : decode cX12_two 127 = .ok (.lcmp, 1) := by decide +kernel
theorem dX12_two_128 : decode cX12_two 128 = .ok (.ifCond .le 7, 3) := by decide +kernel
theorem dX12_two_131 : decode cX12_two 131 = .ok (.lload_n 1, 1) := by decide +kernel
theorem dX12_two_132 : decode cX12_two 132 = .ok (.goto 4, 3) := by decide +kernel
theorem dX12_two_135 : decode cX12_two 135 = .ok (.lload_n 3, 1) := by decide +kernel
theorem dX12_two_136 : decode cX12_two 136 = .ok (.lreturn, 1) := by decide +kernel
theorem dX12_two_137 : decode cX12_two 137 = .ok (.lload_n 1, 1) := by decide +kernel
theorem dX12_two_138 : decode cX12_two 138 = .ok (.lload_n 3, 1) := by decide +kernel
theorem dX12_two_139 : decode cX12_two 139 = .ok (.lcmp, 1) := by decide +kernel
theorem dX12_two_140 : decode cX12_two 140 = .ok (.ifCond .ge 7, 3) := by decide +kernel
theorem dX12_two_143 : decode cX12_two 143 = .ok (.lconst 1, 1) := by decide +kernel
theorem dX12_two_144 : decode cX12_two 144 = .ok (.goto 4, 3) := by decide +kernel
theorem dX12_two_147 : decode cX12_two 147 = .ok (.lconst 0, 1) := by decide +kernel
theorem dX12_two_148 : decode cX12_two 148 = .ok (.lreturn, 1) := by decide +kernel
theorem dX12_two_149 : decode cX12_two 149 = .ok (.lload_n 1, 1) := by decide +kernel
theorem dX12_two_150 : decode cX12_two 150 = .ok (.lload_n 3, 1) := by decide +kernel
theorem dX12_two_151 : decode cX12_two 151 = .ok (.lcmp, 1) := by decide +kernel
theorem dX12_two_152 : decode cX12_two 152 = .ok (.ifCond .le 7, 3) := by decide +kernel
theorem dX12_two_155 : decode cX12_two 155 = .ok (.lconst 1, 1) := by decide +kernel
theorem dX12_two_156 : decode cX12_two 156 = .ok (.goto 4, 3) := by decide +kernel
theorem dX12_two_159 : decode cX12_two 159 = .ok (.lconst 0, 1) := by decide +kernel
theorem dX12_two_160 : decode cX12_two 160 = .ok (.lreturn, 1) := by decide +kernel
theorem dX12_two_161 : decode cX12_two 161 = .ok (.lload_n 1, 1) := by decide +kernel
theorem dX12_two_162 : decode cX12_two 162 = .ok (.lload_n 3, 1) := by decide +kernel
theorem dX12_two_163 : decode cX12_two 163 = .ok (.lcmp, 1) := by decide +kernel
theorem dX12_two_164 : decode cX12_two 164 = .ok (.ifCond .ne 7, 3) := by decide +kernel
theorem dX12_two_167 : decode cX12_two 167 = .ok (.lconst 1, 1) := by decide +kernel
theorem dX12_two_168 : decode cX12_two 168 = .ok (.goto 4, 3) := by decide +kernel
theorem dX12_two_171 : decode cX12_two 171 = .ok (.lconst 0, 1) := by decide +kernel
theorem dX12_two_172 : decode cX12_two 172 = .ok (.lreturn, 1) := by decide +kernel
theorem dX12_two_173 : decode cX12_two 173 = .ok (.lload_n 1, 1) := by decide +kernel
theorem dX12_two_174 : decode cX12_two 174 = .ok (.lload_n 3, 1) := by decide +kernel
theorem dX12_two_175 : decode cX12_two 175 = .ok (.land, 1) := by decide +kernel
theorem dX12_two_176 : decode cX12_two 176 = .ok (.lreturn, 1) := by decide +kernel
theorem dX12_two_177 : decode cX12_two 177 = .ok (.lload_n 1, 1) := by decide +kernel
theorem dX12_two_178 : decode cX12_two 178 = .ok (.lload_n 3, 1) := by decide +kernel
theorem dX12_two_179 : decode cX12_two 179 = .ok (.lor, 1) := by decide +kernel
theorem dX12_two_180 : decode cX12_two 180 = .ok (.lreturn, 1) := by decide +kernel
theorem dX12_reckons_0 : decode cX12_reckons 0 = .ok (.iconst 0, 1) := by decide +kernel
theorem dX12_reckons_1 : decode cX12_reckons 1 = .ok (.istore_n 2, 1) := by decide +kernel
theorem dX12_reckons_2 : decode cX12_reckons 2 = .ok (.sipush 1600, 3) := by decide +kernel
theorem dX12_reckons_5 : decode cX12_reckons 5 = .ok (.aload_n 0, 1) := by decide +kernel
theorem dX12_reckons_6 : decode cX12_reckons 6 = .ok (.getfield 51, 3) := by decide +kernel
theorem dX12_reckons_9 : decode cX12_reckons 9 = .ok (.imul, 1) := by decide +kernel
theorem dX12_reckons_10 : decode cX12_reckons 10 = .ok (.aload_n 0, 1) := by decide +kernel
theorem dX12_reckons_11 : decode cX12_reckons 11 = .ok (.getfield 84, 3) := by decide +kernel
theorem dX12_reckons_14 : decode cX12_reckons 14 = .ok (.iconst 2, 1) := by decide +kernel
theorem dX12_reckons_15 : decode cX12_reckons 15 = .ok (.aload_n 0, 1) := by decide +kernel
theorem dX12_reckons_16 : decode cX12_reckons 16 = .ok (.getfield 51, 3) := by decide +kernel
theorem dX12_reckons_19 : decode cX12_reckons 19 = .ok (.imul, 1) := by decide +kernel
theorem dX12_reckons_20 : decode cX12_reckons 20 = .ok (.iload_n 1, 1) := by decide +kernel
theorem dX12_reckons_21 : decode cX12_reckons 21 = .ok (.iadd, 1) := by decide +kernel
theorem dX12_reckons_22 : decode cX12_reckons 22 = .ok (.iaload, 1) := by decide +kernel
theorem dX12_reckons_23 : decode cX12_reckons 23 = .ok (.iadd, 1) := by decide +kernel
theorem dX12_reckons_24 : decode cX12_reckons 24 = .ok (.istore_n 3, 1) := by decide +kernel
theorem dX12_reckons_25 : decode cX12_reckons 25 = .ok (.iload_n 3, 1) := by decide +kernel
theorem dX12_reckons_26 : decode cX12_reckons 26 = .ok (.sipush 1600, 3) := by decide +kernel
theorem dX12_reckons_29 : decode cX12_reckons 29 = .ok (.aload_n 0, 1) := by decide +kernel
theorem dX12_reckons_30 : decode cX12_reckons 30 = .ok (.getfield 51, 3) := by decide +kernel
theorem dX12_reckons_33 : decode cX12_reckons 33 = .ok (.imul, 1) := by decide +kernel
theorem dX12_reckons_34 : decode cX12_reckons 34 = .ok (.aload_n 0, 1) := by decide +kernel
theorem dX12_reckons_35 : decode cX12_reckons 35 = .ok (.getfield 87, 3) := by decide +kernel
theorem dX12_reckons_38 : decode cX12_reckons 38 = .ok (.iconst 2, 1) := by decide +kernel
theorem dX12_reckons_39 : decode cX12_reckons 39 = .ok (.aload_n 0, 1) := by decide +kernel
theorem dX12_reckons_40 : decode cX12_reckons 40 = .ok (.getfield 51, 3) := by decide +kernel
theorem dX12_reckons_43 : decode cX12_reckons 43 = .ok (.imul, 1) := by decide +kernel
theorem dX12_reckons_44 : decode cX12_reckons 44 = .ok (.iload_n 1, 1) := by decide +kernel
theorem dX12_reckons_45 : decode cX12_reckons 45 = .ok (.iadd, 1) := by decide +kernel
theorem dX12_reckons_46 : decode cX12_reckons 46 = .ok (.iaload, 1) := by decide +kernel
theorem dX12_reckons_47 : decode cX12_reckons 47 = .ok (.iadd, 1) := by decide +kernel
theorem dX12_reckons_48 : decode cX12_reckons 48 = .ok (.if_icmp .ge 179, 3) := by decide +kernel
theorem dX12_reckons_51 : decode cX12_reckons 51 = .ok (.aload_n 0, 1) := by decide +kernel
theorem dX12_reckons_52 : decode cX12_reckons 52 = .ok (.getfield 90, 3) := by decide +kernel
theorem dX12_reckons_55 : decode cX12_reckons 55 = .ok (.iload_n 3, 1) := by decide +kernel
theorem dX12_reckons_56 : decode cX12_reckons 56 = .ok (.iaload, 1) := by decide +kernel
theorem dX12_reckons_57 : decode cX12_reckons 57 = .ok (.istore 4, 2) := by decide +kernel
theorem dX12_reckons_59 : decode cX12_reckons 59 = .ok (.iload 4, 2) := by decide +kernel
theorem dX12_reckons_61 : decode cX12_reckons 61 = .ok (.bipush 30, 2) := by decide +kernel
theorem dX12_reckons_63 : decode cX12_reckons 63 = .ok (.if_icmp .gt 49, 3) := by decide +kernel
theorem dX12_reckons_66 : decode cX12_reckons 66 = .ok (.aload_n 0, 1) := by decide +kernel
theorem dX12_reckons_67 : decode cX12_reckons 67 = .ok (.getfield 180, 3) := by decide +kernel
theorem dX12_reckons_70 : decode cX12_reckons 70 = .ok (.iload_n 2, 1) := by decide +kernel
theorem dX12_reckons_71 : decode cX12_reckons 71 = .ok (.iload 4, 2) := by decide +kernel
theorem dX12_reckons_73 : decode cX12_reckons 73 = .ok (.ifCond .ne 13, 3) := by decide +kernel
theorem dX12_reckons_76 : decode cX12_reckons 76 = .ok (.aload_n 0, 1) := by decide +kernel
theorem dX12_reckons_77 : decode cX12_reckons 77 = .ok (.getfield 93, 3) := by decide +kernel
theorem dX12_reckons_80 : decode cX12_reckons 80 = .ok (.iload_n 3, 1) := by decide +kernel
theorem dX12_reckons_81 : decode cX12_reckons 81 = .ok (.iaload, 1) := by decide +kernel
theorem dX12_reckons_82 : decode cX12_reckons 82 = .ok (.i2l, 1) := by decide +kernel
theorem dX12_reckons_83 : decode cX12_reckons 83 = .ok (.goto 22, 3) := by decide +kernel
theorem dX12_reckons_86 : decode cX12_reckons 86 = .ok (.iload 4, 2) := by decide +kernel
theorem dX12_reckons_88 : decode cX12_reckons 88 = .ok (.bipush 30, 2) := by decide +kernel
theorem dX12_reckons_90 : decode cX12_reckons 90 = .ok (.if_icmp .ne 7, 3) := by decide +kernel
theorem dX12_reckons_93 : decode cX12_reckons 93 = .ok (.lconst 1, 1) := by decide +kernel
theorem dX12_reckons_94 : decode cX12_reckons 94 = .ok (.goto 11, 3) := by decide +kernel
theorem dX12_reckons_97 : decode cX12_reckons 97 = .ok (.aload_n 0, 1) := by decide +kernel
theorem dX12_reckons_98 : decode cX12_reckons 98 = .ok (.getfield 183, 3) := by decide +kernel
theorem dX12_reckons_101 : decode cX12_reckons 101 = .ok (.iload 4, 2) := by decide +kernel
theorem dX12_reckons_103 : decode cX12_reckons 103 = .ok (.iaload, 1) := by decide +kernel
theorem dX12_reckons_104 : decode cX12_reckons 104 = .ok (.i2l, 1) := by decide +kernel
theorem dX12_reckons_105 : decode cX12_reckons 105 = .ok (.lastore, 1) := by decide +kernel
theorem dX12_reckons_106 : decode cX12_reckons 106 = .ok (.iinc 2 1, 3) := by decide +kernel
theorem dX12_reckons_109 : decode cX12_reckons 109 = .ok (.goto 112, 3) := by decide +kernel
theorem dX12_reckons_112 : decode cX12_reckons 112 = .ok (.iload 4, 2) := by decide +kernel
theorem dX12_reckons_114 : decode cX12_reckons 114 = .ok (.bipush 43, 2) := by decide +kernel
theorem dX12_reckons_116 : decode cX12_reckons 116 = .ok (.if_icmp .ne 24, 3) := by decide +kernel
theorem dX12_reckons_119 : decode cX12_reckons 119 = .ok (.aload_n 0, 1) := by decide +kernel
theorem dX12_reckons_120 : decode cX12_reckons 120 = .ok (.getfield 180, 3) := by decide +kernel
theorem dX12_reckons_123 : decode cX12_reckons 123 = .ok (.iload_n 2, 1) := by decide +kernel
theorem dX12_reckons_124 : decode cX12_reckons 124 = .ok (.iconst 1, 1) := by decide +kernel
theorem dX12_reckons_125 : decode cX12_reckons 125 = .ok (.isub, 1) := by decide +kernel
theorem dX12_reckons_126 : decode cX12_reckons 126 = .ok (.lconst 1, 1) := by decide +kernel
theorem dX12_reckons_127 : decode cX12_reckons 127 = .ok (.aload_n 0, 1) := by decide +kernel
theorem dX12_reckons_128 : decode cX12_reckons 128 = .ok (.getfield 180, 3) := by decide +kernel
theorem dX12_reckons_131 : decode cX12_reckons 131 = .ok (.iload_n 2, 1) := by decide +kernel
theorem dX12_reckons_132 : decode cX12_reckons 132 = .ok (.iconst 1, 1) := by decide +kernel
theorem dX12_reckons_133 : decode cX12_reckons 133 = .ok (.isub, 1) := by decide +kernel
theorem dX12_reckons_134 : decode cX12_reckons 134 = .ok (.laload, 1) := by decide +kernel
theorem dX12_reckons_135 : decode cX12_reckons 135 = .ok (.lsub, 1) := by decide +kernel
theorem dX12_reckons_136 : decode cX12_reckons 136 = .ok (.lastore, 1) := by decide +kernel
theorem dX12_reckons_137 : decode cX12_reckons 137 = .ok (.goto 84, 3) := by decide +kernel
theorem dX12_reckons_140 : decode cX12_reckons 140 = .ok (.iload 4, 2) := by decide +kernel
theorem dX12_reckons_142 : decode cX12_reckons 142 = .ok (.bipush 44, 2) := by decide +kernel
theorem dX12_reckons_144 : decode cX12_reckons 144 = .ok (.if_icmp .ne 47, 3) := by decide +kernel
theorem dX12_reckons_147 : decode cX12_reckons 147 = .ok (.iinc 2 (-2), 3) := by decide +kernel
theorem dX12_reckons_150 : decode cX12_reckons 150 = .ok (.aload_n 0, 1) := by decide +kernel
theorem dX12_reckons_151 : decode cX12_reckons 151 = .ok (.getfield 180, 3) := by decide +kernel
theorem dX12_reckons_154 : decode cX12_reckons 154 = .ok (.iload_n 2, 1) := by decide +kernel
theorem dX12_reckons_155 : decode cX12_reckons 155 = .ok (.iconst 1, 1) := by decide +kernel
theorem dX12_reckons_156 : decode cX12_reckons 156 = .ok (.isub, 1) := by decide +kernel
theorem dX12_reckons_157 : decode cX12_reckons 157 = .ok (.aload_n 0, 1) := by decide +kernel
theorem dX12_reckons_158 : decode cX12_reckons 158 = .ok (.getfield 180, 3) := by decide +kernel
theorem dX12_reckons_161 : decode cX12_reckons 161 = .ok (.iload_n 2, 1) := by decide +kernel
theorem dX12_reckons_162 : decode cX12_reckons 162 = .ok (.iconst 1, 1) := by decide +kernel
theorem dX12_reckons_163 : decode cX12_reckons 163 = .ok (.isub, 1) := by decide +kernel
theorem dX12_reckons_164 : decode cX12_reckons 164 = .ok (.laload, 1) := by decide +kernel
theorem dX12_reckons_165 : decode cX12_reckons 165 = .ok (.lconst 1, 1) := by decide +kernel
theorem dX12_reckons_166 : decode cX12_reckons 166 = .ok (.lcmp, 1) := by decide +kernel
theorem dX12_reckons_167 : decode cX12_reckons 167 = .ok (.ifCond .ne 12, 3) := by decide +kernel
theorem dX12_reckons_170 : decode cX12_reckons 170 = .ok (.aload_n 0, 1) := by decide +kernel
theorem dX12_reckons_171 : decode cX12_reckons 171 = .ok (.getfield 180, 3) := by decide +kernel
theorem dX12_reckons_174 : decode cX12_reckons 174 = .ok (.iload_n 2, 1) := by decide +kernel
theorem dX12_reckons_175 : decode cX12_reckons 175 = .ok (.laload, 1) := by decide +kernel
theorem dX12_reckons_176 : decode cX12_reckons 176 = .ok (.goto 11, 3) := by decide +kernel
theorem dX12_reckons_179 : decode cX12_reckons 179 = .ok (.aload_n 0, 1) := by decide +kernel
theorem dX12_reckons_180 : decode cX12_reckons 180 = .ok (.getfield 180, 3) := by decide +kernel
theorem dX12_reckons_183 : decode cX12_reckons 183 = .ok (.iload_n 2, 1) := by decide +kernel
theorem dX12_reckons_184 : decode cX12_reckons 184 = .ok (.iconst 1, 1) := by decide +kernel
theorem dX12_reckons_185 : decode cX12_reckons 185 = .ok (.iadd, 1) := by decide +kernel
theorem dX12_reckons_186 : decode cX12_reckons 186 = .ok (.laload, 1) := by decide +kernel
theorem dX12_reckons_187 : decode cX12_reckons 187 = .ok (.lastore, 1) := by decide +kernel
theorem dX12_reckons_188 : decode cX12_reckons 188 = .ok (.goto 33, 3) := by decide +kernel
theorem dX12_reckons_191 : decode cX12_reckons 191 = .ok (.iinc 2 (-1), 3) := by decide +kernel
theorem dX12_reckons_194 : decode cX12_reckons 194 = .ok (.aload_n 0, 1) := by decide +kernel
theorem dX12_reckons_195 : decode cX12_reckons 195 = .ok (.getfield 180, 3) := by decide +kernel
theorem dX12_reckons_198 : decode cX12_reckons 198 = .ok (.iload_n 2, 1) := by decide +kernel
theorem dX12_reckons_199 : decode cX12_reckons 199 = .ok (.iconst 1, 1) := by decide +kernel
theorem dX12_reckons_200 : decode cX12_reckons 200 = .ok (.isub, 1) := by decide +kernel
theorem dX12_reckons_201 : decode cX12_reckons 201 = .ok (.iload 4, 2) := by decide +kernel
theorem dX12_reckons_203 : decode cX12_reckons 203 = .ok (.aload_n 0, 1) := by decide +kernel
theorem dX12_reckons_204 : decode cX12_reckons 204 = .ok (.getfield 180, 3) := by decide +kernel
theorem dX12_reckons_207 : decode cX12_reckons 207 = .ok (.iload_n 2, 1) := by decide +kernel
theorem dX12_reckons_208 : decode cX12_reckons 208 = .ok (.iconst 1, 1) := by decide +kernel
theorem dX12_reckons_209 : decode cX12_reckons 209 = .ok (.isub, 1) := by decide +kernel
theorem dX12_reckons_210 : decode cX12_reckons 210 = .ok (.laload, 1) := by decide +kernel
theorem dX12_reckons_211 : decode cX12_reckons 211 = .ok (.aload_n 0, 1) := by decide +kernel
theorem dX12_reckons_212 : decode cX12_reckons 212 = .ok (.getfield 180, 3) := by decide +kernel
theorem dX12_reckons_215 : decode cX12_reckons 215 = .ok (.iload_n 2, 1) := by decide +kernel
theorem dX12_reckons_216 : decode cX12_reckons 216 = .ok (.laload, 1) := by decide +kernel
theorem dX12_reckons_217 : decode cX12_reckons 217 = .ok (.invokestatic 436, 3) := by decide +kernel
theorem dX12_reckons_220 : decode cX12_reckons 220 = .ok (.lastore, 1) := by decide +kernel
theorem dX12_reckons_221 : decode cX12_reckons 221 = .ok (.iinc 3 1, 3) := by decide +kernel
theorem dX12_reckons_224 : decode cX12_reckons 224 = .ok (.goto (-199), 3) := by decide +kernel
theorem dX12_reckons_227 : decode cX12_reckons 227 = .ok (.aload_n 0, 1) := by decide +kernel
theorem dX12_reckons_228 : decode cX12_reckons 228 = .ok (.getfield 180, 3) := by decide +kernel
theorem dX12_reckons_231 : decode cX12_reckons 231 = .ok (.iconst 0, 1) := by decide +kernel
theorem dX12_reckons_232 : decode cX12_reckons 232 = .ok (.laload, 1) := by decide +kernel
theorem dX12_reckons_233 : decode cX12_reckons 233 = .ok (.lreturn, 1) := by decide +kernel
theorem dX12_isTold_0 : decode cX12_isTold 0 = .ok (.aload_n 0, 1) := by decide +kernel
theorem dX12_isTold_1 : decode cX12_isTold 1 = .ok (.getfield 84, 3) := by decide +kernel
theorem dX12_isTold_4 : decode cX12_isTold 4 = .ok (.iconst 2, 1) := by decide +kernel
theorem dX12_isTold_5 : decode cX12_isTold 5 = .ok (.aload_n 0, 1) := by decide +kernel
theorem dX12_isTold_6 : decode cX12_isTold 6 = .ok (.getfield 51, 3) := by decide +kernel
theorem dX12_isTold_9 : decode cX12_isTold 9 = .ok (.imul, 1) := by decide +kernel
theorem dX12_isTold_10 : decode cX12_isTold 10 = .ok (.iload_n 1, 1) := by decide +kernel
theorem dX12_isTold_11 : decode cX12_isTold 11 = .ok (.iadd, 1) := by decide +kernel
theorem dX12_isTold_12 : decode cX12_isTold 12 = .ok (.iaload, 1) := by decide +kernel
theorem dX12_isTold_13 : decode cX12_isTold 13 = .ok (.iconst (-1), 1) := by decide +kernel
theorem dX12_isTold_14 : decode cX12_isTold 14 = .ok (.if_icmp .eq 7, 3) := by decide +kernel
theorem dX12_isTold_17 : decode cX12_isTold 17 = .ok (.iconst 1, 1) := by decide +kernel
theorem dX12_isTold_18 : decode cX12_isTold 18 = .ok (.goto 4, 3) := by decide +kernel
theorem dX12_isTold_21 : decode cX12_isTold 21 = .ok (.iconst 0, 1) := by decide +kernel
theorem dX12_isTold_22 : decode cX12_isTold 22 = .ok (.ireturn, 1) := by decide +kernel
theorem dX12_isOn_0 : decode cX12_isOn 0 = .ok (.iload_n 1, 1) := by decide +kernel
theorem dX12_isOn_1 : decode cX12_isOn 1 = .ok (.iconst 0, 1) := by decide +kernel
theorem dX12_isOn_2 : decode cX12_isOn 2 = .ok (.aload_n 0, 1) := by decide +kernel
theorem dX12_isOn_3 : decode cX12_isOn 3 = .ok (.getfield 54, 3) := by decide +kernel
theorem dX12_isOn_6 : decode cX12_isOn 6 = .ok (.aload_n 0, 1) := by decide +kernel
theorem dX12_isOn_7 : decode cX12_isOn 7 = .ok (.getfield 51, 3) := by decide +kernel
theorem dX12_isOn_10 : decode cX12_isOn 10 = .ok (.iaload, 1) := by decide +kernel
theorem dX12_isOn_11 : decode cX12_isOn 11 = .ok (.iconst 1, 1) := by decide +kernel
theorem dX12_isOn_12 : decode cX12_isOn 12 = .ok (.isub, 1) := by decide +kernel
theorem dX12_isOn_13 : decode cX12_isOn 13 = .ok (.invokestatic 318, 3) := by decide +kernel
theorem dX12_isOn_16 : decode cX12_isOn 16 = .ok (.ifCond .eq 26, 3) := by decide +kernel
theorem dX12_isOn_19 : decode cX12_isOn 19 = .ok (.iload_n 2, 1) := by decide +kernel
theorem dX12_isOn_20 : decode cX12_isOn 20 = .ok (.iconst 0, 1) := by decide +kernel
theorem dX12_isOn_21 : decode cX12_isOn 21 = .ok (.aload_n 0, 1) := by decide +kernel
theorem dX12_isOn_22 : decode cX12_isOn 22 = .ok (.getfield 57, 3) := by decide +kernel
theorem dX12_isOn_25 : decode cX12_isOn 25 = .ok (.aload_n 0, 1) := by decide +kernel
theorem dX12_isOn_26 : decode cX12_isOn 26 = .ok (.getfield 51, 3) := by decide +kernel
theorem dX12_isOn_29 : decode cX12_isOn 29 = .ok (.iaload, 1) := by decide +kernel
theorem dX12_isOn_30 : decode cX12_isOn 30 = .ok (.iconst 1, 1) := by decide +kernel
theorem dX12_isOn_31 : decode cX12_isOn 31 = .ok (.isub, 1) := by decide +kernel
theorem dX12_isOn_32 : decode cX12_isOn 32 = .ok (.invokestatic 318, 3) := by decide +kernel
theorem dX12_isOn_35 : decode cX12_isOn 35 = .ok (.ifCond .eq 7, 3) := by decide +kernel
theorem dX12_isOn_38 : decode cX12_isOn 38 = .ok (.iconst 1, 1) := by decide +kernel
theorem dX12_isOn_39 : decode cX12_isOn 39 = .ok (.goto 4, 3) := by decide +kernel
theorem dX12_isOn_42 : decode cX12_isOn 42 = .ok (.iconst 0, 1) := by decide +kernel
theorem dX12_isOn_43 : decode cX12_isOn 43 = .ok (.ireturn, 1) := by decide +kernel
theorem dX12_columnBy_0 : decode cX12_columnBy 0 = .ok (.iload_n 0, 1) := by decide +kernel
theorem dX12_columnBy_1 : decode cX12_columnBy 1 = .ok (.iconst 1, 1) := by decide +kernel
theorem dX12_columnBy_2 : decode cX12_columnBy 2 = .ok (.if_icmp .ne 7, 3) := by decide +kernel
theorem dX12_columnBy_5 : decode cX12_columnBy 5 = .ok (.iconst 1, 1) := by decide +kernel
theorem dX12_columnBy_6 : decode cX12_columnBy 6 = .ok (.goto 13, 3) := by decide +kernel
theorem dX12_columnBy_9 : decode cX12_columnBy 9 = .ok (.iload_n 0, 1) := by decide +kernel
theorem dX12_columnBy_10 : decode cX12_columnBy 10 = .ok (.iconst 3, 1) := by decide +kernel
theorem dX12_columnBy_11 : decode cX12_columnBy 11 = .ok (.if_icmp .ne 7, 3) := by decide +kernel
theorem dX12_columnBy_14 : decode cX12_columnBy 14 = .ok (.iconst (-1), 1) := by decide +kernel
theorem dX12_columnBy_15 : decode cX12_columnBy 15 = .ok (.goto 4, 3) := by decide +kernel
theorem dX12_columnBy_18 : decode cX12_columnBy 18 = .ok (.iconst 0, 1) := by decide +kernel
theorem dX12_columnBy_19 : decode cX12_columnBy 19 = .ok (.ireturn, 1) := by decide +kernel
theorem dX12_rowBy_0 : decode cX12_rowBy 0 = .ok (.iload_n 0, 1) := by decide +kernel
theorem dX12_rowBy_1 : decode cX12_rowBy 1 = .ok (.iconst 2, 1) := by decide +kernel
theorem dX12_rowBy_2 : decode cX12_rowBy 2 = .ok (.if_icmp .ne 7, 3) := by decide +kernel
theorem dX12_rowBy_5 : decode cX12_rowBy 5 = .ok (.iconst 1, 1) := by decide +kernel
theorem dX12_rowBy_6 : decode cX12_rowBy 6 = .ok (.goto 12, 3) := by decide +kernel
theorem dX12_rowBy_9 : decode cX12_rowBy 9 = .ok (.iload_n 0, 1) := by decide +kernel
theorem dX12_rowBy_10 : decode cX12_rowBy 10 = .ok (.ifCond .ne 7, 3) := by decide +kernel
theorem dX12_rowBy_13 : decode cX12_rowBy 13 = .ok (.iconst (-1), 1) := by decide +kernel
theorem dX12_rowBy_14 : decode cX12_rowBy 14 = .ok (.goto 4, 3) := by decide +kernel
theorem dX12_rowBy_17 : decode cX12_rowBy 17 = .ok (.iconst 0, 1) := by decide +kernel
theorem dX12_rowBy_18 : decode cX12_rowBy 18 = .ok (.ireturn, 1) := by decide +kernel
theorem dX12_off_0 : decode cX12_off 0 = .ok (.iload_n 2, 1) := by decide +kernel
theorem dX12_off_1 : decode cX12_off 1 = .ok (.iconst 1, 1) := by decide +kernel
theorem dX12_off_2 : decode cX12_off 2 = .ok (.iadd, 1) := by decide +kernel
theorem dX12_off_3 : decode cX12_off 3 = .ok (.iconst 4, 1) := by decide +kernel
theorem dX12_off_4 : decode cX12_off 4 = .ok (.irem, 1) := by decide +kernel
theorem dX12_off_5 : decode cX12_off 5 = .ok (.istore 5, 2) := by decide +kernel
theorem dX12_off_7 : decode cX12_off 7 = .ok (.iload_n 1, 1) := by decide +kernel
theorem dX12_off_8 : decode cX12_off 8 = .ok (.bipush 9, 2) := by decide +kernel
theorem dX12_off_10 : decode cX12_off 10 = .ok (.irem, 1) := by decide +kernel
theorem dX12_off_11 : decode cX12_off 11 = .ok (.iload_n 3, 1) := by decide +kernel
theorem dX12_off_12 : decode cX12_off 12 = .ok (.iload_n 2, 1) := by decide +kernel
theorem dX12_off_13 : decode cX12_off 13 = .ok (.invokestatic 440, 3) := by decide +kernel
theorem dX12_off_16 : decode cX12_off 16 = .ok (.imul, 1) := by decide +kernel
theorem dX12_off_17 : decode cX12_off 17 = .ok (.iadd, 1) := by decide +kernel
theorem dX12_off_18 : decode cX12_off 18 = .ok (.iload 4, 2) := by decide +kernel
theorem dX12_off_20 : decode cX12_off 20 = .ok (.iload 5, 2) := by decide +kernel
theorem dX12_off_22 : decode cX12_off 22 = .ok (.invokestatic 440, 3) := by decide +kernel
theorem dX12_off_25 : decode cX12_off 25 = .ok (.imul, 1) := by decide +kernel
theorem dX12_off_26 : decode cX12_off 26 = .ok (.iadd, 1) := by decide +kernel
theorem dX12_off_27 : decode cX12_off 27 = .ok (.istore 6, 2) := by decide +kernel
theorem dX12_off_29 : decode cX12_off 29 = .ok (.iload_n 1, 1) := by decide +kernel
theorem dX12_off_30 : decode cX12_off 30 = .ok (.bipush 9, 2) := by decide +kernel
theorem dX12_off_32 : decode cX12_off 32 = .ok (.idiv, 1) := by decide +kernel
theorem dX12_off_33 : decode cX12_off 33 = .ok (.iload_n 3, 1) := by decide +kernel
theorem dX12_off_34 : decode cX12_off 34 = .ok (.iload_n 2, 1) := by decide +kernel
theorem dX12_off_35 : decode cX12_off 35 = .ok (.invokestatic 443, 3) := by decide +kernel
theorem dX12_off_38 : decode cX12_off 38 = .ok (.imul, 1) := by decide +kernel
theorem dX12_off_39 : decode cX12_off 39 = .ok (.iadd, 1) := by decide +kernel
theorem dX12_off_40 : decode cX12_off 40 = .ok (.iload 4, 2) := by decide +kernel
theorem dX12_off_42 : decode cX12_off 42 = .ok (.iload 5, 2) := by decide +kernel
theorem dX12_off_44 : decode cX12_off 44 = .ok (.invokestatic 443, 3) := by decide +kernel
theorem dX12_off_47 : decode cX12_off 47 = .ok (.imul, 1) := by decide +kernel
theorem dX12_off_48 : decode cX12_off 48 = .ok (.iadd, 1) := by decide +kernel
theorem dX12_off_49 : decode cX12_off 49 = .ok (.istore 7, 2) := by decide +kernel
theorem dX12_off_51 : decode cX12_off 51 = .ok (.aload_n 0, 1) := by decide +kernel
theorem dX12_off_52 : decode cX12_off 52 = .ok (.iload 6, 2) := by decide +kernel
theorem dX12_off_54 : decode cX12_off 54 = .ok (.iload 7, 2) := by decide +kernel
theorem dX12_off_56 : decode cX12_off 56 = .ok (.invokevirtual 446, 3) := by decide +kernel
theorem dX12_off_59 : decode cX12_off 59 = .ok (.ifCond .eq 14, 3) := by decide +kernel
theorem dX12_off_62 : decode cX12_off 62 = .ok (.bipush 9, 2) := by decide +kernel
theorem dX12_off_64 : decode cX12_off 64 = .ok (.iload 7, 2) := by decide +kernel
theorem dX12_off_66 : decode cX12_off 66 = .ok (.imul, 1) := by decide +kernel
theorem dX12_off_67 : decode cX12_off 67 = .ok (.iload 6, 2) := by decide +kernel
theorem dX12_off_69 : decode cX12_off 69 = .ok (.iadd, 1) := by decide +kernel
theorem dX12_off_70 : decode cX12_off 70 = .ok (.goto 4, 3) := by decide +kernel
theorem dX12_off_73 : decode cX12_off 73 = .ok (.iconst (-1), 1) := by decide +kernel
theorem dX12_off_74 : decode cX12_off 74 = .ok (.ireturn, 1) := by decide +kernel
theorem dX12_seen_0 : decode cX12_seen 0 = .ok (.iload_n 2, 1) := by decide +kernel
theorem dX12_seen_1 : decode cX12_seen 1 = .ok (.iconst (-1), 1) := by decide +kernel
theorem dX12_seen_2 : decode cX12_seen 2 = .ok (.if_icmp .ne 7, 3) := by decide +kernel
theorem dX12_seen_5 : decode cX12_seen 5 = .ok (.iconst 0, 1) := by decide +kernel
theorem dX12_seen_6 : decode cX12_seen 6 = .ok (.goto 24, 3) := by decide +kernel
theorem dX12_seen_9 : decode cX12_seen 9 = .ok (.aload_n 0, 1) := by decide +kernel
theorem dX12_seen_10 : decode cX12_seen 10 = .ok (.getfield 60, 3) := by decide +kernel
theorem dX12_seen_13 : decode cX12_seen 13 = .ok (.bipush 81, 2) := by decide +kernel
theorem dX12_seen_15 : decode cX12_seen 15 = .ok (.aload_n 0, 1) := by decide +kernel
theorem dX12_seen_16 : decode cX12_seen 16 = .ok (.getfield 51, 3) := by decide +kernel
theorem dX12_seen_19 : decode cX12_seen 19 = .ok (.imul, 1) := by decide +kernel
theorem dX12_seen_20 : decode cX12_seen 20 = .ok (.iload_n 2, 1) := by decide +kernel
theorem dX12_seen_21 : decode cX12_seen 21 = .ok (.iadd, 1) := by decide +kernel
theorem dX12_seen_22 : decode cX12_seen 22 = .ok (.iaload, 1) := by decide +kernel
theorem dX12_seen_23 : decode cX12_seen 23 = .ok (.aload_n 0, 1) := by decide +kernel
theorem dX12_seen_24 : decode cX12_seen 24 = .ok (.getfield 147, 3) := by decide +kernel
theorem dX12_seen_27 : decode cX12_seen 27 = .ok (.iload_n 1, 1) := by decide +kernel
theorem dX12_seen_28 : decode cX12_seen 28 = .ok (.iaload, 1) := by decide +kernel
theorem dX12_seen_29 : decode cX12_seen 29 = .ok (.isub, 1) := by decide +kernel
theorem dX12_seen_30 : decode cX12_seen 30 = .ok (.istore_n 3, 1) := by decide +kernel
theorem dX12_seen_31 : decode cX12_seen 31 = .ok (.iload_n 3, 1) := by decide +kernel
theorem dX12_seen_32 : decode cX12_seen 32 = .ok (.ifCond .ge 7, 3) := by decide +kernel
theorem dX12_seen_35 : decode cX12_seen 35 = .ok (.iconst 0, 1) := by decide +kernel
theorem dX12_seen_36 : decode cX12_seen 36 = .ok (.goto 4, 3) := by decide +kernel
theorem dX12_seen_39 : decode cX12_seen 39 = .ok (.iload_n 3, 1) := by decide +kernel
theorem dX12_seen_40 : decode cX12_seen 40 = .ok (.ireturn, 1) := by decide +kernel
theorem dX12_isBlack_0 : decode cX12_isBlack 0 = .ok (.aload_n 0, 1) := by decide +kernel
theorem dX12_isBlack_1 : decode cX12_isBlack 1 = .ok (.iload_n 1, 1) := by decide +kernel
theorem dX12_isBlack_2 : decode cX12_isBlack 2 = .ok (.iload_n 2, 1) := by decide +kernel
theorem dX12_isBlack_3 : decode cX12_isBlack 3 = .ok (.invokevirtual 450, 3) := by decide +kernel
theorem dX12_isBlack_6 : decode cX12_isBlack 6 = .ok (.iconst 5, 1) := by decide +kernel
theorem dX12_isBlack_7 : decode cX12_isBlack 7 = .ok (.if_icmp .lt 7, 3) := by decide +kernel
theorem dX12_isBlack_10 : decode cX12_isBlack 10 = .ok (.iconst 1, 1) := by decide +kernel
theorem dX12_isBlack_11 : decode cX12_isBlack 11 = .ok (.goto 4, 3) := by decide +kernel
theorem dX12_isBlack_14 : decode cX12_isBlack 14 = .ok (.iconst 0, 1) := by decide +kernel
theorem dX12_isBlack_15 : decode cX12_isBlack 15 = .ok (.ireturn, 1) := by decide +kernel
theorem dX12_apart_0 : decode cX12_apart 0 = .ok (.iload_n 1, 1) := by decide +kernel
theorem dX12_apart_1 : decode cX12_apart 1 = .ok (.aload_n 0, 1) := by decide +kernel
theorem dX12_apart_2 : decode cX12_apart 2 = .ok (.getfield 186, 3) := by decide +kernel
theorem dX12_apart_5 : decode cX12_apart 5 = .ok (.if_icmp .ne 10, 3) := by decide +kernel
theorem dX12_apart_8 : decode cX12_apart 8 = .ok (.aload_n 0, 1) := by decide +kernel
theorem dX12_apart_9 : decode cX12_apart 9 = .ok (.getfield 189, 3) := by decide +kernel
theorem dX12_apart_12 : decode cX12_apart 12 = .ok (.goto 17, 3) := by decide +kernel
theorem dX12_apart_15 : decode cX12_apart 15 = .ok (.aload_n 0, 1) := by decide +kernel
theorem dX12_apart_16 : decode cX12_apart 16 = .ok (.getfield 72, 3) := by decide +kernel
theorem dX12_apart_19 : decode cX12_apart 19 = .ok (.bipush 6, 2) := by decide +kernel
theorem dX12_apart_21 : decode cX12_apart 21 = .ok (.aload_n 0, 1) := by decide +kernel
theorem dX12_apart_22 : decode cX12_apart 22 = .ok (.getfield 51, 3) := by decide +kernel
theorem dX12_apart_25 : decode cX12_apart 25 = .ok (.imul, 1) := by decide +kernel
theorem dX12_apart_26 : decode cX12_apart 26 = .ok (.iload_n 1, 1) := by decide +kernel
theorem dX12_apart_27 : decode cX12_apart 27 = .ok (.iadd, 1) := by decide +kernel
theorem dX12_apart_28 : decode cX12_apart 28 = .ok (.iaload, 1) := by decide +kernel
theorem dX12_apart_29 : decode cX12_apart 29 = .ok (.ireturn, 1) := by decide +kernel
theorem dX12_on_0 : decode cX12_on 0 = .ok (.iload_n 1, 1) := by decide +kernel
theorem dX12_on_1 : decode cX12_on 1 = .ok (.aload_n 0, 1) := by decide +kernel
theorem dX12_on_2 : decode cX12_on 2 = .ok (.getfield 186, 3) := by decide +kernel
theorem dX12_on_5 : decode cX12_on 5 = .ok (.if_icmp .ne 10, 3) := by decide +kernel
theorem dX12_on_8 : decode cX12_on 8 = .ok (.aload_n 0, 1) := by decide +kernel
theorem dX12_on_9 : decode cX12_on 9 = .ok (.getfield 192, 3) := by decide +kernel
theorem dX12_on_12 : decode cX12_on 12 = .ok (.goto 17, 3) := by decide +kernel
theorem dX12_on_15 : decode cX12_on 15 = .ok (.aload_n 0, 1) := by decide +kernel
theorem dX12_on_16 : decode cX12_on 16 = .ok (.getfield 75, 3) := by decide +kernel
theorem dX12_on_19 : decode cX12_on 19 = .ok (.bipush 6, 2) := by decide +kernel
theorem dX12_on_21 : decode cX12_on 21 = .ok (.aload_n 0, 1) := by decide +kernel
theorem dX12_on_22 : decode cX12_on 22 = .ok (.getfield 51, 3) := by decide +kernel
theorem dX12_on_25 : decode cX12_on 25 = .ok (.imul, 1) := by decide +kernel
theorem dX12_on_26 : decode cX12_on 26 = .ok (.iload_n 1, 1) := by decide +kernel
theorem dX12_on_27 : decode cX12_on 27 = .ok (.iadd, 1) := by decide +kernel
theorem dX12_on_28 : decode cX12_on 28 = .ok (.iaload, 1) := by decide +kernel
theorem dX12_on_29 : decode cX12_on 29 = .ok (.ireturn, 1) := by decide +kernel
theorem dX12_bias_0 : decode cX12_bias 0 = .ok (.iload_n 1, 1) := by decide +kernel
theorem dX12_bias_1 : decode cX12_bias 1 = .ok (.aload_n 0, 1) := by decide +kernel
theorem dX12_bias_2 : decode cX12_bias 2 = .ok (.getfield 195, 3) := by decide +kernel
theorem dX12_bias_5 : decode cX12_bias 5 = .ok (.if_icmp .ne 10, 3) := by decide +kernel
theorem dX12_bias_8 : decode cX12_bias 8 = .ok (.aload_n 0, 1) := by decide +kernel
theorem dX12_bias_9 : decode cX12_bias 9 = .ok (.getfield 198, 3) := by decide +kernel
theorem dX12_bias_12 : decode cX12_bias 12 = .ok (.goto 17, 3) := by decide +kernel
theorem dX12_bias_15 : decode cX12_bias 15 = .ok (.aload_n 0, 1) := by decide +kernel
theorem dX12_bias_16 : decode cX12_bias 16 = .ok (.getfield 78, 3) := by decide +kernel
theorem dX12_bias_19 : decode cX12_bias 19 = .ok (.bipush 6, 2) := by decide +kernel
theorem dX12_bias_21 : decode cX12_bias 21 = .ok (.aload_n 0, 1) := by decide +kernel
theorem dX12_bias_22 : decode cX12_bias 22 = .ok (.getfield 51, 3) := by decide +kernel
theorem dX12_bias_25 : decode cX12_bias 25 = .ok (.imul, 1) := by decide +kernel
theorem dX12_bias_26 : decode cX12_bias 26 = .ok (.iload_n 1, 1) := by decide +kernel
theorem dX12_bias_27 : decode cX12_bias 27 = .ok (.iadd, 1) := by decide +kernel
theorem dX12_bias_28 : decode cX12_bias 28 = .ok (.iaload, 1) := by decide +kernel
theorem dX12_bias_29 : decode cX12_bias 29 = .ok (.ireturn, 1) := by decide +kernel
theorem dX12_eye_0 : decode cX12_eye 0 = .ok (.iload_n 3, 1) := by decide +kernel
theorem dX12_eye_1 : decode cX12_eye 1 = .ok (.ifCond .ne 12, 3) := by decide +kernel
theorem dX12_eye_4 : decode cX12_eye 4 = .ok (.aload_n 0, 1) := by decide +kernel
theorem dX12_eye_5 : decode cX12_eye 5 = .ok (.iload_n 2, 1) := by decide +kernel
theorem dX12_eye_6 : decode cX12_eye 6 = .ok (.invokevirtual 453, 3) := by decide +kernel
theorem dX12_eye_9 : decode cX12_eye 9 = .ok (.ineg, 1) := by decide +kernel
theorem dX12_eye_10 : decode cX12_eye 10 = .ok (.goto 17, 3) := by decide +kernel
theorem dX12_eye_13 : decode cX12_eye 13 = .ok (.iload_n 3, 1) := by decide +kernel
theorem dX12_eye_14 : decode cX12_eye 14 = .ok (.iconst 1, 1) := by decide +kernel
theorem dX12_eye_15 : decode cX12_eye 15 = .ok (.if_icmp .ne 11, 3) := by decide +kernel
theorem dX12_eye_18 : decode cX12_eye 18 = .ok (.aload_n 0, 1) := by decide +kernel
theorem dX12_eye_19 : decode cX12_eye 19 = .ok (.iload_n 2, 1) := by decide +kernel
theorem dX12_eye_20 : decode cX12_eye 20 = .ok (.invokevirtual 453, 3) := by decide +kernel
theorem dX12_eye_23 : decode cX12_eye 23 = .ok (.goto 4, 3) := by decide +kernel
theorem dX12_eye_26 : decode cX12_eye 26 = .ok (.iconst 0, 1) := by decide +kernel
theorem dX12_eye_27 : decode cX12_eye 27 = .ok (.istore 4, 2) := by decide +kernel
theorem dX12_eye_29 : decode cX12_eye 29 = .ok (.aload_n 0, 1) := by decide +kernel
theorem dX12_eye_30 : decode cX12_eye 30 = .ok (.iload_n 1, 1) := by decide +kernel
theorem dX12_eye_31 : decode cX12_eye 31 = .ok (.aload_n 0, 1) := by decide +kernel
theorem dX12_eye_32 : decode cX12_eye 32 = .ok (.aload_n 0, 1) := by decide +kernel
theorem dX12_eye_33 : decode cX12_eye 33 = .ok (.getfield 150, 3) := by decide +kernel
theorem dX12_eye_36 : decode cX12_eye 36 = .ok (.bipush 6, 2) := by decide +kernel
theorem dX12_eye_38 : decode cX12_eye 38 = .ok (.iload_n 1, 1) := by decide +kernel
theorem dX12_eye_39 : decode cX12_eye 39 = .ok (.imul, 1) := by decide +kernel
theorem dX12_eye_40 : decode cX12_eye 40 = .ok (.iload_n 2, 1) := by decide +kernel
theorem dX12_eye_41 : decode cX12_eye 41 = .ok (.iadd, 1) := by decide +kernel
theorem dX12_eye_42 : decode cX12_eye 42 = .ok (.iaload, 1) := by decide +kernel
theorem dX12_eye_43 : decode cX12_eye 43 = .ok (.aload_n 0, 1) := by decide +kernel
theorem dX12_eye_44 : decode cX12_eye 44 = .ok (.getfield 153, 3) := by decide +kernel
theorem dX12_eye_47 : decode cX12_eye 47 = .ok (.bipush 6, 2) := by decide +kernel
theorem dX12_eye_49 : decode cX12_eye 49 = .ok (.iload_n 1, 1) := by decide +kernel
theorem dX12_eye_50 : decode cX12_eye 50 = .ok (.imul, 1) := by decide +kernel
theorem dX12_eye_51 : decode cX12_eye 51 = .ok (.iload_n 2, 1) := by decide +kernel
theorem dX12_eye_52 : decode cX12_eye 52 = .ok (.iadd, 1) := by decide +kernel
theorem dX12_eye_53 : decode cX12_eye 53 = .ok (.iaload, 1) := by decide +kernel
theorem dX12_eye_54 : decode cX12_eye 54 = .ok (.aload_n 0, 1) := by decide +kernel
theorem dX12_eye_55 : decode cX12_eye 55 = .ok (.iload_n 2, 1) := by decide +kernel
theorem dX12_eye_56 : decode cX12_eye 56 = .ok (.invokevirtual 456, 3) := by decide +kernel
theorem dX12_eye_59 : decode cX12_eye 59 = .ok (.iload 4, 2) := by decide +kernel
theorem dX12_eye_61 : decode cX12_eye 61 = .ok (.invokevirtual 459, 3) := by decide +kernel
theorem dX12_eye_64 : decode cX12_eye 64 = .ok (.invokevirtual 450, 3) := by decide +kernel
theorem dX12_eye_67 : decode cX12_eye 67 = .ok (.ireturn, 1) := by decide +kernel
theorem dX12_who_0 : decode cX12_who 0 = .ok (.iconst 0, 1) := by decide +kernel
theorem dX12_who_1 : decode cX12_who 1 = .ok (.istore_n 3, 1) := by decide +kernel
theorem dX12_who_2 : decode cX12_who 2 = .ok (.iload_n 3, 1) := by decide +kernel
theorem dX12_who_3 : decode cX12_who 3 = .ok (.aload_n 0, 1) := by decide +kernel
theorem dX12_who_4 : decode cX12_who 4 = .ok (.getfield 63, 3) := by decide +kernel
theorem dX12_who_7 : decode cX12_who 7 = .ok (.aload_n 0, 1) := by decide +kernel
theorem dX12_who_8 : decode cX12_who 8 = .ok (.getfield 51, 3) := by decide +kernel
theorem dX12_who_11 : decode cX12_who 11 = .ok (.iaload, 1) := by decide +kernel
theorem dX12_who_12 : decode cX12_who 12 = .ok (.if_icmp .ge 26, 3) := by decide +kernel
theorem dX12_who_15 : decode cX12_who 15 = .ok (.aload_n 0, 1) := by decide +kernel
theorem dX12_who_16 : decode cX12_who 16 = .ok (.getfield 150, 3) := by decide +kernel
theorem dX12_who_19 : decode cX12_who 19 = .ok (.bipush 6, 2) := by decide +kernel
theorem dX12_who_21 : decode cX12_who 21 = .ok (.iload_n 1, 1) := by decide +kernel
theorem dX12_who_22 : decode cX12_who 22 = .ok (.imul, 1) := by decide +kernel
theorem dX12_who_23 : decode cX12_who 23 = .ok (.iload_n 3, 1) := by decide +kernel
theorem dX12_who_24 : decode cX12_who 24 = .ok (.iadd, 1) := by decide +kernel
theorem dX12_who_25 : decode cX12_who 25 = .ok (.iaload, 1) := by decide +kernel
theorem dX12_who_26 : decode cX12_who 26 = .ok (.iload_n 2, 1) := by decide +kernel
theorem dX12_who_27 : decode cX12_who 27 = .ok (.if_icmp .ne 5, 3) := by decide +kernel
theorem dX12_who_30 : decode cX12_who 30 = .ok (.iload_n 3, 1) := by decide +kernel
theorem dX12_who_31 : decode cX12_who 31 = .ok (.ireturn, 1) := by decide +kernel
theorem dX12_who_32 : decode cX12_who 32 = .ok (.iinc 3 1, 3) := by decide +kernel
theorem dX12_who_35 : decode cX12_who 35 = .ok (.goto (-33), 3) := by decide +kernel
theorem dX12_who_38 : decode cX12_who 38 = .ok (.iconst (-1), 1) := by decide +kernel
theorem dX12_who_39 : decode cX12_who 39 = .ok (.ireturn, 1) := by decide +kernel
theorem dX12_writesDown_0 : decode cX12_writesDown 0 = .ok (.aload_n 0, 1) := by decide +kernel
theorem dX12_writesDown_1 : decode cX12_writesDown 1 = .ok (.getfield 165, 3) := by decide +kernel
theorem dX12_writesDown_4 : decode cX12_writesDown 4 = .ok (.iload_n 1, 1) := by decide +kernel
theorem dX12_writesDown_5 : decode cX12_writesDown 5 = .ok (.iaload, 1) := by decide +kernel
theorem dX12_writesDown_6 : decode cX12_writesDown 6 = .ok (.bipush 60, 2) := by decide +kernel
theorem dX12_writesDown_8 : decode cX12_writesDown 8 = .ok (.if_icmp .ne 54, 3) := by decide +kernel
theorem dX12_writesDown_11 : decode cX12_writesDown 11 = .ok (.sipush 240, 3) := by decide +kernel
theorem dX12_writesDown_14 : decode cX12_writesDown 14 = .ok (.iload_n 1, 1) := by decide +kernel
theorem dX12_writesDown_15 : decode cX12_writesDown 15 = .ok (.imul, 1) := by decide +kernel
theorem dX12_writesDown_16 : decode cX12_writesDown 16 = .ok (.istore_n 3, 1) := by decide +kernel
theorem dX12_writesDown_17 : decode cX12_writesDown 17 = .ok (.iload_n 3, 1) := by decide +kernel
theorem dX12_writesDown_18 : decode cX12_writesDown 18 = .ok (.sipush 240, 3) := by decide +kernel
theorem dX12_writesDown_21 : decode cX12_writesDown 21 = .ok (.iload_n 1, 1) := by decide +kernel
theorem dX12_writesDown_22 : decode cX12_writesDown 22 = .ok (.imul, 1) := by decide +kernel
theorem dX12_writesDown_23 : decode cX12_writesDown 23 = .ok (.sipush 240, 3) := by decide +kernel
theorem dX12_writesDown_26 : decode cX12_writesDown 26 = .ok (.iadd, 1) := by decide +kernel
theorem dX12_writesDown_27 : decode cX12_writesDown 27 = .ok (.iconst 4, 1) := by decide +kernel
theorem dX12_writesDown_28 : decode cX12_writesDown 28 = .ok (.isub, 1) := by decide +kernel
theorem dX12_writesDown_29 : decode cX12_writesDown 29 = .ok (.if_icmp .ge 23, 3) := by decide +kernel
theorem dX12_writesDown_32 : decode cX12_writesDown 32 = .ok (.aload_n 0, 1) := by decide +kernel
theorem dX12_writesDown_33 : decode cX12_writesDown 33 = .ok (.getfield 168, 3) := by decide +kernel
theorem dX12_writesDown_36 : decode cX12_writesDown 36 = .ok (.iload_n 3, 1) := by decide +kernel
theorem dX12_writesDown_37 : decode cX12_writesDown 37 = .ok (.aload_n 0, 1) := by decide +kernel
theorem dX12_writesDown_38 : decode cX12_writesDown 38 = .ok (.getfield 168, 3) := by decide +kernel
theorem dX12_writesDown_41 : decode cX12_writesDown 41 = .ok (.iload_n 3, 1) := by decide +kernel
theorem dX12_writesDown_42 : decode cX12_writesDown 42 = .ok (.iconst 4, 1) := by decide +kernel
theorem dX12_writesDown_43 : decode cX12_writesDown 43 = .ok (.iadd, 1) := by decide +kernel
theorem dX12_writesDown_44 : decode cX12_writesDown 44 = .ok (.iaload, 1) := by decide +kernel
theorem dX12_writesDown_45 : decode cX12_writesDown 45 = .ok (.iastore, 1) := by decide +kernel
theorem dX12_writesDown_46 : decode cX12_writesDown 46 = .ok (.iinc 3 1, 3) := by decide +kernel
theorem dX12_writesDown_49 : decode cX12_writesDown 49 = .ok (.goto (-32), 3) := by decide +kernel
theorem dX12_writesDown_52 : decode cX12_writesDown 52 = .ok (.aload_n 0, 1) := by decide +kernel
theorem dX12_writesDown_53 : decode cX12_writesDown 53 = .ok (.getfield 165, 3) := by decide +kernel
theorem dX12_writesDown_56 : decode cX12_writesDown 56 = .ok (.iload_n 1, 1) := by decide +kernel
theorem dX12_writesDown_57 : decode cX12_writesDown 57 = .ok (.dup2, 1) := by decide +kernel
theorem dX12_writesDown_58 : decode cX12_writesDown 58 = .ok (.iaload, 1) := by decide +kernel
theorem dX12_writesDown_59 : decode cX12_writesDown 59 = .ok (.iconst 1, 1) := by decide +kernel
theorem dX12_writesDown_60 : decode cX12_writesDown 60 = .ok (.isub, 1) := by decide +kernel
theorem dX12_writesDown_61 : decode cX12_writesDown 61 = .ok (.iastore, 1) := by decide +kernel
theorem dX12_writesDown_62 : decode cX12_writesDown 62 = .ok (.iconst 4, 1) := by decide +kernel
theorem dX12_writesDown_63 : decode cX12_writesDown 63 = .ok (.bipush 60, 2) := by decide +kernel
theorem dX12_writesDown_65 : decode cX12_writesDown 65 = .ok (.iload_n 1, 1) := by decide +kernel
theorem dX12_writesDown_66 : decode cX12_writesDown 66 = .ok (.imul, 1) := by decide +kernel
theorem dX12_writesDown_67 : decode cX12_writesDown 67 = .ok (.aload_n 0, 1) := by decide +kernel
theorem dX12_writesDown_68 : decode cX12_writesDown 68 = .ok (.getfield 165, 3) := by decide +kernel
theorem dX12_writesDown_71 : decode cX12_writesDown 71 = .ok (.iload_n 1, 1) := by decide +kernel
theorem dX12_writesDown_72 : decode cX12_writesDown 72 = .ok (.iaload, 1) := by decide +kernel
theorem dX12_writesDown_73 : decode cX12_writesDown 73 = .ok (.iadd, 1) := by decide +kernel
theorem dX12_writesDown_74 : decode cX12_writesDown 74 = .ok (.imul, 1) := by decide +kernel
theorem dX12_writesDown_75 : decode cX12_writesDown 75 = .ok (.istore_n 3, 1) := by decide +kernel
theorem dX12_writesDown_76 : decode cX12_writesDown 76 = .ok (.aload_n 0, 1) := by decide +kernel
theorem dX12_writesDown_77 : decode cX12_writesDown 77 = .ok (.getfield 168, 3) := by decide +kernel
theorem dX12_writesDown_80 : decode cX12_writesDown 80 = .ok (.iload_n 3, 1) := by decide +kernel
theorem dX12_writesDown_81 : decode cX12_writesDown 81 = .ok (.aload_n 0, 1) := by decide +kernel
theorem dX12_writesDown_82 : decode cX12_writesDown 82 = .ok (.getfield 144, 3) := by decide +kernel
theorem dX12_writesDown_85 : decode cX12_writesDown 85 = .ok (.iload_n 1, 1) := by decide +kernel
theorem dX12_writesDown_86 : decode cX12_writesDown 86 = .ok (.iaload, 1) := by decide +kernel
theorem dX12_writesDown_87 : decode cX12_writesDown 87 = .ok (.iastore, 1) := by decide +kernel
theorem dX12_writesDown_88 : decode cX12_writesDown 88 = .ok (.aload_n 0, 1) := by decide +kernel
theorem dX12_writesDown_89 : decode cX12_writesDown 89 = .ok (.getfield 168, 3) := by decide +kernel
theorem dX12_writesDown_92 : decode cX12_writesDown 92 = .ok (.iload_n 3, 1) := by decide +kernel
theorem dX12_writesDown_93 : decode cX12_writesDown 93 = .ok (.iconst 1, 1) := by decide +kernel
theorem dX12_writesDown_94 : decode cX12_writesDown 94 = .ok (.iadd, 1) := by decide +kernel
theorem dX12_writesDown_95 : decode cX12_writesDown 95 = .ok (.iload_n 2, 1) := by decide +kernel
theorem dX12_writesDown_96 : decode cX12_writesDown 96 = .ok (.iastore, 1) := by decide +kernel
theorem dX12_writesDown_97 : decode cX12_writesDown 97 = .ok (.aload_n 0, 1) := by decide +kernel
theorem dX12_writesDown_98 : decode cX12_writesDown 98 = .ok (.getfield 168, 3) := by decide +kernel
theorem dX12_writesDown_101 : decode cX12_writesDown 101 = .ok (.iload_n 3, 1) := by decide +kernel
theorem dX12_writesDown_102 : decode cX12_writesDown 102 = .ok (.iconst 2, 1) := by decide +kernel
theorem dX12_writesDown_103 : decode cX12_writesDown 103 = .ok (.iadd, 1) := by decide +kernel
theorem dX12_writesDown_104 : decode cX12_writesDown 104 = .ok (.aload_n 0, 1) := by decide +kernel
theorem dX12_writesDown_105 : decode cX12_writesDown 105 = .ok (.getfield 150, 3) := by decide +kernel
theorem dX12_writesDown_108 : decode cX12_writesDown 108 = .ok (.bipush 6, 2) := by decide +kernel
theorem dX12_writesDown_110 : decode cX12_writesDown 110 = .ok (.iload_n 1, 1) := by decide +kernel
theorem dX12_writesDown_111 : decode cX12_writesDown 111 = .ok (.imul, 1) := by decide +kernel
theorem dX12_writesDown_112 : decode cX12_writesDown 112 = .ok (.iload_n 2, 1) := by decide +kernel
theorem dX12_writesDown_113 : decode cX12_writesDown 113 = .ok (.iadd, 1) := by decide +kernel
theorem dX12_writesDown_114 : decode cX12_writesDown 114 = .ok (.iaload, 1) := by decide +kernel
theorem dX12_writesDown_115 : decode cX12_writesDown 115 = .ok (.bipush 9, 2) := by decide +kernel
theorem dX12_writesDown_117 : decode cX12_writesDown 117 = .ok (.irem, 1) := by decide +kernel
theorem dX12_writesDown_118 : decode cX12_writesDown 118 = .ok (.iastore, 1) := by decide +kernel
theorem dX12_writesDown_119 : decode cX12_writesDown 119 = .ok (.aload_n 0, 1) := by decide +kernel
theorem dX12_writesDown_120 : decode cX12_writesDown 120 = .ok (.getfield 168, 3) := by decide +kernel
theorem dX12_writesDown_123 : decode cX12_writesDown 123 = .ok (.iload_n 3, 1) := by decide +kernel
theorem dX12_writesDown_124 : decode cX12_writesDown 124 = .ok (.iconst 3, 1) := by decide +kernel
theorem dX12_writesDown_125 : decode cX12_writesDown 125 = .ok (.iadd, 1) := by decide +kernel
theorem dX12_writesDown_126 : decode cX12_writesDown 126 = .ok (.aload_n 0, 1) := by decide +kernel
theorem dX12_writesDown_127 : decode cX12_writesDown 127 = .ok (.getfield 150, 3) := by decide +kernel
theorem dX12_writesDown_130 : decode cX12_writesDown 130 = .ok (.bipush 6, 2) := by decide +kernel
theorem dX12_writesDown_132 : decode cX12_writesDown 132 = .ok (.iload_n 1, 1) := by decide +kernel
theorem dX12_writesDown_133 : decode cX12_writesDown 133 = .ok (.imul, 1) := by decide +kernel
theorem dX12_writesDown_134 : decode cX12_writesDown 134 = .ok (.iload_n 2, 1) := by decide +kernel
theorem dX12_writesDown_135 : decode cX12_writesDown 135 = .ok (.iadd, 1) := by decide +kernel
theorem dX12_writesDown_136 : decode cX12_writesDown 136 = .ok (.iaload, 1) := by decide +kernel
theorem dX12_writesDown_137 : decode cX12_writesDown 137 = .ok (.bipush 9, 2) := by decide +kernel
theorem dX12_writesDown_139 : decode cX12_writesDown 139 = .ok (.idiv, 1) := by decide +kernel
theorem dX12_writesDown_140 : decode cX12_writesDown 140 = .ok (.iastore, 1) := by decide +kernel
theorem dX12_writesDown_141 : decode cX12_writesDown 141 = .ok (.aload_n 0, 1) := by decide +kernel
theorem dX12_writesDown_142 : decode cX12_writesDown 142 = .ok (.getfield 165, 3) := by decide +kernel
theorem dX12_writesDown_145 : decode cX12_writesDown 145 = .ok (.iload_n 1, 1) := by decide +kernel
theorem dX12_writesDown_146 : decode cX12_writesDown 146 = .ok (.dup2, 1) := by decide +kernel
theorem dX12_writesDown_147 : decode cX12_writesDown 147 = .ok (.iaload, 1) := by decide +kernel
theorem dX12_writesDown_148 : decode cX12_writesDown 148 = .ok (.iconst 1, 1) := by decide +kernel
theorem dX12_writesDown_149 : decode cX12_writesDown 149 = .ok (.iadd, 1) := by decide +kernel
theorem dX12_writesDown_150 : decode cX12_writesDown 150 = .ok (.iastore, 1) := by decide +kernel
theorem dX12_writesDown_151 : decode cX12_writesDown 151 = .ok (.return_, 1) := by decide +kernel
theorem dX12_steers_0 : decode cX12_steers 0 = .ok (.bipush 6, 2) := by decide +kernel
theorem dX12_steers_2 : decode cX12_steers 2 = .ok (.iload_n 1, 1) := by decide +kernel
theorem dX12_steers_3 : decode cX12_steers 3 = .ok (.imul, 1) := by decide +kernel
theorem dX12_steers_4 : decode cX12_steers 4 = .ok (.iload_n 2, 1) := by decide +kernel
theorem dX12_steers_5 : decode cX12_steers 5 = .ok (.iadd, 1) := by decide +kernel
theorem dX12_steers_6 : decode cX12_steers 6 = .ok (.istore_n 3, 1) := by decide +kernel
theorem dX12_steers_7 : decode cX12_steers 7 = .ok (.aload_n 0, 1) := by decide +kernel
theorem dX12_steers_8 : decode cX12_steers 8 = .ok (.getfield 183, 3) := by decide +kernel
theorem dX12_steers_11 : decode cX12_steers 11 = .ok (.iconst 1, 1) := by decide +kernel
theorem dX12_steers_12 : decode cX12_steers 12 = .ok (.aload_n 0, 1) := by decide +kernel
theorem dX12_steers_13 : decode cX12_steers 13 = .ok (.iload_n 1, 1) := by decide +kernel
theorem dX12_steers_14 : decode cX12_steers 14 = .ok (.iload_n 2, 1) := by decide +kernel
theorem dX12_steers_15 : decode cX12_steers 15 = .ok (.iconst 0, 1) := by decide +kernel
theorem dX12_steers_16 : decode cX12_steers 16 = .ok (.invokevirtual 463, 3) := by decide +kernel
theorem dX12_steers_19 : decode cX12_steers 19 = .ok (.iastore, 1) := by decide +kernel
theorem dX12_steers_20 : decode cX12_steers 20 = .ok (.aload_n 0, 1) := by decide +kernel
theorem dX12_steers_21 : decode cX12_steers 21 = .ok (.getfield 183, 3) := by decide +kernel
theorem dX12_steers_24 : decode cX12_steers 24 = .ok (.iconst 2, 1) := by decide +kernel
theorem dX12_steers_25 : decode cX12_steers 25 = .ok (.aload_n 0, 1) := by decide +kernel
theorem dX12_steers_26 : decode cX12_steers 26 = .ok (.iload_n 1, 1) := by decide +kernel
theorem dX12_steers_27 : decode cX12_steers 27 = .ok (.iload_n 2, 1) := by decide +kernel
theorem dX12_steers_28 : decode cX12_steers 28 = .ok (.iconst 1, 1) := by decide +kernel
theorem dX12_steers_29 : decode cX12_steers 29 = .ok (.invokevirtual 463, 3) := by decide +kernel
theorem dX12_steers_32 : decode cX12_steers 32 = .ok (.iastore, 1) := by decide +kernel
theorem dX12_steers_33 : decode cX12_steers 33 = .ok (.aload_n 0, 1) := by decide +kernel
theorem dX12_steers_34 : decode cX12_steers 34 = .ok (.getfield 183, 3) := by decide +kernel
theorem dX12_steers_37 : decode cX12_steers 37 = .ok (.iconst 3, 1) := by decide +kernel
theorem dX12_steers_38 : decode cX12_steers 38 = .ok (.aload_n 0, 1) := by decide +kernel
theorem dX12_steers_39 : decode cX12_steers 39 = .ok (.iload_n 1, 1) := by decide +kernel
theorem dX12_steers_40 : decode cX12_steers 40 = .ok (.iload_n 2, 1) := by decide +kernel
theorem dX12_steers_41 : decode cX12_steers 41 = .ok (.iconst 2, 1) := by decide +kernel
theorem dX12_steers_42 : decode cX12_steers 42 = .ok (.invokevirtual 463, 3) := by decide +kernel
theorem dX12_steers_45 : decode cX12_steers 45 = .ok (.iastore, 1) := by decide +kernel
theorem dX12_steers_46 : decode cX12_steers 46 = .ok (.aload_n 0, 1) := by decide +kernel
theorem dX12_steers_47 : decode cX12_steers 47 = .ok (.getfield 183, 3) := by decide +kernel
theorem dX12_steers_50 : decode cX12_steers 50 = .ok (.iconst 1, 1) := by decide +kernel
theorem dX12_steers_51 : decode cX12_steers 51 = .ok (.iaload, 1) := by decide +kernel
theorem dX12_steers_52 : decode cX12_steers 52 = .ok (.iconst 5, 1) := by decide +kernel
theorem dX12_steers_53 : decode cX12_steers 53 = .ok (.if_icmp .ge 23, 3) := by decide +kernel
theorem dX12_steers_56 : decode cX12_steers 56 = .ok (.aload_n 0, 1) := by decide +kernel
theorem dX12_steers_57 : decode cX12_steers 57 = .ok (.getfield 183, 3) := by decide +kernel
theorem dX12_steers_60 : decode cX12_steers 60 = .ok (.iconst 2, 1) := by decide +kernel
theorem dX12_steers_61 : decode cX12_steers 61 = .ok (.iaload, 1) := by decide +kernel
theorem dX12_steers_62 : decode cX12_steers 62 = .ok (.iconst 5, 1) := by decide +kernel
theorem dX12_steers_63 : decode cX12_steers 63 = .ok (.if_icmp .ge 13, 3) := by decide +kernel
theorem dX12_steers_66 : decode cX12_steers 66 = .ok (.aload_n 0, 1) := by decide +kernel
theorem dX12_steers_67 : decode cX12_steers 67 = .ok (.getfield 183, 3) := by decide +kernel
theorem dX12_steers_70 : decode cX12_steers 70 = .ok (.iconst 3, 1) := by decide +kernel
theorem dX12_steers_71 : decode cX12_steers 71 = .ok (.iaload, 1) := by decide +kernel
theorem dX12_steers_72 : decode cX12_steers 72 = .ok (.iconst 5, 1) := by decide +kernel
theorem dX12_steers_73 : decode cX12_steers 73 = .ok (.if_icmp .lt 7, 3) := by decide +kernel
theorem dX12_steers_76 : decode cX12_steers 76 = .ok (.iconst 1, 1) := by decide +kernel
theorem dX12_steers_77 : decode cX12_steers 77 = .ok (.goto 4, 3) := by decide +kernel
theorem dX12_steers_80 : decode cX12_steers 80 = .ok (.iconst 0, 1) := by decide +kernel
theorem dX12_steers_81 : decode cX12_steers 81 = .ok (.istore 4, 2) := by decide +kernel
theorem dX12_steers_83 : decode cX12_steers 83 = .ok (.aload_n 0, 1) := by decide +kernel
theorem dX12_steers_84 : decode cX12_steers 84 = .ok (.getfield 159, 3) := by decide +kernel
theorem dX12_steers_87 : decode cX12_steers 87 = .ok (.iload_n 3, 1) := by decide +kernel
theorem dX12_steers_88 : decode cX12_steers 88 = .ok (.iload 4, 2) := by decide +kernel
theorem dX12_steers_90 : decode cX12_steers 90 = .ok (.ifCond .eq 7, 3) := by decide +kernel
theorem dX12_steers_93 : decode cX12_steers 93 = .ok (.iconst 0, 1) := by decide +kernel
theorem dX12_steers_94 : decode cX12_steers 94 = .ok (.goto 27, 3) := by decide +kernel
theorem dX12_steers_97 : decode cX12_steers 97 = .ok (.aload_n 0, 1) := by decide +kernel
theorem dX12_steers_98 : decode cX12_steers 98 = .ok (.getfield 159, 3) := by decide +kernel
theorem dX12_steers_101 : decode cX12_steers 101 = .ok (.iload_n 3, 1) := by decide +kernel
theorem dX12_steers_102 : decode cX12_steers 102 = .ok (.iaload, 1) := by decide +kernel
theorem dX12_steers_103 : decode cX12_steers 103 = .ok (.bipush 99, 2) := by decide +kernel
theorem dX12_steers_105 : decode cX12_steers 105 = .ok (.if_icmp .ge 14, 3) := by decide +kernel
theorem dX12_steers_108 : decode cX12_steers 108 = .ok (.aload_n 0, 1) := by decide +kernel
theorem dX12_steers_109 : decode cX12_steers 109 = .ok (.getfield 159, 3) := by decide +kernel
theorem dX12_steers_112 : decode cX12_steers 112 = .ok (.iload_n 3, 1) := by decide +kernel
theorem dX12_steers_113 : decode cX12_steers 113 = .ok (.iaload, 1) := by decide +kernel
theorem dX12_steers_114 : decode cX12_steers 114 = .ok (.iconst 1, 1) := by decide +kernel
theorem dX12_steers_115 : decode cX12_steers 115 = .ok (.iadd, 1) := by decide +kernel
theorem dX12_steers_116 : decode cX12_steers 116 = .ok (.goto 5, 3) := by decide +kernel
theorem dX12_steers_119 : decode cX12_steers 119 = .ok (.bipush 99, 2) := by decide +kernel
theorem dX12_steers_121 : decode cX12_steers 121 = .ok (.iastore, 1) := by decide +kernel
theorem dX12_steers_122 : decode cX12_steers 122 = .ok (.aload_n 0, 1) := by decide +kernel
theorem dX12_steers_123 : decode cX12_steers 123 = .ok (.getfield 183, 3) := by decide +kernel
theorem dX12_steers_126 : decode cX12_steers 126 = .ok (.iconst 4, 1) := by decide +kernel
theorem dX12_steers_127 : decode cX12_steers 127 = .ok (.aload_n 0, 1) := by decide +kernel
theorem dX12_steers_128 : decode cX12_steers 128 = .ok (.getfield 159, 3) := by decide +kernel
theorem dX12_steers_131 : decode cX12_steers 131 = .ok (.iload_n 3, 1) := by decide +kernel
theorem dX12_steers_132 : decode cX12_steers 132 = .ok (.iaload, 1) := by decide +kernel
theorem dX12_steers_133 : decode cX12_steers 133 = .ok (.iastore, 1) := by decide +kernel
theorem dX12_steers_134 : decode cX12_steers 134 = .ok (.aload_n 0, 1) := by decide +kernel
theorem dX12_steers_135 : decode cX12_steers 135 = .ok (.getfield 183, 3) := by decide +kernel
theorem dX12_steers_138 : decode cX12_steers 138 = .ok (.iconst 5, 1) := by decide +kernel
theorem dX12_steers_139 : decode cX12_steers 139 = .ok (.aload_n 0, 1) := by decide +kernel
theorem dX12_steers_140 : decode cX12_steers 140 = .ok (.getfield 144, 3) := by decide +kernel
theorem dX12_steers_143 : decode cX12_steers 143 = .ok (.iload_n 1, 1) := by decide +kernel
theorem dX12_steers_144 : decode cX12_steers 144 = .ok (.iaload, 1) := by decide +kernel
theorem dX12_steers_145 : decode cX12_steers 145 = .ok (.iastore, 1) := by decide +kernel
theorem dX12_steers_146 : decode cX12_steers 146 = .ok (.aload_n 0, 1) := by decide +kernel
theorem dX12_steers_147 : decode cX12_steers 147 = .ok (.iconst 0, 1) := by decide +kernel
theorem dX12_steers_148 : decode cX12_steers 148 = .ok (.invokevirtual 467, 3) := by decide +kernel
theorem dX12_steers_151 : decode cX12_steers 151 = .ok (.ifCond .eq 11, 3) := by decide +kernel
theorem dX12_steers_154 : decode cX12_steers 154 = .ok (.aload_n 0, 1) := by decide +kernel
theorem dX12_steers_155 : decode cX12_steers 155 = .ok (.iconst 0, 1) := by decide +kernel
theorem dX12_steers_156 : decode cX12_steers 156 = .ok (.invokevirtual 470, 3) := by decide +kernel
theorem dX12_steers_159 : decode cX12_steers 159 = .ok (.goto 17, 3) := by decide +kernel
theorem dX12_steers_162 : decode cX12_steers 162 = .ok (.aload_n 0, 1) := by decide +kernel
theorem dX12_steers_163 : decode cX12_steers 163 = .ok (.getfield 183, 3) := by decide +kernel
theorem dX12_steers_166 : decode cX12_steers 166 = .ok (.iconst 2, 1) := by decide +kernel
theorem dX12_steers_167 : decode cX12_steers 167 = .ok (.iaload, 1) := by decide +kernel
theorem dX12_steers_168 : decode cX12_steers 168 = .ok (.aload_n 0, 1) := by decide +kernel
theorem dX12_steers_169 : decode cX12_steers 169 = .ok (.getfield 183, 3) := by decide +kernel
theorem dX12_steers_172 : decode cX12_steers 172 = .ok (.iconst 1, 1) := by decide +kernel
theorem dX12_steers_173 : decode cX12_steers 173 = .ok (.iaload, 1) := by decide +kernel
theorem dX12_steers_174 : decode cX12_steers 174 = .ok (.isub, 1) := by decide +kernel
theorem dX12_steers_175 : decode cX12_steers 175 = .ok (.i2l, 1) := by decide +kernel
theorem dX12_steers_176 : decode cX12_steers 176 = .ok (.lstore 5, 2) := by decide +kernel
theorem dX12_steers_178 : decode cX12_steers 178 = .ok (.aload_n 0, 1) := by decide +kernel
theorem dX12_steers_179 : decode cX12_steers 179 = .ok (.getfield 183, 3) := by decide +kernel
theorem dX12_steers_182 : decode cX12_steers 182 = .ok (.bipush 6, 2) := by decide +kernel
theorem dX12_steers_184 : decode cX12_steers 184 = .ok (.lload 5, 2) := by decide +kernel
theorem dX12_steers_186 : decode cX12_steers 186 = .ok (.lconst 0, 1) := by decide +kernel
theorem dX12_steers_187 : decode cX12_steers 187 = .ok (.lcmp, 1) := by decide +kernel
theorem dX12_steers_188 : decode cX12_steers 188 = .ok (.ifCond .ne 7, 3) := by decide +kernel
theorem dX12_steers_191 : decode cX12_steers 191 = .ok (.iconst 0, 1) := by decide +kernel
theorem dX12_steers_192 : decode cX12_steers 192 = .ok (.goto 4, 3) := by decide +kernel
theorem dX12_steers_195 : decode cX12_steers 195 = .ok (.iconst 1, 1) := by decide +kernel
theorem dX12_steers_196 : decode cX12_steers 196 = .ok (.iastore, 1) := by decide +kernel
theorem dX12_steers_197 : decode cX12_steers 197 = .ok (.aload_n 0, 1) := by decide +kernel
theorem dX12_steers_198 : decode cX12_steers 198 = .ok (.getfield 183, 3) := by decide +kernel
theorem dX12_steers_201 : decode cX12_steers 201 = .ok (.bipush 7, 2) := by decide +kernel
theorem dX12_steers_203 : decode cX12_steers 203 = .ok (.aload_n 0, 1) := by decide +kernel
theorem dX12_steers_204 : decode cX12_steers 204 = .ok (.getfield 156, 3) := by decide +kernel
theorem dX12_steers_207 : decode cX12_steers 207 = .ok (.iload_n 3, 1) := by decide +kernel
theorem dX12_steers_208 : decode cX12_steers 208 = .ok (.iaload, 1) := by decide +kernel
theorem dX12_steers_209 : decode cX12_steers 209 = .ok (.iastore, 1) := by decide +kernel
theorem dX12_steers_210 : decode cX12_steers 210 = .ok (.aload_n 0, 1) := by decide +kernel
theorem dX12_steers_211 : decode cX12_steers 211 = .ok (.getfield 153, 3) := by decide +kernel
theorem dX12_steers_214 : decode cX12_steers 214 = .ok (.iload_n 3, 1) := by decide +kernel
theorem dX12_steers_215 : decode cX12_steers 215 = .ok (.aload_n 0, 1) := by decide +kernel
theorem dX12_steers_216 : decode cX12_steers 216 = .ok (.getfield 153, 3) := by decide +kernel
theorem dX12_steers_219 : decode cX12_steers 219 = .ok (.iload_n 3, 1) := by decide +kernel
theorem dX12_steers_220 : decode cX12_steers 220 = .ok (.iaload, 1) := by decide +kernel
theorem dX12_steers_221 : decode cX12_steers 221 = .ok (.lload 5, 2) := by decide +kernel
theorem dX12_steers_223 : decode cX12_steers 223 = .ok (.lconst 0, 1) := by decide +kernel
theorem dX12_steers_224 : decode cX12_steers 224 = .ok (.lcmp, 1) := by decide +kernel
theorem dX12_steers_225 : decode cX12_steers 225 = .ok (.ifCond .le 7, 3) := by decide +kernel
theorem dX12_steers_228 : decode cX12_steers 228 = .ok (.iconst 1, 1) := by decide +kernel
theorem dX12_steers_229 : decode cX12_steers 229 = .ok (.goto 15, 3) := by decide +kernel
theorem dX12_steers_232 : decode cX12_steers 232 = .ok (.lload 5, 2) := by decide +kernel
theorem dX12_steers_234 : decode cX12_steers 234 = .ok (.lconst 0, 1) := by decide +kernel
theorem dX12_steers_235 : decode cX12_steers 235 = .ok (.lcmp, 1) := by decide +kernel
theorem dX12_steers_236 : decode cX12_steers 236 = .ok (.ifCond .ge 7, 3) := by decide +kernel
theorem dX12_steers_239 : decode cX12_steers 239 = .ok (.iconst 3, 1) := by decide +kernel
theorem dX12_steers_240 : decode cX12_steers 240 = .ok (.goto 4, 3) := by decide +kernel
theorem dX12_steers_243 : decode cX12_steers 243 = .ok (.iconst 0, 1) := by decide +kernel
theorem dX12_steers_244 : decode cX12_steers 244 = .ok (.iadd, 1) := by decide +kernel
theorem dX12_steers_245 : decode cX12_steers 245 = .ok (.iconst 4, 1) := by decide +kernel
theorem dX12_steers_246 : decode cX12_steers 246 = .ok (.irem, 1) := by decide +kernel
theorem dX12_steers_247 : decode cX12_steers 247 = .ok (.iastore, 1) := by decide +kernel
theorem dX12_steers_248 : decode cX12_steers 248 = .ok (.return_, 1) := by decide +kernel
theorem dX12_does_0 : decode cX12_does 0 = .ok (.bipush 6, 2) := by decide +kernel
theorem dX12_does_2 : decode cX12_does 2 = .ok (.iload_n 1, 1) := by decide +kernel
theorem dX12_does_3 : decode cX12_does 3 = .ok (.imul, 1) := by decide +kernel
theorem dX12_does_4 : decode cX12_does 4 = .ok (.iload_n 2, 1) := by decide +kernel
theorem dX12_does_5 : decode cX12_does 5 = .ok (.iadd, 1) := by decide +kernel
theorem dX12_does_6 : decode cX12_does 6 = .ok (.istore_n 3, 1) := by decide +kernel
theorem dX12_does_7 : decode cX12_does 7 = .ok (.aload_n 0, 1) := by decide +kernel
theorem dX12_does_8 : decode cX12_does 8 = .ok (.getfield 156, 3) := by decide +kernel
theorem dX12_does_11 : decode cX12_does 11 = .ok (.iload_n 3, 1) := by decide +kernel
theorem dX12_does_12 : decode cX12_does 12 = .ok (.iaload, 1) := by decide +kernel
theorem dX12_does_13 : decode cX12_does 13 = .ok (.ifCond .ne 4, 3) := by decide +kernel
theorem dX12_does_16 : decode cX12_does 16 = .ok (.return_, 1) := by decide +kernel
theorem dX12_does_17 : decode cX12_does 17 = .ok (.aload_n 0, 1) := by decide +kernel
theorem dX12_does_18 : decode cX12_does 18 = .ok (.iload_n 1, 1) := by decide +kernel
theorem dX12_does_19 : decode cX12_does 19 = .ok (.iload_n 2, 1) := by decide +kernel
theorem dX12_does_20 : decode cX12_does 20 = .ok (.invokevirtual 474, 3) := by decide +kernel
theorem dX12_does_23 : decode cX12_does 23 = .ok (.aload_n 0, 1) := by decide +kernel
theorem dX12_does_24 : decode cX12_does 24 = .ok (.getfield 156, 3) := by decide +kernel
theorem dX12_does_27 : decode cX12_does 27 = .ok (.iload_n 3, 1) := by decide +kernel
theorem dX12_does_28 : decode cX12_does 28 = .ok (.dup2, 1) := by decide +kernel
theorem dX12_does_29 : decode cX12_does 29 = .ok (.iaload, 1) := by decide +kernel
theorem dX12_does_30 : decode cX12_does 30 = .ok (.iconst 1, 1) := by decide +kernel
theorem dX12_does_31 : decode cX12_does 31 = .ok (.isub, 1) := by decide +kernel
theorem dX12_does_32 : decode cX12_does 32 = .ok (.iastore, 1) := by decide +kernel
theorem dX12_does_33 : decode cX12_does 33 = .ok (.aload_n 0, 1) := by decide +kernel
theorem dX12_does_34 : decode cX12_does 34 = .ok (.iconst 1, 1) := by decide +kernel
theorem dX12_does_35 : decode cX12_does 35 = .ok (.invokevirtual 467, 3) := by decide +kernel
theorem dX12_does_38 : decode cX12_does 38 = .ok (.ifCond .eq 14, 3) := by decide +kernel
theorem dX12_does_41 : decode cX12_does 41 = .ok (.aload_n 0, 1) := by decide +kernel
theorem dX12_does_42 : decode cX12_does 42 = .ok (.iconst 1, 1) := by decide +kernel
theorem dX12_does_43 : decode cX12_does 43 = .ok (.invokevirtual 470, 3) := by decide +kernel
theorem dX12_does_46 : decode cX12_does 46 = .ok (.lconst 0, 1) := by decide +kernel
theorem dX12_does_47 : decode cX12_does 47 = .ok (.lcmp, 1) := by decide +kernel
theorem dX12_does_48 : decode cX12_does 48 = .ok (.ifCond .ne 4, 3) := by decide +kernel
theorem dX12_does_51 : decode cX12_does 51 = .ok (.return_, 1) := by decide +kernel
theorem dX12_does_52 : decode cX12_does 52 = .ok (.aload_n 0, 1) := by decide +kernel
theorem dX12_does_53 : decode cX12_does 53 = .ok (.aload_n 0, 1) := by decide +kernel
theorem dX12_does_54 : decode cX12_does 54 = .ok (.getfield 150, 3) := by decide +kernel
theorem dX12_does_57 : decode cX12_does 57 = .ok (.iload_n 3, 1) := by decide +kernel
theorem dX12_does_58 : decode cX12_does 58 = .ok (.iaload, 1) := by decide +kernel
theorem dX12_does_59 : decode cX12_does 59 = .ok (.aload_n 0, 1) := by decide +kernel
theorem dX12_does_60 : decode cX12_does 60 = .ok (.getfield 153, 3) := by decide +kernel
theorem dX12_does_63 : decode cX12_does 63 = .ok (.iload_n 3, 1) := by decide +kernel
theorem dX12_does_64 : decode cX12_does 64 = .ok (.iaload, 1) := by decide +kernel
theorem dX12_does_65 : decode cX12_does 65 = .ok (.iconst 1, 1) := by decide +kernel
theorem dX12_does_66 : decode cX12_does 66 = .ok (.iconst 0, 1) := by decide +kernel
theorem dX12_does_67 : decode cX12_does 67 = .ok (.invokevirtual 459, 3) := by decide +kernel
theorem dX12_does_70 : decode cX12_does 70 = .ok (.istore 4, 2) := by decide +kernel
theorem dX12_does_72 : decode cX12_does 72 = .ok (.iload 4, 2) := by decide +kernel
theorem dX12_does_74 : decode cX12_does 74 = .ok (.iconst (-1), 1) := by decide +kernel
theorem dX12_does_75 : decode cX12_does 75 = .ok (.if_icmp .eq 14, 3) := by decide +kernel
theorem dX12_does_78 : decode cX12_does 78 = .ok (.aload_n 0, 1) := by decide +kernel
theorem dX12_does_79 : decode cX12_does 79 = .ok (.iload_n 1, 1) := by decide +kernel
theorem dX12_does_80 : decode cX12_does 80 = .ok (.iload 4, 2) := by decide +kernel
theorem dX12_does_82 : decode cX12_does 82 = .ok (.invokevirtual 477, 3) := by decide +kernel
theorem dX12_does_85 : decode cX12_does 85 = .ok (.iconst (-1), 1) := by decide +kernel
theorem dX12_does_86 : decode cX12_does 86 = .ok (.if_icmp .eq 16, 3) := by decide +kernel
theorem dX12_does_89 : decode cX12_does 89 = .ok (.aload_n 0, 1) := by decide +kernel
theorem dX12_does_90 : decode cX12_does 90 = .ok (.dup, 1) := by decide +kernel
theorem dX12_does_91 : decode cX12_does 91 = .ok (.getfield 207, 3) := by decide +kernel
theorem dX12_does_94 : decode cX12_does 94 = .ok (.iconst 1, 1) := by decide +kernel
theorem dX12_does_95 : decode cX12_does 95 = .ok (.iload_n 2, 1) := by decide +kernel
theorem dX12_does_96 : decode cX12_does 96 = .ok (.ishl, 1) := by decide +kernel
theorem dX12_does_97 : decode cX12_does 97 = .ok (.ior, 1) := by decide +kernel
theorem dX12_does_98 : decode cX12_does 98 = .ok (.putfield 207, 3) := by decide +kernel
theorem dX12_does_101 : decode cX12_does 101 = .ok (.return_, 1) := by decide +kernel
theorem dX12_does_102 : decode cX12_does 102 = .ok (.aload_n 0, 1) := by decide +kernel
theorem dX12_does_103 : decode cX12_does 103 = .ok (.getfield 150, 3) := by decide +kernel
theorem dX12_does_106 : decode cX12_does 106 = .ok (.iload_n 3, 1) := by decide +kernel
theorem dX12_does_107 : decode cX12_does 107 = .ok (.iload 4, 2) := by decide +kernel
theorem dX12_does_109 : decode cX12_does 109 = .ok (.iastore, 1) := by decide +kernel
theorem dX12_does_110 : decode cX12_does 110 = .ok (.aload_n 0, 1) := by decide +kernel
theorem dX12_does_111 : decode cX12_does 111 = .ok (.getfield 162, 3) := by decide +kernel
theorem dX12_does_114 : decode cX12_does 114 = .ok (.iload_n 3, 1) := by decide +kernel
theorem dX12_does_115 : decode cX12_does 115 = .ok (.aload_n 0, 1) := by decide +kernel
theorem dX12_does_116 : decode cX12_does 116 = .ok (.getfield 162, 3) := by decide +kernel
theorem dX12_does_119 : decode cX12_does 119 = .ok (.iload_n 3, 1) := by decide +kernel
theorem dX12_does_120 : decode cX12_does 120 = .ok (.iaload, 1) := by decide +kernel
theorem dX12_does_121 : decode cX12_does 121 = .ok (.iconst 1, 1) := by decide +kernel
theorem dX12_does_122 : decode cX12_does 122 = .ok (.iadd, 1) := by decide +kernel
theorem dX12_does_123 : decode cX12_does 123 = .ok (.sipush 2520, 3) := by decide +kernel
theorem dX12_does_126 : decode cX12_does 126 = .ok (.irem, 1) := by decide +kernel
theorem dX12_does_127 : decode cX12_does 127 = .ok (.iastore, 1) := by decide +kernel
theorem dX12_does_128 : decode cX12_does 128 = .ok (.aload_n 0, 1) := by decide +kernel
theorem dX12_does_129 : decode cX12_does 129 = .ok (.dup, 1) := by decide +kernel
theorem dX12_does_130 : decode cX12_does 130 = .ok (.getfield 204, 3) := by decide +kernel
theorem dX12_does_133 : decode cX12_does 133 = .ok (.iconst 1, 1) := by decide +kernel
theorem dX12_does_134 : decode cX12_does 134 = .ok (.iload_n 2, 1) := by decide +kernel
theorem dX12_does_135 : decode cX12_does 135 = .ok (.ishl, 1) := by decide +kernel
theorem dX12_does_136 : decode cX12_does 136 = .ok (.ior, 1) := by decide +kernel
theorem dX12_does_137 : decode cX12_does 137 = .ok (.putfield 204, 3) := by decide +kernel
theorem dX12_does_140 : decode cX12_does 140 = .ok (.aload_n 0, 1) := by decide +kernel
theorem dX12_does_141 : decode cX12_does 141 = .ok (.iload_n 1, 1) := by decide +kernel
theorem dX12_does_142 : decode cX12_does 142 = .ok (.iload_n 2, 1) := by decide +kernel
theorem dX12_does_143 : decode cX12_does 143 = .ok (.invokevirtual 480, 3) := by decide +kernel
theorem dX12_does_146 : decode cX12_does 146 = .ok (.aload_n 0, 1) := by decide +kernel
theorem dX12_does_147 : decode cX12_does 147 = .ok (.iload_n 2, 1) := by decide +kernel
theorem dX12_does_148 : decode cX12_does 148 = .ok (.invokevirtual 483, 3) := by decide +kernel
theorem dX12_does_151 : decode cX12_does 151 = .ok (.ifCond .le 34, 3) := by decide +kernel
theorem dX12_does_154 : decode cX12_does 154 = .ok (.aload_n 0, 1) := by decide +kernel
theorem dX12_does_155 : decode cX12_does 155 = .ok (.getfield 162, 3) := by decide +kernel
theorem dX12_does_158 : decode cX12_does 158 = .ok (.iload_n 3, 1) := by decide +kernel
theorem dX12_does_159 : decode cX12_does 159 = .ok (.iaload, 1) := by decide +kernel
theorem dX12_does_160 : decode cX12_does 160 = .ok (.aload_n 0, 1) := by decide +kernel
theorem dX12_does_161 : decode cX12_does 161 = .ok (.iload_n 2, 1) := by decide +kernel
theorem dX12_does_162 : decode cX12_does 162 = .ok (.invokevirtual 483, 3) := by decide +kernel
theorem dX12_does_165 : decode cX12_does 165 = .ok (.irem, 1) := by decide +kernel
theorem dX12_does_166 : decode cX12_does 166 = .ok (.ifCond .ne 19, 3) := by decide +kernel
theorem dX12_does_169 : decode cX12_does 169 = .ok (.aload_n 0, 1) := by decide +kernel
theorem dX12_does_170 : decode cX12_does 170 = .ok (.getfield 153, 3) := by decide +kernel
theorem dX12_does_173 : decode cX12_does 173 = .ok (.iload_n 3, 1) := by decide +kernel
theorem dX12_does_174 : decode cX12_does 174 = .ok (.aload_n 0, 1) := by decide +kernel
theorem dX12_does_175 : decode cX12_does 175 = .ok (.getfield 153, 3) := by decide +kernel
theorem dX12_does_178 : decode cX12_does 178 = .ok (.iload_n 3, 1) := by decide +kernel
theorem dX12_does_179 : decode cX12_does 179 = .ok (.iaload, 1) := by decide +kernel
theorem dX12_does_180 : decode cX12_does 180 = .ok (.iconst 1, 1) := by decide +kernel
theorem dX12_does_181 : decode cX12_does 181 = .ok (.iadd, 1) := by decide +kernel
theorem dX12_does_182 : decode cX12_does 182 = .ok (.iconst 4, 1) := by decide +kernel
theorem dX12_does_183 : decode cX12_does 183 = .ok (.irem, 1) := by decide +kernel
theorem dX12_does_184 : decode cX12_does 184 = .ok (.iastore, 1) := by decide +kernel
theorem dX12_does_185 : decode cX12_does 185 = .ok (.return_, 1) := by decide +kernel
theorem dX12_passes_0 : decode cX12_passes 0 = .ok (.aload_n 0, 1) := by decide +kernel
theorem dX12_passes_1 : decode cX12_passes 1 = .ok (.iconst 0, 1) := by decide +kernel
theorem dX12_passes_2 : decode cX12_passes 2 = .ok (.putfield 204, 3) := by decide +kernel
theorem dX12_passes_5 : decode cX12_passes 5 = .ok (.aload_n 0, 1) := by decide +kernel
theorem dX12_passes_6 : decode cX12_passes 6 = .ok (.iconst 0, 1) := by decide +kernel
theorem dX12_passes_7 : decode cX12_passes 7 = .ok (.putfield 207, 3) := by decide +kernel
theorem dX12_passes_10 : decode cX12_passes 10 = .ok (.iconst 0, 1) := by decide +kernel
theorem dX12_passes_11 : decode cX12_passes 11 = .ok (.istore_n 3, 1) := by decide +kernel
theorem dX12_passes_12 : decode cX12_passes 12 = .ok (.iload_n 3, 1) := by decide +kernel
theorem dX12_passes_13 : decode cX12_passes 13 = .ok (.aload_n 0, 1) := by decide +kernel
theorem dX12_passes_14 : decode cX12_passes 14 = .ok (.getfield 63, 3) := by decide +kernel
theorem dX12_passes_17 : decode cX12_passes 17 = .ok (.aload_n 0, 1) := by decide +kernel
theorem dX12_passes_18 : decode cX12_passes 18 = .ok (.getfield 51, 3) := by decide +kernel
theorem dX12_passes_21 : decode cX12_passes 21 = .ok (.iaload, 1) := by decide +kernel
theorem dX12_passes_22 : decode cX12_passes 22 = .ok (.if_icmp .ge 25, 3) := by decide +kernel
theorem dX12_passes_25 : decode cX12_passes 25 = .ok (.iload_n 2, 1) := by decide +kernel
theorem dX12_passes_26 : decode cX12_passes 26 = .ok (.iload_n 3, 1) := by decide +kernel
theorem dX12_passes_27 : decode cX12_passes 27 = .ok (.aload_n 0, 1) := by decide +kernel
theorem dX12_passes_28 : decode cX12_passes 28 = .ok (.getfield 201, 3) := by decide +kernel
theorem dX12_passes_31 : decode cX12_passes 31 = .ok (.imul, 1) := by decide +kernel
theorem dX12_passes_32 : decode cX12_passes 32 = .ok (.if_icmp .lt 9, 3) := by decide +kernel
theorem dX12_passes_35 : decode cX12_passes 35 = .ok (.aload_n 0, 1) := by decide +kernel
theorem dX12_passes_36 : decode cX12_passes 36 = .ok (.iload_n 1, 1) := by decide +kernel
theorem dX12_passes_37 : decode cX12_passes 37 = .ok (.iload_n 3, 1) := by decide +kernel
theorem dX12_passes_38 : decode cX12_passes 38 = .ok (.invokevirtual 486, 3) := by decide +kernel
theorem dX12_passes_41 : decode cX12_passes 41 = .ok (.iinc 3 1, 3) := by decide +kernel
theorem dX12_passes_44 : decode cX12_passes 44 = .ok (.goto (-32), 3) := by decide +kernel
theorem dX12_passes_47 : decode cX12_passes 47 = .ok (.aload_n 0, 1) := by decide +kernel
theorem dX12_passes_48 : decode cX12_passes 48 = .ok (.getfield 144, 3) := by decide +kernel
theorem dX12_passes_51 : decode cX12_passes 51 = .ok (.iload_n 1, 1) := by decide +kernel
theorem dX12_passes_52 : decode cX12_passes 52 = .ok (.dup2, 1) := by decide +kernel
theorem dX12_passes_53 : decode cX12_passes 53 = .ok (.iaload, 1) := by decide +kernel
theorem dX12_passes_54 : decode cX12_passes 54 = .ok (.iconst 1, 1) := by decide +kernel
theorem dX12_passes_55 : decode cX12_passes 55 = .ok (.iadd, 1) := by decide +kernel
theorem dX12_passes_56 : decode cX12_passes 56 = .ok (.iastore, 1) := by decide +kernel
theorem dX12_passes_57 : decode cX12_passes 57 = .ok (.return_, 1) := by decide +kernel
theorem dX12_bits_0 : decode cX12_bits 0 = .ok (.iconst 0, 1) := by decide +kernel
theorem dX12_bits_1 : decode cX12_bits 1 = .ok (.istore_n 1, 1) := by decide +kernel
theorem dX12_bits_2 : decode cX12_bits 2 = .ok (.iload_n 0, 1) := by decide +kernel
theorem dX12_bits_3 : decode cX12_bits 3 = .ok (.istore_n 2, 1) := by decide +kernel
theorem dX12_bits_4 : decode cX12_bits 4 = .ok (.iload_n 2, 1) := by decide +kernel
theorem dX12_bits_5 : decode cX12_bits 5 = .ok (.ifCond .eq 15, 3) := by decide +kernel
theorem dX12_bits_8 : decode cX12_bits 8 = .ok (.iinc 1 1, 3) := by decide +kernel
theorem dX12_bits_11 : decode cX12_bits 11 = .ok (.iload_n 2, 1) := by decide +kernel
theorem dX12_bits_12 : decode cX12_bits 12 = .ok (.iload_n 2, 1) := by decide +kernel
theorem dX12_bits_13 : decode cX12_bits 13 = .ok (.iconst 1, 1) := by decide +kernel
theorem dX12_bits_14 : decode cX12_bits 14 = .ok (.isub, 1) := by decide +kernel
theorem dX12_bits_15 : decode cX12_bits 15 = .ok (.iand, 1) := by decide +kernel
theorem dX12_bits_16 : decode cX12_bits 16 = .ok (.istore_n 2, 1) := by decide +kernel
theorem dX12_bits_17 : decode cX12_bits 17 = .ok (.goto (-13), 3) := by decide +kernel
theorem dX12_bits_20 : decode cX12_bits 20 = .ok (.iload_n 1, 1) := by decide +kernel
theorem dX12_bits_21 : decode cX12_bits 21 = .ok (.ireturn, 1) := by decide +kernel
theorem dX12_isBox_0 : decode cX12_isBox 0 = .ok (.iload_n 1, 1) := by decide +kernel
theorem dX12_isBox_1 : decode cX12_isBox 1 = .ok (.ifCond .lt 20, 3) := by decide +kernel
theorem dX12_isBox_4 : decode cX12_isBox 4 = .ok (.iload_n 1, 1) := by decide +kernel
theorem dX12_isBox_5 : decode cX12_isBox 5 = .ok (.aload_n 0, 1) := by decide +kernel
theorem dX12_isBox_6 : decode cX12_isBox 6 = .ok (.getfield 63, 3) := by decide +kernel
theorem dX12_isBox_9 : decode cX12_isBox 9 = .ok (.aload_n 0, 1) := by decide +kernel
theorem dX12_isBox_10 : decode cX12_isBox 10 = .ok (.getfield 51, 3) := by decide +kernel
theorem dX12_isBox_13 : decode cX12_isBox 13 = .ok (.iaload, 1) := by decide +kernel
theorem dX12_isBox_14 : decode cX12_isBox 14 = .ok (.if_icmp .ge 7, 3) := by decide +kernel
theorem dX12_isBox_17 : decode cX12_isBox 17 = .ok (.iconst 1, 1) := by decide +kernel
theorem dX12_isBox_18 : decode cX12_isBox 18 = .ok (.goto 4, 3) := by decide +kernel
theorem dX12_isBox_21 : decode cX12_isBox 21 = .ok (.iconst 0, 1) := by decide +kernel
theorem dX12_isBox_22 : decode cX12_isBox 22 = .ok (.ireturn, 1) := by decide +kernel
theorem dX12_has_0 : decode cX12_has 0 = .ok (.iconst 0, 1) := by decide +kernel
theorem dX12_has_1 : decode cX12_has 1 = .ok (.istore_n 2, 1) := by decide +kernel
theorem dX12_has_2 : decode cX12_has 2 = .ok (.iload_n 1, 1) := by decide +kernel
theorem dX12_has_3 : decode cX12_has 3 = .ok (.tableswitch 247 0 10 #[57, 67, 77, 87, 135, 142, 149, 189, 229, 236, 241], 57) := by decide +kernel
theorem dX12_has_60 : decode cX12_has 60 = .ok (.aload_n 0, 1) := by decide +kernel
theorem dX12_has_61 : decode cX12_has 61 = .ok (.getfield 54, 3) := by decide +kernel
theorem dX12_has_64 : decode cX12_has 64 = .ok (.aload_n 0, 1) := by decide +kernel
theorem dX12_has_65 : decode cX12_has 65 = .ok (.getfield 51, 3) := by decide +kernel
theorem dX12_has_68 : decode cX12_has 68 = .ok (.iaload, 1) := by decide +kernel
theorem dX12_has_69 : decode cX12_has 69 = .ok (.ireturn, 1) := by decide +kernel
theorem dX12_has_70 : decode cX12_has 70 = .ok (.aload_n 0, 1) := by decide +kernel
theorem dX12_has_71 : decode cX12_has 71 = .ok (.getfield 57, 3) := by decide +kernel
theorem dX12_has_74 : decode cX12_has 74 = .ok (.aload_n 0, 1) := by decide +kernel
theorem dX12_has_75 : decode cX12_has 75 = .ok (.getfield 51, 3) := by decide +kernel
theorem dX12_has_78 : decode cX12_has 78 = .ok (.iaload, 1) := by decide +kernel
theorem dX12_has_79 : decode cX12_has 79 = .ok (.ireturn, 1) := by decide +kernel
theorem dX12_has_80 : decode cX12_has 80 = .ok (.aload_n 0, 1) := by decide +kernel
theorem dX12_has_81 : decode cX12_has 81 = .ok (.getfield 63, 3) := by decide +kernel
theorem dX12_has_84 : decode cX12_has 84 = .ok (.aload_n 0, 1) := by decide +kernel
theorem dX12_has_85 : decode cX12_has 85 = .ok (.getfield 51, 3) := by decide +kernel
theorem dX12_has_88 : decode cX12_has 88 = .ok (.iaload, 1) := by decide +kernel
theorem dX12_has_89 : decode cX12_has 89 = .ok (.ireturn, 1) := by decide +kernel
theorem dX12_has_90 : decode cX12_has 90 = .ok (.iconst 0, 1) := by decide +kernel
theorem dX12_has_91 : decode cX12_has 91 = .ok (.istore_n 3, 1) := by decide +kernel
theorem dX12_has_92 : decode cX12_has 92 = .ok (.iload_n 3, 1) := by decide +kernel
theorem dX12_has_93 : decode cX12_has 93 = .ok (.bipush 81, 2) := by decide +kernel
theorem dX12_has_95 : decode cX12_has 95 = .ok (.if_icmp .ge 41, 3) := by decide +kernel
theorem dX12_has_98 : decode cX12_has 98 = .ok (.iload_n 2, 1) := by decide +kernel
theorem dX12_has_99 : decode cX12_has 99 = .ok (.aload_n 0, 1) := by decide +kernel
theorem dX12_has_100 : decode cX12_has 100 = .ok (.iload_n 3, 1) := by decide +kernel
theorem dX12_has_101 : decode cX12_has 101 = .ok (.bipush 9, 2) := by decide +kernel
theorem dX12_has_103 : decode cX12_has 103 = .ok (.irem, 1) := by decide +kernel
theorem dX12_has_104 : decode cX12_has 104 = .ok (.iload_n 3, 1) := by decide +kernel
theorem dX12_has_105 : decode cX12_has 105 = .ok (.bipush 9, 2) := by decide +kernel
theorem dX12_has_107 : decode cX12_has 107 = .ok (.idiv, 1) := by decide +kernel
theorem dX12_has_108 : decode cX12_has 108 = .ok (.invokevirtual 446, 3) := by decide +kernel
theorem dX12_has_111 : decode cX12_has 111 = .ok (.ifCond .eq 16, 3) := by decide +kernel
theorem dX12_has_114 : decode cX12_has 114 = .ok (.aload_n 0, 1) := by decide +kernel
theorem dX12_has_115 : decode cX12_has 115 = .ok (.iconst 0, 1) := by decide +kernel
theorem dX12_has_116 : decode cX12_has 116 = .ok (.iload_n 3, 1) := by decide +kernel
theorem dX12_has_117 : decode cX12_has 117 = .ok (.invokevirtual 489, 3) := by decide +kernel
theorem dX12_has_120 : decode cX12_has 120 = .ok (.ifCond .eq 7, 3) := by decide +kernel
theorem dX12_has_123 : decode cX12_has 123 = .ok (.iconst 1, 1) := by decide +kernel
theorem dX12_has_124 : decode cX12_has 124 = .ok (.goto 4, 3) := by decide +kernel
theorem dX12_has_127 : decode cX12_has 127 = .ok (.iconst 0, 1) := by decide +kernel
theorem dX12_has_128 : decode cX12_has 128 = .ok (.iadd, 1) := by decide +kernel
theorem dX12_has_129 : decode cX12_has 129 = .ok (.istore_n 2, 1) := by decide +kernel
theorem dX12_has_130 : decode cX12_has 130 = .ok (.iinc 3 1, 3) := by decide +kernel
theorem dX12_has_133 : decode cX12_has 133 = .ok (.goto (-41), 3) := by decide +kernel
theorem dX12_has_136 : decode cX12_has 136 = .ok (.iload_n 2, 1) := by decide +kernel
theorem dX12_has_137 : decode cX12_has 137 = .ok (.ireturn, 1) := by decide +kernel
theorem dX12_has_138 : decode cX12_has 138 = .ok (.aload_n 0, 1) := by decide +kernel
theorem dX12_has_139 : decode cX12_has 139 = .ok (.getfield 144, 3) := by decide +kernel
theorem dX12_has_142 : decode cX12_has 142 = .ok (.iconst 0, 1) := by decide +kernel
theorem dX12_has_143 : decode cX12_has 143 = .ok (.iaload, 1) := by decide +kernel
theorem dX12_has_144 : decode cX12_has 144 = .ok (.ireturn, 1) := by decide +kernel
theorem dX12_has_145 : decode cX12_has 145 = .ok (.aload_n 0, 1) := by decide +kernel
theorem dX12_has_146 : decode cX12_has 146 = .ok (.getfield 147, 3) := by decide +kernel
theorem dX12_has_149 : decode cX12_has 149 = .ok (.iconst 0, 1) := by decide +kernel
theorem dX12_has_150 : decode cX12_has 150 = .ok (.iaload, 1) := by decide +kernel
theorem dX12_has_151 : decode cX12_has 151 = .ok (.ireturn, 1) := by decide +kernel
theorem dX12_has_152 : decode cX12_has 152 = .ok (.iconst 0, 1) := by decide +kernel
theorem dX12_has_153 : decode cX12_has 153 = .ok (.istore_n 3, 1) := by decide +kernel
theorem dX12_has_154 : decode cX12_has 154 = .ok (.iload_n 3, 1) := by decide +kernel
theorem dX12_has_155 : decode cX12_has 155 = .ok (.aload_n 0, 1) := by decide +kernel
theorem dX12_has_156 : decode cX12_has 156 = .ok (.getfield 63, 3) := by decide +kernel
theorem dX12_has_159 : decode cX12_has 159 = .ok (.aload_n 0, 1) := by decide +kernel
theorem dX12_has_160 : decode cX12_has 160 = .ok (.getfield 51, 3) := by decide +kernel
theorem dX12_has_163 : decode cX12_has 163 = .ok (.iaload, 1) := by decide +kernel
theorem dX12_has_164 : decode cX12_has 164 = .ok (.if_icmp .ge 26, 3) := by decide +kernel
theorem dX12_has_167 : decode cX12_has 167 = .ok (.iload_n 2, 1) := by decide +kernel
theorem dX12_has_168 : decode cX12_has 168 = .ok (.aload_n 0, 1) := by decide +kernel
theorem dX12_has_169 : decode cX12_has 169 = .ok (.getfield 159, 3) := by decide +kernel
theorem dX12_has_172 : decode cX12_has 172 = .ok (.iload_n 3, 1) := by decide +kernel
theorem dX12_has_173 : decode cX12_has 173 = .ok (.iaload, 1) := by decide +kernel
theorem dX12_has_174 : decode cX12_has 174 = .ok (.ifCond .le 7, 3) := by decide +kernel
theorem dX12_has_177 : decode cX12_has 177 = .ok (.iconst 1, 1) := by decide +kernel
theorem dX12_has_178 : decode cX12_has 178 = .ok (.goto 4, 3) := by decide +kernel
theorem dX12_has_181 : decode cX12_has 181 = .ok (.iconst 0, 1) := by decide +kernel
theorem dX12_has_182 : decode cX12_has 182 = .ok (.iadd, 1) := by decide +kernel
theorem dX12_has_183 : decode cX12_has 183 = .ok (.istore_n 2, 1) := by decide +kernel
theorem dX12_has_184 : decode cX12_has 184 = .ok (.iinc 3 1, 3) := by decide +kernel
theorem dX12_has_187 : decode cX12_has 187 = .ok (.goto (-33), 3) := by decide +kernel
theorem dX12_has_190 : decode cX12_has 190 = .ok (.iload_n 2, 1) := by decide +kernel
theorem dX12_has_191 : decode cX12_has 191 = .ok (.ireturn, 1) := by decide +kernel
theorem dX12_has_192 : decode cX12_has 192 = .ok (.iconst 0, 1) := by decide +kernel
theorem dX12_has_193 : decode cX12_has 193 = .ok (.istore_n 3, 1) := by decide +kernel
theorem dX12_has_194 : decode cX12_has 194 = .ok (.iload_n 3, 1) := by decide +kernel
theorem dX12_has_195 : decode cX12_has 195 = .ok (.aload_n 0, 1) := by decide +kernel
theorem dX12_has_196 : decode cX12_has 196 = .ok (.getfield 63, 3) := by decide +kernel
theorem dX12_has_199 : decode cX12_has 199 = .ok (.aload_n 0, 1) := by decide +kernel
theorem dX12_has_200 : decode cX12_has 200 = .ok (.getfield 51, 3) := by decide +kernel
theorem dX12_has_203 : decode cX12_has 203 = .ok (.iaload, 1) := by decide +kernel
theorem dX12_has_204 : decode cX12_has 204 = .ok (.if_icmp .ge 26, 3) := by decide +kernel
theorem dX12_has_207 : decode cX12_has 207 = .ok (.iload_n 2, 1) := by decide +kernel
theorem dX12_has_208 : decode cX12_has 208 = .ok (.aload_n 0, 1) := by decide +kernel
theorem dX12_has_209 : decode cX12_has 209 = .ok (.getfield 156, 3) := by decide +kernel
theorem dX12_has_212 : decode cX12_has 212 = .ok (.iload_n 3, 1) := by decide +kernel
theorem dX12_has_213 : decode cX12_has 213 = .ok (.iaload, 1) := by decide +kernel
theorem dX12_has_214 : decode cX12_has 214 = .ok (.ifCond .ne 7, 3) := by decide +kernel
theorem dX12_has_217 : decode cX12_has 217 = .ok (.iconst 1, 1) := by decide +kernel
theorem dX12_has_218 : decode cX12_has 218 = .ok (.goto 4, 3) := by decide +kernel
theorem dX12_has_221 : decode cX12_has 221 = .ok (.iconst 0, 1) := by decide +kernel
theorem dX12_has_222 : decode cX12_has 222 = .ok (.iadd, 1) := by decide +kernel
theorem dX12_has_223 : decode cX12_has 223 = .ok (.istore_n 2, 1) := by decide +kernel
theorem dX12_has_224 : decode cX12_has 224 = .ok (.iinc 3 1, 3) := by decide +kernel
theorem dX12_has_227 : decode cX12_has 227 = .ok (.goto (-33), 3) := by decide +kernel
theorem dX12_has_230 : decode cX12_has 230 = .ok (.iload_n 2, 1) := by decide +kernel
theorem dX12_has_231 : decode cX12_has 231 = .ok (.ireturn, 1) := by decide +kernel
theorem dX12_has_232 : decode cX12_has 232 = .ok (.aload_n 0, 1) := by decide +kernel
theorem dX12_has_233 : decode cX12_has 233 = .ok (.getfield 165, 3) := by decide +kernel
theorem dX12_has_236 : decode cX12_has 236 = .ok (.iconst 0, 1) := by decide +kernel
theorem dX12_has_237 : decode cX12_has 237 = .ok (.iaload, 1) := by decide +kernel
theorem dX12_has_238 : decode cX12_has 238 = .ok (.ireturn, 1) := by decide +kernel
theorem dX12_has_239 : decode cX12_has 239 = .ok (.aload_n 0, 1) := by decide +kernel
theorem dX12_has_240 : decode cX12_has 240 = .ok (.getfield 174, 3) := by decide +kernel
theorem dX12_has_243 : decode cX12_has 243 = .ok (.ireturn, 1) := by decide +kernel
theorem dX12_has_244 : decode cX12_has 244 = .ok (.aload_n 0, 1) := by decide +kernel
theorem dX12_has_245 : decode cX12_has 245 = .ok (.getfield 177, 3) := by decide +kernel
theorem dX12_has_248 : decode cX12_has 248 = .ok (.l2i, 1) := by decide +kernel
theorem dX12_has_249 : decode cX12_has 249 = .ok (.ireturn, 1) := by decide +kernel
theorem dX12_has_250 : decode cX12_has 250 = .ok (.iconst (-1), 1) := by decide +kernel
theorem dX12_has_251 : decode cX12_has 251 = .ok (.ireturn, 1) := by decide +kernel
theorem dX12_letter_0 : decode cX12_letter 0 = .ok (.aload_n 0, 1) := by decide +kernel
theorem dX12_letter_1 : decode cX12_letter 1 = .ok (.iload_n 1, 1) := by decide +kernel
theorem dX12_letter_2 : decode cX12_letter 2 = .ok (.invokevirtual 492, 3) := by decide +kernel
theorem dX12_letter_5 : decode cX12_letter 5 = .ok (.ifCond .eq 12, 3) := by decide +kernel
theorem dX12_letter_8 : decode cX12_letter 8 = .ok (.iload_n 2, 1) := by decide +kernel
theorem dX12_letter_9 : decode cX12_letter 9 = .ok (.iconst 0, 1) := by decide +kernel
theorem dX12_letter_10 : decode cX12_letter 10 = .ok (.iconst 5, 1) := by decide +kernel
theorem dX12_letter_11 : decode cX12_letter 11 = .ok (.invokestatic 318, 3) := by decide +kernel
theorem dX12_letter_14 : decode cX12_letter 14 = .ok (.ifCond .ne 5, 3) := by decide +kernel
theorem dX12_letter_17 : decode cX12_letter 17 = .ok (.iconst (-1), 1) := by decide +kernel
theorem dX12_letter_18 : decode cX12_letter 18 = .ok (.ireturn, 1) := by decide +kernel
theorem dX12_letter_19 : decode cX12_letter 19 = .ok (.aload_n 0, 1) := by decide +kernel
theorem dX12_letter_20 : decode cX12_letter 20 = .ok (.getfield 96, 3) := by decide +kernel
theorem dX12_letter_23 : decode cX12_letter 23 = .ok (.bipush 6, 2) := by decide +kernel
theorem dX12_letter_25 : decode cX12_letter 25 = .ok (.aload_n 0, 1) := by decide +kernel
theorem dX12_letter_26 : decode cX12_letter 26 = .ok (.getfield 51, 3) := by decide +kernel
theorem dX12_letter_29 : decode cX12_letter 29 = .ok (.imul, 1) := by decide +kernel
theorem dX12_letter_30 : decode cX12_letter 30 = .ok (.iload_n 1, 1) := by decide +kernel
theorem dX12_letter_31 : decode cX12_letter 31 = .ok (.iadd, 1) := by decide +kernel
theorem dX12_letter_32 : decode cX12_letter 32 = .ok (.laload, 1) := by decide +kernel
theorem dX12_letter_33 : decode cX12_letter 33 = .ok (.lstore_n 3, 1) := by decide +kernel
theorem dX12_letter_34 : decode cX12_letter 34 = .ok (.iconst 0, 1) := by decide +kernel
theorem dX12_letter_35 : decode cX12_letter 35 = .ok (.istore 5, 2) := by decide +kernel
theorem dX12_letter_37 : decode cX12_letter 37 = .ok (.lload_n 3, 1) := by decide +kernel
theorem dX12_letter_38 : decode cX12_letter 38 = .ok (.lstore 6, 2) := by decide +kernel
theorem dX12_letter_40 : decode cX12_letter 40 = .ok (.lload 6, 2) := by decide +kernel
theorem dX12_letter_42 : decode cX12_letter 42 = .ok (.lconst 0, 1) := by decide +kernel
theorem dX12_letter_43 : decode cX12_letter 43 = .ok (.lcmp, 1) := by decide +kernel
theorem dX12_letter_44 : decode cX12_letter 44 = .ok (.ifCond .le 16, 3) := by decide +kernel
theorem dX12_letter_47 : decode cX12_letter 47 = .ok (.iinc 5 1, 3) := by decide +kernel
theorem dX12_letter_50 : decode cX12_letter 50 = .ok (.lload 6, 2) := by decide +kernel
theorem dX12_letter_52 : decode cX12_letter 52 = .ok (.bipush 8, 2) := by decide +kernel
theorem dX12_letter_54 : decode cX12_letter 54 = .ok (.lshr, 1) := by decide +kernel
theorem dX12_letter_55 : decode cX12_letter 55 = .ok (.lstore 6, 2) := by decide +kernel
theorem dX12_letter_57 : decode cX12_letter 57 = .ok (.goto (-17), 3) := by decide +kernel
theorem dX12_letter_60 : decode cX12_letter 60 = .ok (.iload_n 2, 1) := by decide +kernel
theorem dX12_letter_61 : decode cX12_letter 61 = .ok (.iload 5, 2) := by decide +kernel
theorem dX12_letter_63 : decode cX12_letter 63 = .ok (.if_icmp .lt 7, 3) := by decide +kernel
theorem dX12_letter_66 : decode cX12_letter 66 = .ok (.iconst 0, 1) := by decide +kernel
theorem dX12_letter_67 : decode cX12_letter 67 = .ok (.goto 24, 3) := by decide +kernel
theorem dX12_letter_70 : decode cX12_letter 70 = .ok (.lload_n 3, 1) := by decide +kernel
theorem dX12_letter_71 : decode cX12_letter 71 = .ok (.bipush 8, 2) := by decide +kernel
