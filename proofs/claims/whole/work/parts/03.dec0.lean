theorem dX0_init_0 : decode cX0_init 0 = .ok (.aload_n 0, 1) := by decide +kernel
theorem dX0_init_1 : decode cX0_init 1 = .ok (.invokespecial 5, 3) := by decide +kernel
theorem dX0_init_4 : decode cX0_init 4 = .ok (.aload_n 0, 1) := by decide +kernel
theorem dX0_init_5 : decode cX0_init 5 = .ok (.sipush 324, 3) := by decide +kernel
theorem dX0_init_8 : decode cX0_init 8 = .ok (.newarray .int, 2) := by decide +kernel
theorem dX0_init_10 : decode cX0_init 10 = .ok (.putfield 13, 3) := by decide +kernel
theorem dX0_init_13 : decode cX0_init 13 = .ok (.aload_n 0, 1) := by decide +kernel
theorem dX0_init_14 : decode cX0_init 14 = .ok (.sipush 324, 3) := by decide +kernel
theorem dX0_init_17 : decode cX0_init 17 = .ok (.newarray .int, 2) := by decide +kernel
theorem dX0_init_19 : decode cX0_init 19 = .ok (.putfield 17, 3) := by decide +kernel
theorem dX0_init_22 : decode cX0_init 22 = .ok (.aload_n 0, 1) := by decide +kernel
theorem dX0_init_23 : decode cX0_init 23 = .ok (.new 20, 3) := by decide +kernel
theorem dX0_init_26 : decode cX0_init 26 = .ok (.dup, 1) := by decide +kernel
theorem dX0_init_27 : decode cX0_init 27 = .ok (.aload_n 1, 1) := by decide +kernel
theorem dX0_init_28 : decode cX0_init 28 = .ok (.invokespecial 22, 3) := by decide +kernel
theorem dX0_init_31 : decode cX0_init 31 = .ok (.putfield 25, 3) := by decide +kernel
theorem dX0_init_34 : decode cX0_init 34 = .ok (.aload_n 0, 1) := by decide +kernel
theorem dX0_init_35 : decode cX0_init 35 = .ok (.iconst 0, 1) := by decide +kernel
theorem dX0_init_36 : decode cX0_init 36 = .ok (.putfield 29, 3) := by decide +kernel
theorem dX0_init_39 : decode cX0_init 39 = .ok (.return_, 1) := by decide +kernel
theorem dX0_stateBehind_0 : decode cX0_stateBehind 0 = .ok (.aload_n 0, 1) := by decide +kernel
theorem dX0_stateBehind_1 : decode cX0_stateBehind 1 = .ok (.getfield 25, 3) := by decide +kernel
theorem dX0_stateBehind_4 : decode cX0_stateBehind 4 = .ok (.aload_n 1, 1) := by decide +kernel
theorem dX0_stateBehind_5 : decode cX0_stateBehind 5 = .ok (.invokevirtual 33, 3) := by decide +kernel
theorem dX0_stateBehind_8 : decode cX0_stateBehind 8 = .ok (.aload_n 0, 1) := by decide +kernel
theorem dX0_stateBehind_9 : decode cX0_stateBehind 9 = .ok (.getfield 25, 3) := by decide +kernel
theorem dX0_stateBehind_12 : decode cX0_stateBehind 12 = .ok (.iload_n 2, 1) := by decide +kernel
theorem dX0_stateBehind_13 : decode cX0_stateBehind 13 = .ok (.bipush 9, 2) := by decide +kernel
theorem dX0_stateBehind_15 : decode cX0_stateBehind 15 = .ok (.iconst 0, 1) := by decide +kernel
theorem dX0_stateBehind_16 : decode cX0_stateBehind 16 = .ok (.invokevirtual 37, 3) := by decide +kernel
theorem dX0_stateBehind_19 : decode cX0_stateBehind 19 = .ok (.iconst 0, 1) := by decide +kernel
theorem dX0_stateBehind_20 : decode cX0_stateBehind 20 = .ok (.istore 5, 2) := by decide +kernel
theorem dX0_stateBehind_22 : decode cX0_stateBehind 22 = .ok (.iload 5, 2) := by decide +kernel
theorem dX0_stateBehind_24 : decode cX0_stateBehind 24 = .ok (.iload_n 3, 1) := by decide +kernel
theorem dX0_stateBehind_25 : decode cX0_stateBehind 25 = .ok (.if_icmp .ge 18, 3) := by decide +kernel
theorem dX0_stateBehind_28 : decode cX0_stateBehind 28 = .ok (.aload_n 0, 1) := by decide +kernel
theorem dX0_stateBehind_29 : decode cX0_stateBehind 29 = .ok (.getfield 25, 3) := by decide +kernel
theorem dX0_stateBehind_32 : decode cX0_stateBehind 32 = .ok (.iconst 0, 1) := by decide +kernel
theorem dX0_stateBehind_33 : decode cX0_stateBehind 33 = .ok (.iconst 0, 1) := by decide +kernel
theorem dX0_stateBehind_34 : decode cX0_stateBehind 34 = .ok (.invokevirtual 41, 3) := by decide +kernel
theorem dX0_stateBehind_37 : decode cX0_stateBehind 37 = .ok (.iinc 5 1, 3) := by decide +kernel
theorem dX0_stateBehind_40 : decode cX0_stateBehind 40 = .ok (.goto (-18), 3) := by decide +kernel
theorem dX0_stateBehind_43 : decode cX0_stateBehind 43 = .ok (.iload 4, 2) := by decide +kernel
theorem dX0_stateBehind_45 : decode cX0_stateBehind 45 = .ok (.iconst 4, 1) := by decide +kernel
theorem dX0_stateBehind_46 : decode cX0_stateBehind 46 = .ok (.if_icmp .ne 14, 3) := by decide +kernel
theorem dX0_stateBehind_49 : decode cX0_stateBehind 49 = .ok (.aload_n 0, 1) := by decide +kernel
theorem dX0_stateBehind_50 : decode cX0_stateBehind 50 = .ok (.getfield 25, 3) := by decide +kernel
theorem dX0_stateBehind_53 : decode cX0_stateBehind 53 = .ok (.iload_n 2, 1) := by decide +kernel
theorem dX0_stateBehind_54 : decode cX0_stateBehind 54 = .ok (.bipush 9, 2) := by decide +kernel
theorem dX0_stateBehind_56 : decode cX0_stateBehind 56 = .ok (.invokevirtual 45, 3) := by decide +kernel
theorem dX0_stateBehind_59 : decode cX0_stateBehind 59 = .ok (.ireturn, 1) := by decide +kernel
theorem dX0_stateBehind_60 : decode cX0_stateBehind 60 = .ok (.aload_n 0, 1) := by decide +kernel
theorem dX0_stateBehind_61 : decode cX0_stateBehind 61 = .ok (.getfield 25, 3) := by decide +kernel
theorem dX0_stateBehind_64 : decode cX0_stateBehind 64 = .ok (.iload_n 2, 1) := by decide +kernel
theorem dX0_stateBehind_65 : decode cX0_stateBehind 65 = .ok (.iload 4, 2) := by decide +kernel
theorem dX0_stateBehind_67 : decode cX0_stateBehind 67 = .ok (.iconst 3, 1) := by decide +kernel
theorem dX0_stateBehind_68 : decode cX0_stateBehind 68 = .ok (.if_icmp .ne 7, 3) := by decide +kernel
theorem dX0_stateBehind_71 : decode cX0_stateBehind 71 = .ok (.iconst 4, 1) := by decide +kernel
theorem dX0_stateBehind_72 : decode cX0_stateBehind 72 = .ok (.goto 5, 3) := by decide +kernel
theorem dX0_stateBehind_75 : decode cX0_stateBehind 75 = .ok (.iload 4, 2) := by decide +kernel
theorem dX0_stateBehind_77 : decode cX0_stateBehind 77 = .ok (.invokevirtual 45, 3) := by decide +kernel
theorem dX0_stateBehind_80 : decode cX0_stateBehind 80 = .ok (.ireturn, 1) := by decide +kernel
theorem dX0_stepsRound_0 : decode cX0_stepsRound 0 = .ok (.aload_n 0, 1) := by decide +kernel
theorem dX0_stepsRound_1 : decode cX0_stepsRound 1 = .ok (.getfield 25, 3) := by decide +kernel
theorem dX0_stepsRound_4 : decode cX0_stepsRound 4 = .ok (.aload_n 1, 1) := by decide +kernel
theorem dX0_stepsRound_5 : decode cX0_stepsRound 5 = .ok (.invokevirtual 33, 3) := by decide +kernel
theorem dX0_stepsRound_8 : decode cX0_stepsRound 8 = .ok (.aload_n 1, 1) := by decide +kernel
theorem dX0_stepsRound_9 : decode cX0_stepsRound 9 = .ok (.bipush 80, 2) := by decide +kernel
theorem dX0_stepsRound_11 : decode cX0_stepsRound 11 = .ok (.invokevirtual 49, 3) := by decide +kernel
theorem dX0_stepsRound_14 : decode cX0_stepsRound 14 = .ok (.istore_n 3, 1) := by decide +kernel
theorem dX0_stepsRound_15 : decode cX0_stepsRound 15 = .ok (.iconst 1, 1) := by decide +kernel
theorem dX0_stepsRound_16 : decode cX0_stepsRound 16 = .ok (.istore 4, 2) := by decide +kernel
theorem dX0_stepsRound_18 : decode cX0_stepsRound 18 = .ok (.iload 4, 2) := by decide +kernel
theorem dX0_stepsRound_20 : decode cX0_stepsRound 20 = .ok (.iload_n 3, 1) := by decide +kernel
theorem dX0_stepsRound_21 : decode cX0_stepsRound 21 = .ok (.if_icmp .gt 30, 3) := by decide +kernel
theorem dX0_stepsRound_24 : decode cX0_stepsRound 24 = .ok (.aload_n 0, 1) := by decide +kernel
theorem dX0_stepsRound_25 : decode cX0_stepsRound 25 = .ok (.getfield 25, 3) := by decide +kernel
theorem dX0_stepsRound_28 : decode cX0_stepsRound 28 = .ok (.iconst 0, 1) := by decide +kernel
theorem dX0_stepsRound_29 : decode cX0_stepsRound 29 = .ok (.iconst 0, 1) := by decide +kernel
theorem dX0_stepsRound_30 : decode cX0_stepsRound 30 = .ok (.invokevirtual 41, 3) := by decide +kernel
theorem dX0_stepsRound_33 : decode cX0_stepsRound 33 = .ok (.aload_n 0, 1) := by decide +kernel
theorem dX0_stepsRound_34 : decode cX0_stepsRound 34 = .ok (.aload_n 1, 1) := by decide +kernel
theorem dX0_stepsRound_35 : decode cX0_stepsRound 35 = .ok (.iload_n 2, 1) := by decide +kernel
theorem dX0_stepsRound_36 : decode cX0_stepsRound 36 = .ok (.invokevirtual 53, 3) := by decide +kernel
theorem dX0_stepsRound_39 : decode cX0_stepsRound 39 = .ok (.ifCond .eq 6, 3) := by decide +kernel
theorem dX0_stepsRound_42 : decode cX0_stepsRound 42 = .ok (.iload 4, 2) := by decide +kernel
theorem dX0_stepsRound_44 : decode cX0_stepsRound 44 = .ok (.ireturn, 1) := by decide +kernel
theorem dX0_stepsRound_45 : decode cX0_stepsRound 45 = .ok (.iinc 4 1, 3) := by decide +kernel
theorem dX0_stepsRound_48 : decode cX0_stepsRound 48 = .ok (.goto (-30), 3) := by decide +kernel
theorem dX0_stepsRound_51 : decode cX0_stepsRound 51 = .ok (.iconst (-1), 1) := by decide +kernel
theorem dX0_stepsRound_52 : decode cX0_stepsRound 52 = .ok (.ireturn, 1) := by decide +kernel
theorem dX0_isAsIn_0 : decode cX0_isAsIn 0 = .ok (.aload_n 0, 1) := by decide +kernel
theorem dX0_isAsIn_1 : decode cX0_isAsIn 1 = .ok (.getfield 25, 3) := by decide +kernel
theorem dX0_isAsIn_4 : decode cX0_isAsIn 4 = .ok (.iload_n 2, 1) := by decide +kernel
theorem dX0_isAsIn_5 : decode cX0_isAsIn 5 = .ok (.iconst 0, 1) := by decide +kernel
theorem dX0_isAsIn_6 : decode cX0_isAsIn 6 = .ok (.invokevirtual 45, 3) := by decide +kernel
theorem dX0_isAsIn_9 : decode cX0_isAsIn 9 = .ok (.aload_n 1, 1) := by decide +kernel
theorem dX0_isAsIn_10 : decode cX0_isAsIn 10 = .ok (.iload_n 2, 1) := by decide +kernel
theorem dX0_isAsIn_11 : decode cX0_isAsIn 11 = .ok (.iconst 0, 1) := by decide +kernel
theorem dX0_isAsIn_12 : decode cX0_isAsIn 12 = .ok (.invokevirtual 45, 3) := by decide +kernel
theorem dX0_isAsIn_15 : decode cX0_isAsIn 15 = .ok (.if_icmp .ne 43, 3) := by decide +kernel
theorem dX0_isAsIn_18 : decode cX0_isAsIn 18 = .ok (.aload_n 0, 1) := by decide +kernel
theorem dX0_isAsIn_19 : decode cX0_isAsIn 19 = .ok (.getfield 25, 3) := by decide +kernel
theorem dX0_isAsIn_22 : decode cX0_isAsIn 22 = .ok (.iload_n 2, 1) := by decide +kernel
theorem dX0_isAsIn_23 : decode cX0_isAsIn 23 = .ok (.iconst 1, 1) := by decide +kernel
theorem dX0_isAsIn_24 : decode cX0_isAsIn 24 = .ok (.invokevirtual 45, 3) := by decide +kernel
theorem dX0_isAsIn_27 : decode cX0_isAsIn 27 = .ok (.aload_n 1, 1) := by decide +kernel
theorem dX0_isAsIn_28 : decode cX0_isAsIn 28 = .ok (.iload_n 2, 1) := by decide +kernel
theorem dX0_isAsIn_29 : decode cX0_isAsIn 29 = .ok (.iconst 1, 1) := by decide +kernel
theorem dX0_isAsIn_30 : decode cX0_isAsIn 30 = .ok (.invokevirtual 45, 3) := by decide +kernel
theorem dX0_isAsIn_33 : decode cX0_isAsIn 33 = .ok (.if_icmp .ne 25, 3) := by decide +kernel
theorem dX0_isAsIn_36 : decode cX0_isAsIn 36 = .ok (.aload_n 0, 1) := by decide +kernel
theorem dX0_isAsIn_37 : decode cX0_isAsIn 37 = .ok (.getfield 25, 3) := by decide +kernel
theorem dX0_isAsIn_40 : decode cX0_isAsIn 40 = .ok (.iload_n 2, 1) := by decide +kernel
theorem dX0_isAsIn_41 : decode cX0_isAsIn 41 = .ok (.iconst 2, 1) := by decide +kernel
theorem dX0_isAsIn_42 : decode cX0_isAsIn 42 = .ok (.invokevirtual 45, 3) := by decide +kernel
theorem dX0_isAsIn_45 : decode cX0_isAsIn 45 = .ok (.aload_n 1, 1) := by decide +kernel
theorem dX0_isAsIn_46 : decode cX0_isAsIn 46 = .ok (.iload_n 2, 1) := by decide +kernel
theorem dX0_isAsIn_47 : decode cX0_isAsIn 47 = .ok (.iconst 2, 1) := by decide +kernel
theorem dX0_isAsIn_48 : decode cX0_isAsIn 48 = .ok (.invokevirtual 45, 3) := by decide +kernel
theorem dX0_isAsIn_51 : decode cX0_isAsIn 51 = .ok (.if_icmp .ne 7, 3) := by decide +kernel
theorem dX0_isAsIn_54 : decode cX0_isAsIn 54 = .ok (.iconst 1, 1) := by decide +kernel
theorem dX0_isAsIn_55 : decode cX0_isAsIn 55 = .ok (.goto 4, 3) := by decide +kernel
theorem dX0_isAsIn_58 : decode cX0_isAsIn 58 = .ok (.iconst 0, 1) := by decide +kernel
theorem dX0_isAsIn_59 : decode cX0_isAsIn 59 = .ok (.ireturn, 1) := by decide +kernel
theorem dX0_stepsToLoss_0 : decode cX0_stepsToLoss 0 = .ok (.aload_n 0, 1) := by decide +kernel
theorem dX0_stepsToLoss_1 : decode cX0_stepsToLoss 1 = .ok (.getfield 25, 3) := by decide +kernel
theorem dX0_stepsToLoss_4 : decode cX0_stepsToLoss 4 = .ok (.aload_n 1, 1) := by decide +kernel
theorem dX0_stepsToLoss_5 : decode cX0_stepsToLoss 5 = .ok (.invokevirtual 33, 3) := by decide +kernel
theorem dX0_stepsToLoss_8 : decode cX0_stepsToLoss 8 = .ok (.aload_n 1, 1) := by decide +kernel
theorem dX0_stepsToLoss_9 : decode cX0_stepsToLoss 9 = .ok (.bipush 80, 2) := by decide +kernel
theorem dX0_stepsToLoss_11 : decode cX0_stepsToLoss 11 = .ok (.invokevirtual 49, 3) := by decide +kernel
theorem dX0_stepsToLoss_14 : decode cX0_stepsToLoss 14 = .ok (.istore 4, 2) := by decide +kernel
theorem dX0_stepsToLoss_16 : decode cX0_stepsToLoss 16 = .ok (.iconst 0, 1) := by decide +kernel
theorem dX0_stepsToLoss_17 : decode cX0_stepsToLoss 17 = .ok (.istore 5, 2) := by decide +kernel
theorem dX0_stepsToLoss_19 : decode cX0_stepsToLoss 19 = .ok (.iload 5, 2) := by decide +kernel
theorem dX0_stepsToLoss_21 : decode cX0_stepsToLoss 21 = .ok (.iload 4, 2) := by decide +kernel
theorem dX0_stepsToLoss_23 : decode cX0_stepsToLoss 23 = .ok (.if_icmp .gt 39, 3) := by decide +kernel
theorem dX0_stepsToLoss_26 : decode cX0_stepsToLoss 26 = .ok (.iload 5, 2) := by decide +kernel
theorem dX0_stepsToLoss_28 : decode cX0_stepsToLoss 28 = .ok (.ifCond .le 12, 3) := by decide +kernel
theorem dX0_stepsToLoss_31 : decode cX0_stepsToLoss 31 = .ok (.aload_n 0, 1) := by decide +kernel
theorem dX0_stepsToLoss_32 : decode cX0_stepsToLoss 32 = .ok (.getfield 25, 3) := by decide +kernel
theorem dX0_stepsToLoss_35 : decode cX0_stepsToLoss 35 = .ok (.iconst 0, 1) := by decide +kernel
theorem dX0_stepsToLoss_36 : decode cX0_stepsToLoss 36 = .ok (.iconst 0, 1) := by decide +kernel
theorem dX0_stepsToLoss_37 : decode cX0_stepsToLoss 37 = .ok (.invokevirtual 41, 3) := by decide +kernel
theorem dX0_stepsToLoss_40 : decode cX0_stepsToLoss 40 = .ok (.aload_n 0, 1) := by decide +kernel
theorem dX0_stepsToLoss_41 : decode cX0_stepsToLoss 41 = .ok (.getfield 25, 3) := by decide +kernel
theorem dX0_stepsToLoss_44 : decode cX0_stepsToLoss 44 = .ok (.iload_n 2, 1) := by decide +kernel
theorem dX0_stepsToLoss_45 : decode cX0_stepsToLoss 45 = .ok (.iconst 4, 1) := by decide +kernel
theorem dX0_stepsToLoss_46 : decode cX0_stepsToLoss 46 = .ok (.invokevirtual 45, 3) := by decide +kernel
theorem dX0_stepsToLoss_49 : decode cX0_stepsToLoss 49 = .ok (.iload_n 3, 1) := by decide +kernel
theorem dX0_stepsToLoss_50 : decode cX0_stepsToLoss 50 = .ok (.if_icmp .lt 6, 3) := by decide +kernel
theorem dX0_stepsToLoss_53 : decode cX0_stepsToLoss 53 = .ok (.iload 5, 2) := by decide +kernel
theorem dX0_stepsToLoss_55 : decode cX0_stepsToLoss 55 = .ok (.ireturn, 1) := by decide +kernel
theorem dX0_stepsToLoss_56 : decode cX0_stepsToLoss 56 = .ok (.iinc 5 1, 3) := by decide +kernel
theorem dX0_stepsToLoss_59 : decode cX0_stepsToLoss 59 = .ok (.goto (-40), 3) := by decide +kernel
theorem dX0_stepsToLoss_62 : decode cX0_stepsToLoss 62 = .ok (.iconst (-1), 1) := by decide +kernel
theorem dX0_stepsToLoss_63 : decode cX0_stepsToLoss 63 = .ok (.ireturn, 1) := by decide +kernel
theorem dX0_firstJam_0 : decode cX0_firstJam 0 = .ok (.aload_n 0, 1) := by decide +kernel
theorem dX0_firstJam_1 : decode cX0_firstJam 1 = .ok (.getfield 25, 3) := by decide +kernel
theorem dX0_firstJam_4 : decode cX0_firstJam 4 = .ok (.aload_n 1, 1) := by decide +kernel
theorem dX0_firstJam_5 : decode cX0_firstJam 5 = .ok (.invokevirtual 33, 3) := by decide +kernel
theorem dX0_firstJam_8 : decode cX0_firstJam 8 = .ok (.aload_n 1, 1) := by decide +kernel
theorem dX0_firstJam_9 : decode cX0_firstJam 9 = .ok (.bipush 80, 2) := by decide +kernel
theorem dX0_firstJam_11 : decode cX0_firstJam 11 = .ok (.invokevirtual 49, 3) := by decide +kernel
theorem dX0_firstJam_14 : decode cX0_firstJam 14 = .ok (.istore_n 2, 1) := by decide +kernel
theorem dX0_firstJam_15 : decode cX0_firstJam 15 = .ok (.iconst 1, 1) := by decide +kernel
theorem dX0_firstJam_16 : decode cX0_firstJam 16 = .ok (.istore_n 3, 1) := by decide +kernel
theorem dX0_firstJam_17 : decode cX0_firstJam 17 = .ok (.iload_n 3, 1) := by decide +kernel
theorem dX0_firstJam_18 : decode cX0_firstJam 18 = .ok (.iload_n 2, 1) := by decide +kernel
theorem dX0_firstJam_19 : decode cX0_firstJam 19 = .ok (.if_icmp .gt 40, 3) := by decide +kernel
theorem dX0_firstJam_22 : decode cX0_firstJam 22 = .ok (.aload_n 0, 1) := by decide +kernel
theorem dX0_firstJam_23 : decode cX0_firstJam 23 = .ok (.getfield 25, 3) := by decide +kernel
theorem dX0_firstJam_26 : decode cX0_firstJam 26 = .ok (.iconst 0, 1) := by decide +kernel
theorem dX0_firstJam_27 : decode cX0_firstJam 27 = .ok (.iconst 0, 1) := by decide +kernel
theorem dX0_firstJam_28 : decode cX0_firstJam 28 = .ok (.invokevirtual 41, 3) := by decide +kernel
theorem dX0_firstJam_31 : decode cX0_firstJam 31 = .ok (.aload_n 0, 1) := by decide +kernel
theorem dX0_firstJam_32 : decode cX0_firstJam 32 = .ok (.getfield 25, 3) := by decide +kernel
theorem dX0_firstJam_35 : decode cX0_firstJam 35 = .ok (.getfield 57, 3) := by decide +kernel
theorem dX0_firstJam_38 : decode cX0_firstJam 38 = .ok (.ifCond .le 15, 3) := by decide +kernel
theorem dX0_firstJam_41 : decode cX0_firstJam 41 = .ok (.aload_n 0, 1) := by decide +kernel
theorem dX0_firstJam_42 : decode cX0_firstJam 42 = .ok (.getfield 25, 3) := by decide +kernel
theorem dX0_firstJam_45 : decode cX0_firstJam 45 = .ok (.getfield 60, 3) := by decide +kernel
theorem dX0_firstJam_48 : decode cX0_firstJam 48 = .ok (.ifCond .ne 5, 3) := by decide +kernel
theorem dX0_firstJam_51 : decode cX0_firstJam 51 = .ok (.iload_n 3, 1) := by decide +kernel
theorem dX0_firstJam_52 : decode cX0_firstJam 52 = .ok (.ireturn, 1) := by decide +kernel
theorem dX0_firstJam_53 : decode cX0_firstJam 53 = .ok (.iinc 3 1, 3) := by decide +kernel
theorem dX0_firstJam_56 : decode cX0_firstJam 56 = .ok (.goto (-39), 3) := by decide +kernel
theorem dX0_firstJam_59 : decode cX0_firstJam 59 = .ok (.iconst (-1), 1) := by decide +kernel
theorem dX0_firstJam_60 : decode cX0_firstJam 60 = .ok (.ireturn, 1) := by decide +kernel
theorem dX0_nearest_0 : decode cX0_nearest 0 = .ok (.aload_n 0, 1) := by decide +kernel
theorem dX0_nearest_1 : decode cX0_nearest 1 = .ok (.getfield 25, 3) := by decide +kernel
theorem dX0_nearest_4 : decode cX0_nearest 4 = .ok (.aload_n 1, 1) := by decide +kernel
theorem dX0_nearest_5 : decode cX0_nearest 5 = .ok (.invokevirtual 33, 3) := by decide +kernel
theorem dX0_nearest_8 : decode cX0_nearest 8 = .ok (.aload_n 0, 1) := by decide +kernel
theorem dX0_nearest_9 : decode cX0_nearest 9 = .ok (.iload_n 2, 1) := by decide +kernel
theorem dX0_nearest_10 : decode cX0_nearest 10 = .ok (.iload_n 3, 1) := by decide +kernel
theorem dX0_nearest_11 : decode cX0_nearest 11 = .ok (.invokevirtual 63, 3) := by decide +kernel
theorem dX0_nearest_14 : decode cX0_nearest 14 = .ok (.istore 5, 2) := by decide +kernel
theorem dX0_nearest_16 : decode cX0_nearest 16 = .ok (.iconst 0, 1) := by decide +kernel
theorem dX0_nearest_17 : decode cX0_nearest 17 = .ok (.istore 6, 2) := by decide +kernel
theorem dX0_nearest_19 : decode cX0_nearest 19 = .ok (.iload 6, 2) := by decide +kernel
theorem dX0_nearest_21 : decode cX0_nearest 21 = .ok (.iload 4, 2) := by decide +kernel
theorem dX0_nearest_23 : decode cX0_nearest 23 = .ok (.if_icmp .ge 31, 3) := by decide +kernel
theorem dX0_nearest_26 : decode cX0_nearest 26 = .ok (.aload_n 0, 1) := by decide +kernel
theorem dX0_nearest_27 : decode cX0_nearest 27 = .ok (.getfield 25, 3) := by decide +kernel
theorem dX0_nearest_30 : decode cX0_nearest 30 = .ok (.iconst 0, 1) := by decide +kernel
theorem dX0_nearest_31 : decode cX0_nearest 31 = .ok (.iconst 0, 1) := by decide +kernel
theorem dX0_nearest_32 : decode cX0_nearest 32 = .ok (.invokevirtual 41, 3) := by decide +kernel
theorem dX0_nearest_35 : decode cX0_nearest 35 = .ok (.iload 5, 2) := by decide +kernel
theorem dX0_nearest_37 : decode cX0_nearest 37 = .ok (.aload_n 0, 1) := by decide +kernel
theorem dX0_nearest_38 : decode cX0_nearest 38 = .ok (.iload_n 2, 1) := by decide +kernel
theorem dX0_nearest_39 : decode cX0_nearest 39 = .ok (.iload_n 3, 1) := by decide +kernel
theorem dX0_nearest_40 : decode cX0_nearest 40 = .ok (.invokevirtual 63, 3) := by decide +kernel
theorem dX0_nearest_43 : decode cX0_nearest 43 = .ok (.invokestatic 66, 3) := by decide +kernel
theorem dX0_nearest_46 : decode cX0_nearest 46 = .ok (.istore 5, 2) := by decide +kernel
theorem dX0_nearest_48 : decode cX0_nearest 48 = .ok (.iinc 6 1, 3) := by decide +kernel
theorem dX0_nearest_51 : decode cX0_nearest 51 = .ok (.goto (-32), 3) := by decide +kernel
theorem dX0_nearest_54 : decode cX0_nearest 54 = .ok (.iload 5, 2) := by decide +kernel
theorem dX0_nearest_56 : decode cX0_nearest 56 = .ok (.ireturn, 1) := by decide +kernel
theorem dX0_distance_0 : decode cX0_distance 0 = .ok (.aload_n 0, 1) := by decide +kernel
theorem dX0_distance_1 : decode cX0_distance 1 = .ok (.getfield 25, 3) := by decide +kernel
theorem dX0_distance_4 : decode cX0_distance 4 = .ok (.iload_n 1, 1) := by decide +kernel
theorem dX0_distance_5 : decode cX0_distance 5 = .ok (.iconst 0, 1) := by decide +kernel
theorem dX0_distance_6 : decode cX0_distance 6 = .ok (.invokevirtual 45, 3) := by decide +kernel
theorem dX0_distance_9 : decode cX0_distance 9 = .ok (.aload_n 0, 1) := by decide +kernel
theorem dX0_distance_10 : decode cX0_distance 10 = .ok (.getfield 25, 3) := by decide +kernel
theorem dX0_distance_13 : decode cX0_distance 13 = .ok (.iload_n 2, 1) := by decide +kernel
theorem dX0_distance_14 : decode cX0_distance 14 = .ok (.iconst 0, 1) := by decide +kernel
theorem dX0_distance_15 : decode cX0_distance 15 = .ok (.invokevirtual 45, 3) := by decide +kernel
theorem dX0_distance_18 : decode cX0_distance 18 = .ok (.isub, 1) := by decide +kernel
theorem dX0_distance_19 : decode cX0_distance 19 = .ok (.invokestatic 71, 3) := by decide +kernel
theorem dX0_distance_22 : decode cX0_distance 22 = .ok (.aload_n 0, 1) := by decide +kernel
theorem dX0_distance_23 : decode cX0_distance 23 = .ok (.getfield 25, 3) := by decide +kernel
theorem dX0_distance_26 : decode cX0_distance 26 = .ok (.iload_n 1, 1) := by decide +kernel
theorem dX0_distance_27 : decode cX0_distance 27 = .ok (.iconst 1, 1) := by decide +kernel
theorem dX0_distance_28 : decode cX0_distance 28 = .ok (.invokevirtual 45, 3) := by decide +kernel
theorem dX0_distance_31 : decode cX0_distance 31 = .ok (.aload_n 0, 1) := by decide +kernel
theorem dX0_distance_32 : decode cX0_distance 32 = .ok (.getfield 25, 3) := by decide +kernel
theorem dX0_distance_35 : decode cX0_distance 35 = .ok (.iload_n 2, 1) := by decide +kernel
theorem dX0_distance_36 : decode cX0_distance 36 = .ok (.iconst 1, 1) := by decide +kernel
theorem dX0_distance_37 : decode cX0_distance 37 = .ok (.invokevirtual 45, 3) := by decide +kernel
theorem dX0_distance_40 : decode cX0_distance 40 = .ok (.isub, 1) := by decide +kernel
theorem dX0_distance_41 : decode cX0_distance 41 = .ok (.invokestatic 71, 3) := by decide +kernel
theorem dX0_distance_44 : decode cX0_distance 44 = .ok (.iadd, 1) := by decide +kernel
theorem dX0_distance_45 : decode cX0_distance 45 = .ok (.ireturn, 1) := by decide +kernel
theorem dX0_bestEyes_0 : decode cX0_bestEyes 0 = .ok (.iconst (-1), 1) := by decide +kernel
theorem dX0_bestEyes_1 : decode cX0_bestEyes 1 = .ok (.istore 5, 2) := by decide +kernel
theorem dX0_bestEyes_3 : decode cX0_bestEyes 3 = .ok (.iconst 0, 1) := by decide +kernel
theorem dX0_bestEyes_4 : decode cX0_bestEyes 4 = .ok (.istore 6, 2) := by decide +kernel
theorem dX0_bestEyes_6 : decode cX0_bestEyes 6 = .ok (.iconst 0, 1) := by decide +kernel
theorem dX0_bestEyes_7 : decode cX0_bestEyes 7 = .ok (.istore 7, 2) := by decide +kernel
theorem dX0_bestEyes_9 : decode cX0_bestEyes 9 = .ok (.iconst 0, 1) := by decide +kernel
theorem dX0_bestEyes_10 : decode cX0_bestEyes 10 = .ok (.istore 8, 2) := by decide +kernel
theorem dX0_bestEyes_12 : decode cX0_bestEyes 12 = .ok (.iload 8, 2) := by decide +kernel
theorem dX0_bestEyes_14 : decode cX0_bestEyes 14 = .ok (.iconst 2, 1) := by decide +kernel
theorem dX0_bestEyes_15 : decode cX0_bestEyes 15 = .ok (.if_icmp .gt 82, 3) := by decide +kernel
theorem dX0_bestEyes_18 : decode cX0_bestEyes 18 = .ok (.iconst 0, 1) := by decide +kernel
theorem dX0_bestEyes_19 : decode cX0_bestEyes 19 = .ok (.istore 9, 2) := by decide +kernel
theorem dX0_bestEyes_21 : decode cX0_bestEyes 21 = .ok (.iload 9, 2) := by decide +kernel
theorem dX0_bestEyes_23 : decode cX0_bestEyes 23 = .ok (.iconst 3, 1) := by decide +kernel
theorem dX0_bestEyes_24 : decode cX0_bestEyes 24 = .ok (.if_icmp .gt 67, 3) := by decide +kernel
theorem dX0_bestEyes_27 : decode cX0_bestEyes 27 = .ok (.aload_n 0, 1) := by decide +kernel
theorem dX0_bestEyes_28 : decode cX0_bestEyes 28 = .ok (.getfield 25, 3) := by decide +kernel
theorem dX0_bestEyes_31 : decode cX0_bestEyes 31 = .ok (.aload_n 1, 1) := by decide +kernel
theorem dX0_bestEyes_32 : decode cX0_bestEyes 32 = .ok (.invokevirtual 33, 3) := by decide +kernel
theorem dX0_bestEyes_35 : decode cX0_bestEyes 35 = .ok (.aload_n 0, 1) := by decide +kernel
theorem dX0_bestEyes_36 : decode cX0_bestEyes 36 = .ok (.getfield 25, 3) := by decide +kernel
theorem dX0_bestEyes_39 : decode cX0_bestEyes 39 = .ok (.iload_n 2, 1) := by decide +kernel
theorem dX0_bestEyes_40 : decode cX0_bestEyes 40 = .ok (.iconst 5, 1) := by decide +kernel
theorem dX0_bestEyes_41 : decode cX0_bestEyes 41 = .ok (.iload 8, 2) := by decide +kernel
theorem dX0_bestEyes_43 : decode cX0_bestEyes 43 = .ok (.invokevirtual 37, 3) := by decide +kernel
theorem dX0_bestEyes_46 : decode cX0_bestEyes 46 = .ok (.aload_n 0, 1) := by decide +kernel
theorem dX0_bestEyes_47 : decode cX0_bestEyes 47 = .ok (.getfield 25, 3) := by decide +kernel
theorem dX0_bestEyes_50 : decode cX0_bestEyes 50 = .ok (.iload_n 2, 1) := by decide +kernel
theorem dX0_bestEyes_51 : decode cX0_bestEyes 51 = .ok (.bipush 6, 2) := by decide +kernel
theorem dX0_bestEyes_53 : decode cX0_bestEyes 53 = .ok (.iload 9, 2) := by decide +kernel
theorem dX0_bestEyes_55 : decode cX0_bestEyes 55 = .ok (.invokevirtual 37, 3) := by decide +kernel
theorem dX0_bestEyes_58 : decode cX0_bestEyes 58 = .ok (.aload_n 0, 1) := by decide +kernel
theorem dX0_bestEyes_59 : decode cX0_bestEyes 59 = .ok (.iload_n 2, 1) := by decide +kernel
theorem dX0_bestEyes_60 : decode cX0_bestEyes 60 = .ok (.iload_n 3, 1) := by decide +kernel
theorem dX0_bestEyes_61 : decode cX0_bestEyes 61 = .ok (.invokevirtual 74, 3) := by decide +kernel
theorem dX0_bestEyes_64 : decode cX0_bestEyes 64 = .ok (.istore 10, 2) := by decide +kernel
theorem dX0_bestEyes_66 : decode cX0_bestEyes 66 = .ok (.iload 10, 2) := by decide +kernel
theorem dX0_bestEyes_68 : decode cX0_bestEyes 68 = .ok (.iload 5, 2) := by decide +kernel
theorem dX0_bestEyes_70 : decode cX0_bestEyes 70 = .ok (.if_icmp .le 15, 3) := by decide +kernel
theorem dX0_bestEyes_73 : decode cX0_bestEyes 73 = .ok (.iload 10, 2) := by decide +kernel
theorem dX0_bestEyes_75 : decode cX0_bestEyes 75 = .ok (.istore 5, 2) := by decide +kernel
theorem dX0_bestEyes_77 : decode cX0_bestEyes 77 = .ok (.iload 8, 2) := by decide +kernel
theorem dX0_bestEyes_79 : decode cX0_bestEyes 79 = .ok (.istore 6, 2) := by decide +kernel
theorem dX0_bestEyes_81 : decode cX0_bestEyes 81 = .ok (.iload 9, 2) := by decide +kernel
theorem dX0_bestEyes_83 : decode cX0_bestEyes 83 = .ok (.istore 7, 2) := by decide +kernel
theorem dX0_bestEyes_85 : decode cX0_bestEyes 85 = .ok (.iinc 9 1, 3) := by decide +kernel
theorem dX0_bestEyes_88 : decode cX0_bestEyes 88 = .ok (.goto (-67), 3) := by decide +kernel
theorem dX0_bestEyes_91 : decode cX0_bestEyes 91 = .ok (.iinc 8 1, 3) := by decide +kernel
theorem dX0_bestEyes_94 : decode cX0_bestEyes 94 = .ok (.goto (-82), 3) := by decide +kernel
theorem dX0_bestEyes_97 : decode cX0_bestEyes 97 = .ok (.iload 4, 2) := by decide +kernel
theorem dX0_bestEyes_99 : decode cX0_bestEyes 99 = .ok (.ifCond .ne 6, 3) := by decide +kernel
theorem dX0_bestEyes_102 : decode cX0_bestEyes 102 = .ok (.iload 6, 2) := by decide +kernel
theorem dX0_bestEyes_104 : decode cX0_bestEyes 104 = .ok (.ireturn, 1) := by decide +kernel
theorem dX0_bestEyes_105 : decode cX0_bestEyes 105 = .ok (.iload 4, 2) := by decide +kernel
theorem dX0_bestEyes_107 : decode cX0_bestEyes 107 = .ok (.iconst 1, 1) := by decide +kernel
theorem dX0_bestEyes_108 : decode cX0_bestEyes 108 = .ok (.if_icmp .ne 8, 3) := by decide +kernel
theorem dX0_bestEyes_111 : decode cX0_bestEyes 111 = .ok (.iload 7, 2) := by decide +kernel
theorem dX0_bestEyes_113 : decode cX0_bestEyes 113 = .ok (.goto 5, 3) := by decide +kernel
theorem dX0_bestEyes_116 : decode cX0_bestEyes 116 = .ok (.iload 5, 2) := by decide +kernel
theorem dX0_bestEyes_118 : decode cX0_bestEyes 118 = .ok (.ireturn, 1) := by decide +kernel
theorem dX0_blackSteps_0 : decode cX0_blackSteps 0 = .ok (.iconst 0, 1) := by decide +kernel
theorem dX0_blackSteps_1 : decode cX0_blackSteps 1 = .ok (.istore_n 3, 1) := by decide +kernel
theorem dX0_blackSteps_2 : decode cX0_blackSteps 2 = .ok (.iconst 0, 1) := by decide +kernel
theorem dX0_blackSteps_3 : decode cX0_blackSteps 3 = .ok (.istore 4, 2) := by decide +kernel
theorem dX0_blackSteps_5 : decode cX0_blackSteps 5 = .ok (.iload 4, 2) := by decide +kernel
theorem dX0_blackSteps_7 : decode cX0_blackSteps 7 = .ok (.iload_n 2, 1) := by decide +kernel
theorem dX0_blackSteps_8 : decode cX0_blackSteps 8 = .ok (.if_icmp .ge 37, 3) := by decide +kernel
theorem dX0_blackSteps_11 : decode cX0_blackSteps 11 = .ok (.aload_n 0, 1) := by decide +kernel
theorem dX0_blackSteps_12 : decode cX0_blackSteps 12 = .ok (.getfield 25, 3) := by decide +kernel
theorem dX0_blackSteps_15 : decode cX0_blackSteps 15 = .ok (.iconst 0, 1) := by decide +kernel
theorem dX0_blackSteps_16 : decode cX0_blackSteps 16 = .ok (.iconst 0, 1) := by decide +kernel
theorem dX0_blackSteps_17 : decode cX0_blackSteps 17 = .ok (.invokevirtual 41, 3) := by decide +kernel
theorem dX0_blackSteps_20 : decode cX0_blackSteps 20 = .ok (.iload_n 3, 1) := by decide +kernel
theorem dX0_blackSteps_21 : decode cX0_blackSteps 21 = .ok (.aload_n 0, 1) := by decide +kernel
theorem dX0_blackSteps_22 : decode cX0_blackSteps 22 = .ok (.getfield 25, 3) := by decide +kernel
theorem dX0_blackSteps_25 : decode cX0_blackSteps 25 = .ok (.iload_n 1, 1) := by decide +kernel
theorem dX0_blackSteps_26 : decode cX0_blackSteps 26 = .ok (.invokevirtual 77, 3) := by decide +kernel
theorem dX0_blackSteps_29 : decode cX0_blackSteps 29 = .ok (.ifCond .eq 7, 3) := by decide +kernel
theorem dX0_blackSteps_32 : decode cX0_blackSteps 32 = .ok (.iconst 1, 1) := by decide +kernel
theorem dX0_blackSteps_33 : decode cX0_blackSteps 33 = .ok (.goto 4, 3) := by decide +kernel
theorem dX0_blackSteps_36 : decode cX0_blackSteps 36 = .ok (.iconst 0, 1) := by decide +kernel
theorem dX0_blackSteps_37 : decode cX0_blackSteps 37 = .ok (.iadd, 1) := by decide +kernel
theorem dX0_blackSteps_38 : decode cX0_blackSteps 38 = .ok (.istore_n 3, 1) := by decide +kernel
theorem dX0_blackSteps_39 : decode cX0_blackSteps 39 = .ok (.iinc 4 1, 3) := by decide +kernel
theorem dX0_blackSteps_42 : decode cX0_blackSteps 42 = .ok (.goto (-37), 3) := by decide +kernel
theorem dX0_blackSteps_45 : decode cX0_blackSteps 45 = .ok (.iload_n 3, 1) := by decide +kernel
theorem dX0_blackSteps_46 : decode cX0_blackSteps 46 = .ok (.ireturn, 1) := by decide +kernel
theorem dX0_fewestMoves_0 : decode cX0_fewestMoves 0 = .ok (.aload_n 0, 1) := by decide +kernel
theorem dX0_fewestMoves_1 : decode cX0_fewestMoves 1 = .ok (.getfield 13, 3) := by decide +kernel
theorem dX0_fewestMoves_4 : decode cX0_fewestMoves 4 = .ok (.iconst (-1), 1) := by decide +kernel
theorem dX0_fewestMoves_5 : decode cX0_fewestMoves 5 = .ok (.invokestatic 81, 3) := by decide +kernel
theorem dX0_fewestMoves_8 : decode cX0_fewestMoves 8 = .ok (.aload_n 0, 1) := by decide +kernel
theorem dX0_fewestMoves_9 : decode cX0_fewestMoves 9 = .ok (.iconst 0, 1) := by decide +kernel
theorem dX0_fewestMoves_10 : decode cX0_fewestMoves 10 = .ok (.putfield 29, 3) := by decide +kernel
theorem dX0_fewestMoves_13 : decode cX0_fewestMoves 13 = .ok (.aload_n 0, 1) := by decide +kernel
theorem dX0_fewestMoves_14 : decode cX0_fewestMoves 14 = .ok (.aload_n 1, 1) := by decide +kernel
theorem dX0_fewestMoves_15 : decode cX0_fewestMoves 15 = .ok (.iload_n 2, 1) := by decide +kernel
theorem dX0_fewestMoves_16 : decode cX0_fewestMoves 16 = .ok (.iconst 0, 1) := by decide +kernel
theorem dX0_fewestMoves_17 : decode cX0_fewestMoves 17 = .ok (.invokevirtual 45, 3) := by decide +kernel
theorem dX0_fewestMoves_20 : decode cX0_fewestMoves 20 = .ok (.aload_n 1, 1) := by decide +kernel
theorem dX0_fewestMoves_21 : decode cX0_fewestMoves 21 = .ok (.iload_n 2, 1) := by decide +kernel
theorem dX0_fewestMoves_22 : decode cX0_fewestMoves 22 = .ok (.iconst 1, 1) := by decide +kernel
theorem dX0_fewestMoves_23 : decode cX0_fewestMoves 23 = .ok (.invokevirtual 45, 3) := by decide +kernel
theorem dX0_fewestMoves_26 : decode cX0_fewestMoves 26 = .ok (.aload_n 1, 1) := by decide +kernel
theorem dX0_fewestMoves_27 : decode cX0_fewestMoves 27 = .ok (.iload_n 2, 1) := by decide +kernel
theorem dX0_fewestMoves_28 : decode cX0_fewestMoves 28 = .ok (.iconst 2, 1) := by decide +kernel
theorem dX0_fewestMoves_29 : decode cX0_fewestMoves 29 = .ok (.invokevirtual 45, 3) := by decide +kernel
theorem dX0_fewestMoves_32 : decode cX0_fewestMoves 32 = .ok (.iconst 0, 1) := by decide +kernel
theorem dX0_fewestMoves_33 : decode cX0_fewestMoves 33 = .ok (.invokevirtual 87, 3) := by decide +kernel
theorem dX0_fewestMoves_36 : decode cX0_fewestMoves 36 = .ok (.iconst 0, 1) := by decide +kernel
theorem dX0_fewestMoves_37 : decode cX0_fewestMoves 37 = .ok (.istore_n 3, 1) := by decide +kernel
theorem dX0_fewestMoves_38 : decode cX0_fewestMoves 38 = .ok (.iload_n 3, 1) := by decide +kernel
theorem dX0_fewestMoves_39 : decode cX0_fewestMoves 39 = .ok (.aload_n 0, 1) := by decide +kernel
theorem dX0_fewestMoves_40 : decode cX0_fewestMoves 40 = .ok (.getfield 29, 3) := by decide +kernel
theorem dX0_fewestMoves_43 : decode cX0_fewestMoves 43 = .ok (.if_icmp .ge 178, 3) := by decide +kernel
theorem dX0_fewestMoves_46 : decode cX0_fewestMoves 46 = .ok (.iload_n 3, 1) := by decide +kernel
theorem dX0_fewestMoves_47 : decode cX0_fewestMoves 47 = .ok (.sipush 324, 3) := by decide +kernel
theorem dX0_fewestMoves_50 : decode cX0_fewestMoves 50 = .ok (.if_icmp .ge 171, 3) := by decide +kernel
theorem dX0_fewestMoves_53 : decode cX0_fewestMoves 53 = .ok (.aload_n 0, 1) := by decide +kernel
theorem dX0_fewestMoves_54 : decode cX0_fewestMoves 54 = .ok (.getfield 17, 3) := by decide +kernel
theorem dX0_fewestMoves_57 : decode cX0_fewestMoves 57 = .ok (.iload_n 3, 1) := by decide +kernel
theorem dX0_fewestMoves_58 : decode cX0_fewestMoves 58 = .ok (.iaload, 1) := by decide +kernel
theorem dX0_fewestMoves_59 : decode cX0_fewestMoves 59 = .ok (.istore 4, 2) := by decide +kernel
theorem dX0_fewestMoves_61 : decode cX0_fewestMoves 61 = .ok (.iload 4, 2) := by decide +kernel
theorem dX0_fewestMoves_63 : decode cX0_fewestMoves 63 = .ok (.iconst 3, 1) := by decide +kernel
theorem dX0_fewestMoves_64 : decode cX0_fewestMoves 64 = .ok (.iand, 1) := by decide +kernel
theorem dX0_fewestMoves_65 : decode cX0_fewestMoves 65 = .ok (.istore 5, 2) := by decide +kernel
theorem dX0_fewestMoves_67 : decode cX0_fewestMoves 67 = .ok (.iload 4, 2) := by decide +kernel
theorem dX0_fewestMoves_69 : decode cX0_fewestMoves 69 = .ok (.iconst 2, 1) := by decide +kernel
theorem dX0_fewestMoves_70 : decode cX0_fewestMoves 70 = .ok (.ishr, 1) := by decide +kernel
theorem dX0_fewestMoves_71 : decode cX0_fewestMoves 71 = .ok (.bipush 9, 2) := by decide +kernel
theorem dX0_fewestMoves_73 : decode cX0_fewestMoves 73 = .ok (.irem, 1) := by decide +kernel
theorem dX0_fewestMoves_74 : decode cX0_fewestMoves 74 = .ok (.istore 6, 2) := by decide +kernel
theorem dX0_fewestMoves_76 : decode cX0_fewestMoves 76 = .ok (.iload 4, 2) := by decide +kernel
theorem dX0_fewestMoves_78 : decode cX0_fewestMoves 78 = .ok (.iconst 2, 1) := by decide +kernel
theorem dX0_fewestMoves_79 : decode cX0_fewestMoves 79 = .ok (.ishr, 1) := by decide +kernel
theorem dX0_fewestMoves_80 : decode cX0_fewestMoves 80 = .ok (.bipush 9, 2) := by decide +kernel
theorem dX0_fewestMoves_82 : decode cX0_fewestMoves 82 = .ok (.idiv, 1) := by decide +kernel
theorem dX0_fewestMoves_83 : decode cX0_fewestMoves 83 = .ok (.istore 7, 2) := by decide +kernel
theorem dX0_fewestMoves_85 : decode cX0_fewestMoves 85 = .ok (.aload_n 1, 1) := by decide +kernel
theorem dX0_fewestMoves_86 : decode cX0_fewestMoves 86 = .ok (.iload 6, 2) := by decide +kernel
theorem dX0_fewestMoves_88 : decode cX0_fewestMoves 88 = .ok (.iload 7, 2) := by decide +kernel
theorem dX0_fewestMoves_90 : decode cX0_fewestMoves 90 = .ok (.invokevirtual 91, 3) := by decide +kernel
theorem dX0_fewestMoves_93 : decode cX0_fewestMoves 93 = .ok (.ifCond .eq 11, 3) := by decide +kernel
theorem dX0_fewestMoves_96 : decode cX0_fewestMoves 96 = .ok (.aload_n 0, 1) := by decide +kernel
theorem dX0_fewestMoves_97 : decode cX0_fewestMoves 97 = .ok (.getfield 13, 3) := by decide +kernel
theorem dX0_fewestMoves_100 : decode cX0_fewestMoves 100 = .ok (.iload 4, 2) := by decide +kernel
theorem dX0_fewestMoves_102 : decode cX0_fewestMoves 102 = .ok (.iaload, 1) := by decide +kernel
theorem dX0_fewestMoves_103 : decode cX0_fewestMoves 103 = .ok (.ireturn, 1) := by decide +kernel
theorem dX0_fewestMoves_104 : decode cX0_fewestMoves 104 = .ok (.aload_n 0, 1) := by decide +kernel
theorem dX0_fewestMoves_105 : decode cX0_fewestMoves 105 = .ok (.getfield 13, 3) := by decide +kernel
theorem dX0_fewestMoves_108 : decode cX0_fewestMoves 108 = .ok (.iload 4, 2) := by decide +kernel
theorem dX0_fewestMoves_110 : decode cX0_fewestMoves 110 = .ok (.iaload, 1) := by decide +kernel
theorem dX0_fewestMoves_111 : decode cX0_fewestMoves 111 = .ok (.iconst 1, 1) := by decide +kernel
theorem dX0_fewestMoves_112 : decode cX0_fewestMoves 112 = .ok (.iadd, 1) := by decide +kernel
theorem dX0_fewestMoves_113 : decode cX0_fewestMoves 113 = .ok (.istore 8, 2) := by decide +kernel
theorem dX0_fewestMoves_115 : decode cX0_fewestMoves 115 = .ok (.aload_n 0, 1) := by decide +kernel
theorem dX0_fewestMoves_116 : decode cX0_fewestMoves 116 = .ok (.iload 6, 2) := by decide +kernel
theorem dX0_fewestMoves_118 : decode cX0_fewestMoves 118 = .ok (.iload 7, 2) := by decide +kernel
theorem dX0_fewestMoves_120 : decode cX0_fewestMoves 120 = .ok (.iload 5, 2) := by decide +kernel
theorem dX0_fewestMoves_122 : decode cX0_fewestMoves 122 = .ok (.iconst 3, 1) := by decide +kernel
theorem dX0_fewestMoves_123 : decode cX0_fewestMoves 123 = .ok (.iadd, 1) := by decide +kernel
theorem dX0_fewestMoves_124 : decode cX0_fewestMoves 124 = .ok (.iconst 3, 1) := by decide +kernel
theorem dX0_fewestMoves_125 : decode cX0_fewestMoves 125 = .ok (.iand, 1) := by decide +kernel
theorem dX0_fewestMoves_126 : decode cX0_fewestMoves 126 = .ok (.iload 8, 2) := by decide +kernel
theorem dX0_fewestMoves_128 : decode cX0_fewestMoves 128 = .ok (.invokevirtual 87, 3) := by decide +kernel
theorem dX0_fewestMoves_131 : decode cX0_fewestMoves 131 = .ok (.aload_n 0, 1) := by decide +kernel
theorem dX0_fewestMoves_132 : decode cX0_fewestMoves 132 = .ok (.iload 6, 2) := by decide +kernel
theorem dX0_fewestMoves_134 : decode cX0_fewestMoves 134 = .ok (.iload 7, 2) := by decide +kernel
theorem dX0_fewestMoves_136 : decode cX0_fewestMoves 136 = .ok (.iload 5, 2) := by decide +kernel
theorem dX0_fewestMoves_138 : decode cX0_fewestMoves 138 = .ok (.iconst 1, 1) := by decide +kernel
theorem dX0_fewestMoves_139 : decode cX0_fewestMoves 139 = .ok (.iadd, 1) := by decide +kernel
theorem dX0_fewestMoves_140 : decode cX0_fewestMoves 140 = .ok (.iconst 3, 1) := by decide +kernel
theorem dX0_fewestMoves_141 : decode cX0_fewestMoves 141 = .ok (.iand, 1) := by decide +kernel
theorem dX0_fewestMoves_142 : decode cX0_fewestMoves 142 = .ok (.iload 8, 2) := by decide +kernel
theorem dX0_fewestMoves_144 : decode cX0_fewestMoves 144 = .ok (.invokevirtual 87, 3) := by decide +kernel
theorem dX0_fewestMoves_147 : decode cX0_fewestMoves 147 = .ok (.iload 6, 2) := by decide +kernel
theorem dX0_fewestMoves_149 : decode cX0_fewestMoves 149 = .ok (.iload 5, 2) := by decide +kernel
theorem dX0_fewestMoves_151 : decode cX0_fewestMoves 151 = .ok (.invokestatic 95, 3) := by decide +kernel
theorem dX0_fewestMoves_154 : decode cX0_fewestMoves 154 = .ok (.iadd, 1) := by decide +kernel
theorem dX0_fewestMoves_155 : decode cX0_fewestMoves 155 = .ok (.istore 9, 2) := by decide +kernel
theorem dX0_fewestMoves_157 : decode cX0_fewestMoves 157 = .ok (.iload 7, 2) := by decide +kernel
theorem dX0_fewestMoves_159 : decode cX0_fewestMoves 159 = .ok (.iload 5, 2) := by decide +kernel
theorem dX0_fewestMoves_161 : decode cX0_fewestMoves 161 = .ok (.invokestatic 98, 3) := by decide +kernel
theorem dX0_fewestMoves_164 : decode cX0_fewestMoves 164 = .ok (.iadd, 1) := by decide +kernel
theorem dX0_fewestMoves_165 : decode cX0_fewestMoves 165 = .ok (.istore 10, 2) := by decide +kernel
theorem dX0_fewestMoves_167 : decode cX0_fewestMoves 167 = .ok (.aload_n 1, 1) := by decide +kernel
theorem dX0_fewestMoves_168 : decode cX0_fewestMoves 168 = .ok (.iload 9, 2) := by decide +kernel
theorem dX0_fewestMoves_170 : decode cX0_fewestMoves 170 = .ok (.iload 10, 2) := by decide +kernel
theorem dX0_fewestMoves_172 : decode cX0_fewestMoves 172 = .ok (.invokevirtual 101, 3) := by decide +kernel
theorem dX0_fewestMoves_175 : decode cX0_fewestMoves 175 = .ok (.istore 11, 2) := by decide +kernel
theorem dX0_fewestMoves_177 : decode cX0_fewestMoves 177 = .ok (.aload_n 1, 1) := by decide +kernel
theorem dX0_fewestMoves_178 : decode cX0_fewestMoves 178 = .ok (.getfield 104, 3) := by decide +kernel
theorem dX0_fewestMoves_181 : decode cX0_fewestMoves 181 = .ok (.iload 9, 2) := by decide +kernel
theorem dX0_fewestMoves_183 : decode cX0_fewestMoves 183 = .ok (.iload 10, 2) := by decide +kernel
theorem dX0_fewestMoves_185 : decode cX0_fewestMoves 185 = .ok (.invokevirtual 108, 3) := by decide +kernel
theorem dX0_fewestMoves_188 : decode cX0_fewestMoves 188 = .ok (.ifCond .eq 27, 3) := by decide +kernel
theorem dX0_fewestMoves_191 : decode cX0_fewestMoves 191 = .ok (.iload 11, 2) := by decide +kernel
theorem dX0_fewestMoves_193 : decode cX0_fewestMoves 193 = .ok (.iconst (-1), 1) := by decide +kernel
theorem dX0_fewestMoves_194 : decode cX0_fewestMoves 194 = .ok (.if_icmp .eq 9, 3) := by decide +kernel
theorem dX0_fewestMoves_197 : decode cX0_fewestMoves 197 = .ok (.iload 11, 2) := by decide +kernel
theorem dX0_fewestMoves_199 : decode cX0_fewestMoves 199 = .ok (.iload_n 2, 1) := by decide +kernel
theorem dX0_fewestMoves_200 : decode cX0_fewestMoves 200 = .ok (.if_icmp .ne 15, 3) := by decide +kernel
theorem dX0_fewestMoves_203 : decode cX0_fewestMoves 203 = .ok (.aload_n 0, 1) := by decide +kernel
theorem dX0_fewestMoves_204 : decode cX0_fewestMoves 204 = .ok (.iload 9, 2) := by decide +kernel
theorem dX0_fewestMoves_206 : decode cX0_fewestMoves 206 = .ok (.iload 10, 2) := by decide +kernel
theorem dX0_fewestMoves_208 : decode cX0_fewestMoves 208 = .ok (.iload 5, 2) := by decide +kernel
theorem dX0_fewestMoves_210 : decode cX0_fewestMoves 210 = .ok (.iload 8, 2) := by decide +kernel
theorem dX0_fewestMoves_212 : decode cX0_fewestMoves 212 = .ok (.invokevirtual 87, 3) := by decide +kernel
theorem dX0_fewestMoves_215 : decode cX0_fewestMoves 215 = .ok (.iinc 3 1, 3) := by decide +kernel
theorem dX0_fewestMoves_218 : decode cX0_fewestMoves 218 = .ok (.goto (-180), 3) := by decide +kernel
theorem dX0_fewestMoves_221 : decode cX0_fewestMoves 221 = .ok (.iconst (-1), 1) := by decide +kernel
theorem dX0_fewestMoves_222 : decode cX0_fewestMoves 222 = .ok (.ireturn, 1) := by decide +kernel
theorem dX0_reach_0 : decode cX0_reach 0 = .ok (.iconst 4, 1) := by decide +kernel
theorem dX0_reach_1 : decode cX0_reach 1 = .ok (.iload_n 2, 1) := by decide +kernel
theorem dX0_reach_2 : decode cX0_reach 2 = .ok (.bipush 9, 2) := by decide +kernel
theorem dX0_reach_4 : decode cX0_reach 4 = .ok (.imul, 1) := by decide +kernel
theorem dX0_reach_5 : decode cX0_reach 5 = .ok (.iload_n 1, 1) := by decide +kernel
theorem dX0_reach_6 : decode cX0_reach 6 = .ok (.iadd, 1) := by decide +kernel
theorem dX0_reach_7 : decode cX0_reach 7 = .ok (.imul, 1) := by decide +kernel
theorem dX0_reach_8 : decode cX0_reach 8 = .ok (.iload_n 3, 1) := by decide +kernel
theorem dX0_reach_9 : decode cX0_reach 9 = .ok (.iadd, 1) := by decide +kernel
theorem dX0_reach_10 : decode cX0_reach 10 = .ok (.istore 5, 2) := by decide +kernel
theorem dX0_reach_12 : decode cX0_reach 12 = .ok (.iload 5, 2) := by decide +kernel
theorem dX0_reach_14 : decode cX0_reach 14 = .ok (.ifCond .lt 62, 3) := by decide +kernel
theorem dX0_reach_17 : decode cX0_reach 17 = .ok (.iload 5, 2) := by decide +kernel
theorem dX0_reach_19 : decode cX0_reach 19 = .ok (.sipush 324, 3) := by decide +kernel
theorem dX0_reach_22 : decode cX0_reach 22 = .ok (.if_icmp .ge 54, 3) := by decide +kernel
theorem dX0_reach_25 : decode cX0_reach 25 = .ok (.aload_n 0, 1) := by decide +kernel
theorem dX0_reach_26 : decode cX0_reach 26 = .ok (.getfield 29, 3) := by decide +kernel
theorem dX0_reach_29 : decode cX0_reach 29 = .ok (.sipush 324, 3) := by decide +kernel
theorem dX0_reach_32 : decode cX0_reach 32 = .ok (.if_icmp .ge 44, 3) := by decide +kernel
theorem dX0_reach_35 : decode cX0_reach 35 = .ok (.aload_n 0, 1) := by decide +kernel
theorem dX0_reach_36 : decode cX0_reach 36 = .ok (.getfield 13, 3) := by decide +kernel
theorem dX0_reach_39 : decode cX0_reach 39 = .ok (.iload 5, 2) := by decide +kernel
theorem dX0_reach_41 : decode cX0_reach 41 = .ok (.iaload, 1) := by decide +kernel
theorem dX0_reach_42 : decode cX0_reach 42 = .ok (.iconst (-1), 1) := by decide +kernel
theorem dX0_reach_43 : decode cX0_reach 43 = .ok (.if_icmp .ne 33, 3) := by decide +kernel
theorem dX0_reach_46 : decode cX0_reach 46 = .ok (.aload_n 0, 1) := by decide +kernel
theorem dX0_reach_47 : decode cX0_reach 47 = .ok (.getfield 13, 3) := by decide +kernel
theorem dX0_reach_50 : decode cX0_reach 50 = .ok (.iload 5, 2) := by decide +kernel
theorem dX0_reach_52 : decode cX0_reach 52 = .ok (.iload 4, 2) := by decide +kernel
theorem dX0_reach_54 : decode cX0_reach 54 = .ok (.iastore, 1) := by decide +kernel
theorem dX0_reach_55 : decode cX0_reach 55 = .ok (.aload_n 0, 1) := by decide +kernel
theorem dX0_reach_56 : decode cX0_reach 56 = .ok (.getfield 17, 3) := by decide +kernel
theorem dX0_reach_59 : decode cX0_reach 59 = .ok (.aload_n 0, 1) := by decide +kernel
theorem dX0_reach_60 : decode cX0_reach 60 = .ok (.getfield 29, 3) := by decide +kernel
theorem dX0_reach_63 : decode cX0_reach 63 = .ok (.iload 5, 2) := by decide +kernel
theorem dX0_reach_65 : decode cX0_reach 65 = .ok (.iastore, 1) := by decide +kernel
theorem dX0_reach_66 : decode cX0_reach 66 = .ok (.aload_n 0, 1) := by decide +kernel
theorem dX0_reach_67 : decode cX0_reach 67 = .ok (.dup, 1) := by decide +kernel
theorem dX0_reach_68 : decode cX0_reach 68 = .ok (.getfield 29, 3) := by decide +kernel
theorem dX0_reach_71 : decode cX0_reach 71 = .ok (.iconst 1, 1) := by decide +kernel
theorem dX0_reach_72 : decode cX0_reach 72 = .ok (.iadd, 1) := by decide +kernel
theorem dX0_reach_73 : decode cX0_reach 73 = .ok (.putfield 29, 3) := by decide +kernel
theorem dX0_reach_76 : decode cX0_reach 76 = .ok (.return_, 1) := by decide +kernel
theorem dX0_leastDelay_0 : decode cX0_leastDelay 0 = .ok (.iconst 0, 1) := by decide +kernel
theorem dX0_leastDelay_1 : decode cX0_leastDelay 1 = .ok (.istore_n 3, 1) := by decide +kernel
theorem dX0_leastDelay_2 : decode cX0_leastDelay 2 = .ok (.iload_n 3, 1) := by decide +kernel
theorem dX0_leastDelay_3 : decode cX0_leastDelay 3 = .ok (.bipush 9, 2) := by decide +kernel
theorem dX0_leastDelay_5 : decode cX0_leastDelay 5 = .ok (.if_icmp .gt 74, 3) := by decide +kernel
theorem dX0_leastDelay_8 : decode cX0_leastDelay 8 = .ok (.aload_n 0, 1) := by decide +kernel
theorem dX0_leastDelay_9 : decode cX0_leastDelay 9 = .ok (.getfield 25, 3) := by decide +kernel
theorem dX0_leastDelay_12 : decode cX0_leastDelay 12 = .ok (.aload_n 1, 1) := by decide +kernel
theorem dX0_leastDelay_13 : decode cX0_leastDelay 13 = .ok (.invokevirtual 33, 3) := by decide +kernel
theorem dX0_leastDelay_16 : decode cX0_leastDelay 16 = .ok (.iconst 1, 1) := by decide +kernel
theorem dX0_leastDelay_17 : decode cX0_leastDelay 17 = .ok (.istore 4, 2) := by decide +kernel
theorem dX0_leastDelay_19 : decode cX0_leastDelay 19 = .ok (.iconst 0, 1) := by decide +kernel
theorem dX0_leastDelay_20 : decode cX0_leastDelay 20 = .ok (.istore 5, 2) := by decide +kernel
theorem dX0_leastDelay_22 : decode cX0_leastDelay 22 = .ok (.iload 5, 2) := by decide +kernel
theorem dX0_leastDelay_24 : decode cX0_leastDelay 24 = .ok (.iload_n 2, 1) := by decide +kernel
theorem dX0_leastDelay_25 : decode cX0_leastDelay 25 = .ok (.if_icmp .ge 41, 3) := by decide +kernel
theorem dX0_leastDelay_28 : decode cX0_leastDelay 28 = .ok (.iload 4, 2) := by decide +kernel
theorem dX0_leastDelay_30 : decode cX0_leastDelay 30 = .ok (.ifCond .eq 36, 3) := by decide +kernel
theorem dX0_leastDelay_33 : decode cX0_leastDelay 33 = .ok (.aload_n 0, 1) := by decide +kernel
theorem dX0_leastDelay_34 : decode cX0_leastDelay 34 = .ok (.getfield 25, 3) := by decide +kernel
theorem dX0_leastDelay_37 : decode cX0_leastDelay 37 = .ok (.iload 5, 2) := by decide +kernel
theorem dX0_leastDelay_39 : decode cX0_leastDelay 39 = .ok (.iload_n 3, 1) := by decide +kernel
theorem dX0_leastDelay_40 : decode cX0_leastDelay 40 = .ok (.invokevirtual 41, 3) := by decide +kernel
theorem dX0_leastDelay_43 : decode cX0_leastDelay 43 = .ok (.aload_n 0, 1) := by decide +kernel
theorem dX0_leastDelay_44 : decode cX0_leastDelay 44 = .ok (.getfield 25, 3) := by decide +kernel
theorem dX0_leastDelay_47 : decode cX0_leastDelay 47 = .ok (.getfield 57, 3) := by decide +kernel
theorem dX0_leastDelay_50 : decode cX0_leastDelay 50 = .ok (.ifCond .ne 7, 3) := by decide +kernel
theorem dX0_leastDelay_53 : decode cX0_leastDelay 53 = .ok (.iconst 1, 1) := by decide +kernel
theorem dX0_leastDelay_54 : decode cX0_leastDelay 54 = .ok (.goto 4, 3) := by decide +kernel
theorem dX0_leastDelay_57 : decode cX0_leastDelay 57 = .ok (.iconst 0, 1) := by decide +kernel
theorem dX0_leastDelay_58 : decode cX0_leastDelay 58 = .ok (.istore 4, 2) := by decide +kernel
theorem dX0_leastDelay_60 : decode cX0_leastDelay 60 = .ok (.iinc 5 1, 3) := by decide +kernel
theorem dX0_leastDelay_63 : decode cX0_leastDelay 63 = .ok (.goto (-41), 3) := by decide +kernel
theorem dX0_leastDelay_66 : decode cX0_leastDelay 66 = .ok (.iload 4, 2) := by decide +kernel
theorem dX0_leastDelay_68 : decode cX0_leastDelay 68 = .ok (.ifCond .eq 5, 3) := by decide +kernel
theorem dX0_leastDelay_71 : decode cX0_leastDelay 71 = .ok (.iload_n 3, 1) := by decide +kernel
theorem dX0_leastDelay_72 : decode cX0_leastDelay 72 = .ok (.ireturn, 1) := by decide +kernel
theorem dX0_leastDelay_73 : decode cX0_leastDelay 73 = .ok (.iinc 3 1, 3) := by decide +kernel
theorem dX0_leastDelay_76 : decode cX0_leastDelay 76 = .ok (.goto (-74), 3) := by decide +kernel
theorem dX0_leastDelay_79 : decode cX0_leastDelay 79 = .ok (.iconst (-1), 1) := by decide +kernel
theorem dX0_leastDelay_80 : decode cX0_leastDelay 80 = .ok (.ireturn, 1) := by decide +kernel
theorem dX0_brightestLamp_0 : decode cX0_brightestLamp 0 = .ok (.bipush 9, 2) := by decide +kernel
theorem dX0_brightestLamp_2 : decode cX0_brightestLamp 2 = .ok (.istore_n 3, 1) := by decide +kernel
theorem dX0_brightestLamp_3 : decode cX0_brightestLamp 3 = .ok (.iload_n 3, 1) := by decide +kernel
theorem dX0_brightestLamp_4 : decode cX0_brightestLamp 4 = .ok (.ifCond .lt 61, 3) := by decide +kernel
theorem dX0_brightestLamp_7 : decode cX0_brightestLamp 7 = .ok (.aload_n 0, 1) := by decide +kernel
theorem dX0_brightestLamp_8 : decode cX0_brightestLamp 8 = .ok (.getfield 25, 3) := by decide +kernel
theorem dX0_brightestLamp_11 : decode cX0_brightestLamp 11 = .ok (.aload_n 1, 1) := by decide +kernel
theorem dX0_brightestLamp_12 : decode cX0_brightestLamp 12 = .ok (.invokevirtual 33, 3) := by decide +kernel
theorem dX0_brightestLamp_15 : decode cX0_brightestLamp 15 = .ok (.aload_n 0, 1) := by decide +kernel
theorem dX0_brightestLamp_16 : decode cX0_brightestLamp 16 = .ok (.getfield 25, 3) := by decide +kernel
theorem dX0_brightestLamp_19 : decode cX0_brightestLamp 19 = .ok (.iload_n 3, 1) := by decide +kernel
theorem dX0_brightestLamp_20 : decode cX0_brightestLamp 20 = .ok (.putfield 111, 3) := by decide +kernel
theorem dX0_brightestLamp_23 : decode cX0_brightestLamp 23 = .ok (.iconst 0, 1) := by decide +kernel
theorem dX0_brightestLamp_24 : decode cX0_brightestLamp 24 = .ok (.istore 4, 2) := by decide +kernel
theorem dX0_brightestLamp_26 : decode cX0_brightestLamp 26 = .ok (.iload 4, 2) := by decide +kernel
theorem dX0_brightestLamp_28 : decode cX0_brightestLamp 28 = .ok (.iload_n 2, 1) := by decide +kernel
theorem dX0_brightestLamp_29 : decode cX0_brightestLamp 29 = .ok (.if_icmp .ge 18, 3) := by decide +kernel
theorem dX0_brightestLamp_32 : decode cX0_brightestLamp 32 = .ok (.aload_n 0, 1) := by decide +kernel
theorem dX0_brightestLamp_33 : decode cX0_brightestLamp 33 = .ok (.getfield 25, 3) := by decide +kernel
theorem dX0_brightestLamp_36 : decode cX0_brightestLamp 36 = .ok (.iconst 0, 1) := by decide +kernel
theorem dX0_brightestLamp_37 : decode cX0_brightestLamp 37 = .ok (.iconst 0, 1) := by decide +kernel
theorem dX0_brightestLamp_38 : decode cX0_brightestLamp 38 = .ok (.invokevirtual 41, 3) := by decide +kernel
theorem dX0_brightestLamp_41 : decode cX0_brightestLamp 41 = .ok (.iinc 4 1, 3) := by decide +kernel
theorem dX0_brightestLamp_44 : decode cX0_brightestLamp 44 = .ok (.goto (-18), 3) := by decide +kernel
theorem dX0_brightestLamp_47 : decode cX0_brightestLamp 47 = .ok (.aload_n 0, 1) := by decide +kernel
theorem dX0_brightestLamp_48 : decode cX0_brightestLamp 48 = .ok (.getfield 25, 3) := by decide +kernel
theorem dX0_brightestLamp_51 : decode cX0_brightestLamp 51 = .ok (.invokevirtual 114, 3) := by decide +kernel
theorem dX0_brightestLamp_54 : decode cX0_brightestLamp 54 = .ok (.ifCond .ne 5, 3) := by decide +kernel
theorem dX0_brightestLamp_57 : decode cX0_brightestLamp 57 = .ok (.iload_n 3, 1) := by decide +kernel
theorem dX0_brightestLamp_58 : decode cX0_brightestLamp 58 = .ok (.ireturn, 1) := by decide +kernel
theorem dX0_brightestLamp_59 : decode cX0_brightestLamp 59 = .ok (.iinc 3 (-1), 3) := by decide +kernel
theorem dX0_brightestLamp_62 : decode cX0_brightestLamp 62 = .ok (.goto (-59), 3) := by decide +kernel
theorem dX0_brightestLamp_65 : decode cX0_brightestLamp 65 = .ok (.iconst (-1), 1) := by decide +kernel
theorem dX0_brightestLamp_66 : decode cX0_brightestLamp 66 = .ok (.ireturn, 1) := by decide +kernel
theorem dX1_init_0 : decode cX1_init 0 = .ok (.aload_n 0, 1) := by decide +kernel
theorem dX1_init_1 : decode cX1_init 1 = .ok (.invokespecial 3, 3) := by decide +kernel
theorem dX1_init_4 : decode cX1_init 4 = .ok (.aload_n 0, 1) := by decide +kernel
theorem dX1_init_5 : decode cX1_init 5 = .ok (.aload_n 1, 1) := by decide +kernel
theorem dX1_init_6 : decode cX1_init 6 = .ok (.putfield 9, 3) := by decide +kernel
theorem dX1_init_9 : decode cX1_init 9 = .ok (.aload_n 0, 1) := by decide +kernel
theorem dX1_init_10 : decode cX1_init 10 = .ok (.aload_n 2, 1) := by decide +kernel
theorem dX1_init_11 : decode cX1_init 11 = .ok (.putfield 15, 3) := by decide +kernel
theorem dX1_init_14 : decode cX1_init 14 = .ok (.aload_n 0, 1) := by decide +kernel
theorem dX1_init_15 : decode cX1_init 15 = .ok (.iconst 0, 1) := by decide +kernel
theorem dX1_init_16 : decode cX1_init 16 = .ok (.putfield 19, 3) := by decide +kernel
theorem dX1_init_19 : decode cX1_init 19 = .ok (.return_, 1) := by decide +kernel
theorem dX1_readSteers_0 : decode cX1_readSteers 0 = .ok (.aload_n 0, 1) := by decide +kernel
theorem dX1_readSteers_1 : decode cX1_readSteers 1 = .ok (.aload_n 1, 1) := by decide +kernel
theorem dX1_readSteers_2 : decode cX1_readSteers 2 = .ok (.putfield 15, 3) := by decide +kernel
theorem dX1_readSteers_5 : decode cX1_readSteers 5 = .ok (.aload_n 0, 1) := by decide +kernel
theorem dX1_readSteers_6 : decode cX1_readSteers 6 = .ok (.iconst 0, 1) := by decide +kernel
theorem dX1_readSteers_7 : decode cX1_readSteers 7 = .ok (.putfield 19, 3) := by decide +kernel
theorem dX1_readSteers_10 : decode cX1_readSteers 10 = .ok (.aload_n 0, 1) := by decide +kernel
theorem dX1_readSteers_11 : decode cX1_readSteers 11 = .ok (.getfield 9, 3) := by decide +kernel
theorem dX1_readSteers_14 : decode cX1_readSteers 14 = .ok (.invokevirtual 23, 3) := by decide +kernel
theorem dX1_readSteers_17 : decode cX1_readSteers 17 = .ok (.aload_n 0, 1) := by decide +kernel
theorem dX1_readSteers_18 : decode cX1_readSteers 18 = .ok (.getfield 15, 3) := by decide +kernel
theorem dX1_readSteers_21 : decode cX1_readSteers 21 = .ok (.aload_n 0, 1) := by decide +kernel
theorem dX1_readSteers_22 : decode cX1_readSteers 22 = .ok (.getfield 15, 3) := by decide +kernel
theorem dX1_readSteers_25 : decode cX1_readSteers 25 = .ok (.getfield 28, 3) := by decide +kernel
theorem dX1_readSteers_28 : decode cX1_readSteers 28 = .ok (.putfield 34, 3) := by decide +kernel
theorem dX1_readSteers_31 : decode cX1_readSteers 31 = .ok (.aload_n 0, 1) := by decide +kernel
theorem dX1_readSteers_32 : decode cX1_readSteers 32 = .ok (.iconst 0, 1) := by decide +kernel
theorem dX1_readSteers_33 : decode cX1_readSteers 33 = .ok (.invokevirtual 37, 3) := by decide +kernel
theorem dX1_readSteers_36 : decode cX1_readSteers 36 = .ok (.aload_n 0, 1) := by decide +kernel
theorem dX1_readSteers_37 : decode cX1_readSteers 37 = .ok (.getfield 15, 3) := by decide +kernel
theorem dX1_readSteers_40 : decode cX1_readSteers 40 = .ok (.aload_n 0, 1) := by decide +kernel
theorem dX1_readSteers_41 : decode cX1_readSteers 41 = .ok (.getfield 15, 3) := by decide +kernel
theorem dX1_readSteers_44 : decode cX1_readSteers 44 = .ok (.getfield 28, 3) := by decide +kernel
theorem dX1_readSteers_47 : decode cX1_readSteers 47 = .ok (.putfield 41, 3) := by decide +kernel
theorem dX1_readSteers_50 : decode cX1_readSteers 50 = .ok (.return_, 1) := by decide +kernel
theorem dX1_readGoes_0 : decode cX1_readGoes 0 = .ok (.aload_n 0, 1) := by decide +kernel
theorem dX1_readGoes_1 : decode cX1_readGoes 1 = .ok (.aload_n 1, 1) := by decide +kernel
theorem dX1_readGoes_2 : decode cX1_readGoes 2 = .ok (.putfield 15, 3) := by decide +kernel
theorem dX1_readGoes_5 : decode cX1_readGoes 5 = .ok (.aload_n 0, 1) := by decide +kernel
theorem dX1_readGoes_6 : decode cX1_readGoes 6 = .ok (.iconst 1, 1) := by decide +kernel
theorem dX1_readGoes_7 : decode cX1_readGoes 7 = .ok (.putfield 19, 3) := by decide +kernel
theorem dX1_readGoes_10 : decode cX1_readGoes 10 = .ok (.aload_n 0, 1) := by decide +kernel
theorem dX1_readGoes_11 : decode cX1_readGoes 11 = .ok (.getfield 9, 3) := by decide +kernel
theorem dX1_readGoes_14 : decode cX1_readGoes 14 = .ok (.invokevirtual 23, 3) := by decide +kernel
theorem dX1_readGoes_17 : decode cX1_readGoes 17 = .ok (.aload_n 0, 1) := by decide +kernel
theorem dX1_readGoes_18 : decode cX1_readGoes 18 = .ok (.getfield 15, 3) := by decide +kernel
theorem dX1_readGoes_21 : decode cX1_readGoes 21 = .ok (.aload_n 0, 1) := by decide +kernel
theorem dX1_readGoes_22 : decode cX1_readGoes 22 = .ok (.getfield 15, 3) := by decide +kernel
theorem dX1_readGoes_25 : decode cX1_readGoes 25 = .ok (.getfield 28, 3) := by decide +kernel
theorem dX1_readGoes_28 : decode cX1_readGoes 28 = .ok (.putfield 44, 3) := by decide +kernel
theorem dX1_readGoes_31 : decode cX1_readGoes 31 = .ok (.aload_n 0, 1) := by decide +kernel
theorem dX1_readGoes_32 : decode cX1_readGoes 32 = .ok (.iconst 0, 1) := by decide +kernel
theorem dX1_readGoes_33 : decode cX1_readGoes 33 = .ok (.invokevirtual 47, 3) := by decide +kernel
theorem dX1_readGoes_36 : decode cX1_readGoes 36 = .ok (.aload_n 0, 1) := by decide +kernel
theorem dX1_readGoes_37 : decode cX1_readGoes 37 = .ok (.getfield 15, 3) := by decide +kernel
theorem dX1_readGoes_40 : decode cX1_readGoes 40 = .ok (.aload_n 0, 1) := by decide +kernel
theorem dX1_readGoes_41 : decode cX1_readGoes 41 = .ok (.getfield 15, 3) := by decide +kernel
theorem dX1_readGoes_44 : decode cX1_readGoes 44 = .ok (.getfield 28, 3) := by decide +kernel
theorem dX1_readGoes_47 : decode cX1_readGoes 47 = .ok (.putfield 50, 3) := by decide +kernel
theorem dX1_readGoes_50 : decode cX1_readGoes 50 = .ok (.return_, 1) := by decide +kernel
theorem dX1_test_0 : decode cX1_test 0 = .ok (.aload_n 0, 1) := by decide +kernel
theorem dX1_test_1 : decode cX1_test 1 = .ok (.iload_n 1, 1) := by decide +kernel
theorem dX1_test_2 : decode cX1_test 2 = .ok (.invokevirtual 53, 3) := by decide +kernel
theorem dX1_test_5 : decode cX1_test 5 = .ok (.iconst 0, 1) := by decide +kernel
theorem dX1_test_6 : decode cX1_test 6 = .ok (.istore_n 2, 1) := by decide +kernel
theorem dX1_test_7 : decode cX1_test 7 = .ok (.iload_n 2, 1) := by decide +kernel
theorem dX1_test_8 : decode cX1_test 8 = .ok (.sipush 1600, 3) := by decide +kernel
theorem dX1_test_11 : decode cX1_test 11 = .ok (.if_icmp .ge 43, 3) := by decide +kernel
theorem dX1_test_14 : decode cX1_test 14 = .ok (.aload_n 0, 1) := by decide +kernel
theorem dX1_test_15 : decode cX1_test 15 = .ok (.getfield 9, 3) := by decide +kernel
theorem dX1_test_18 : decode cX1_test 18 = .ok (.bipush 22, 2) := by decide +kernel
theorem dX1_test_20 : decode cX1_test 20 = .ok (.invokevirtual 58, 3) := by decide +kernel
theorem dX1_test_23 : decode cX1_test 23 = .ok (.ifCond .eq 31, 3) := by decide +kernel
theorem dX1_test_26 : decode cX1_test 26 = .ok (.aload_n 0, 1) := by decide +kernel
theorem dX1_test_27 : decode cX1_test 27 = .ok (.getfield 9, 3) := by decide +kernel
theorem dX1_test_30 : decode cX1_test 30 = .ok (.invokevirtual 23, 3) := by decide +kernel
theorem dX1_test_33 : decode cX1_test 33 = .ok (.aload_n 0, 1) := by decide +kernel
theorem dX1_test_34 : decode cX1_test 34 = .ok (.iload_n 1, 1) := by decide +kernel
theorem dX1_test_35 : decode cX1_test 35 = .ok (.invokevirtual 53, 3) := by decide +kernel
theorem dX1_test_38 : decode cX1_test 38 = .ok (.aload_n 0, 1) := by decide +kernel
theorem dX1_test_39 : decode cX1_test 39 = .ok (.getfield 15, 3) := by decide +kernel
theorem dX1_test_42 : decode cX1_test 42 = .ok (.bipush 14, 2) := by decide +kernel
theorem dX1_test_44 : decode cX1_test 44 = .ok (.iconst 0, 1) := by decide +kernel
theorem dX1_test_45 : decode cX1_test 45 = .ok (.invokevirtual 64, 3) := by decide +kernel
theorem dX1_test_48 : decode cX1_test 48 = .ok (.iinc 2 1, 3) := by decide +kernel
theorem dX1_test_51 : decode cX1_test 51 = .ok (.goto (-44), 3) := by decide +kernel
theorem dX1_test_54 : decode cX1_test 54 = .ok (.return_, 1) := by decide +kernel
theorem dX1_both_0 : decode cX1_both 0 = .ok (.aload_n 0, 1) := by decide +kernel
theorem dX1_both_1 : decode cX1_both 1 = .ok (.iload_n 1, 1) := by decide +kernel
theorem dX1_both_2 : decode cX1_both 2 = .ok (.invokevirtual 68, 3) := by decide +kernel
theorem dX1_both_5 : decode cX1_both 5 = .ok (.iconst 0, 1) := by decide +kernel
theorem dX1_both_6 : decode cX1_both 6 = .ok (.istore_n 2, 1) := by decide +kernel
theorem dX1_both_7 : decode cX1_both 7 = .ok (.iload_n 2, 1) := by decide +kernel
theorem dX1_both_8 : decode cX1_both 8 = .ok (.sipush 1600, 3) := by decide +kernel
theorem dX1_both_11 : decode cX1_both 11 = .ok (.if_icmp .ge 43, 3) := by decide +kernel
theorem dX1_both_14 : decode cX1_both 14 = .ok (.aload_n 0, 1) := by decide +kernel
theorem dX1_both_15 : decode cX1_both 15 = .ok (.getfield 9, 3) := by decide +kernel
theorem dX1_both_18 : decode cX1_both 18 = .ok (.bipush 23, 2) := by decide +kernel
theorem dX1_both_20 : decode cX1_both 20 = .ok (.invokevirtual 58, 3) := by decide +kernel
theorem dX1_both_23 : decode cX1_both 23 = .ok (.ifCond .eq 31, 3) := by decide +kernel
theorem dX1_both_26 : decode cX1_both 26 = .ok (.aload_n 0, 1) := by decide +kernel
theorem dX1_both_27 : decode cX1_both 27 = .ok (.getfield 9, 3) := by decide +kernel
theorem dX1_both_30 : decode cX1_both 30 = .ok (.invokevirtual 23, 3) := by decide +kernel
theorem dX1_both_33 : decode cX1_both 33 = .ok (.aload_n 0, 1) := by decide +kernel
theorem dX1_both_34 : decode cX1_both 34 = .ok (.iload_n 1, 1) := by decide +kernel
theorem dX1_both_35 : decode cX1_both 35 = .ok (.invokevirtual 68, 3) := by decide +kernel
theorem dX1_both_38 : decode cX1_both 38 = .ok (.aload_n 0, 1) := by decide +kernel
theorem dX1_both_39 : decode cX1_both 39 = .ok (.getfield 15, 3) := by decide +kernel
theorem dX1_both_42 : decode cX1_both 42 = .ok (.bipush 13, 2) := by decide +kernel
theorem dX1_both_44 : decode cX1_both 44 = .ok (.iconst 0, 1) := by decide +kernel
theorem dX1_both_45 : decode cX1_both 45 = .ok (.invokevirtual 64, 3) := by decide +kernel
theorem dX1_both_48 : decode cX1_both 48 = .ok (.iinc 2 1, 3) := by decide +kernel
theorem dX1_both_51 : decode cX1_both 51 = .ok (.goto (-44), 3) := by decide +kernel
theorem dX1_both_54 : decode cX1_both 54 = .ok (.return_, 1) := by decide +kernel
theorem dX1_fact_0 : decode cX1_fact 0 = .ok (.aload_n 0, 1) := by decide +kernel
theorem dX1_fact_1 : decode cX1_fact 1 = .ok (.getfield 9, 3) := by decide +kernel
theorem dX1_fact_4 : decode cX1_fact 4 = .ok (.bipush 24, 2) := by decide +kernel
theorem dX1_fact_6 : decode cX1_fact 6 = .ok (.invokevirtual 58, 3) := by decide +kernel
theorem dX1_fact_9 : decode cX1_fact 9 = .ok (.ifCond .eq 30, 3) := by decide +kernel
theorem dX1_fact_12 : decode cX1_fact 12 = .ok (.aload_n 0, 1) := by decide +kernel
theorem dX1_fact_13 : decode cX1_fact 13 = .ok (.iload_n 1, 1) := by decide +kernel
theorem dX1_fact_14 : decode cX1_fact 14 = .ok (.invokevirtual 71, 3) := by decide +kernel
theorem dX1_fact_17 : decode cX1_fact 17 = .ok (.ifCond .eq 97, 3) := by decide +kernel
theorem dX1_fact_20 : decode cX1_fact 20 = .ok (.aload_n 0, 1) := by decide +kernel
theorem dX1_fact_21 : decode cX1_fact 21 = .ok (.iload_n 1, 1) := by decide +kernel
theorem dX1_fact_22 : decode cX1_fact 22 = .ok (.iconst 1, 1) := by decide +kernel
theorem dX1_fact_23 : decode cX1_fact 23 = .ok (.iadd, 1) := by decide +kernel
theorem dX1_fact_24 : decode cX1_fact 24 = .ok (.invokevirtual 68, 3) := by decide +kernel
theorem dX1_fact_27 : decode cX1_fact 27 = .ok (.aload_n 0, 1) := by decide +kernel
theorem dX1_fact_28 : decode cX1_fact 28 = .ok (.getfield 15, 3) := by decide +kernel
theorem dX1_fact_31 : decode cX1_fact 31 = .ok (.iconst 2, 1) := by decide +kernel
theorem dX1_fact_32 : decode cX1_fact 32 = .ok (.iconst 0, 1) := by decide +kernel
theorem dX1_fact_33 : decode cX1_fact 33 = .ok (.invokevirtual 64, 3) := by decide +kernel
theorem dX1_fact_36 : decode cX1_fact 36 = .ok (.goto 78, 3) := by decide +kernel
theorem dX1_fact_39 : decode cX1_fact 39 = .ok (.aload_n 0, 1) := by decide +kernel
theorem dX1_fact_40 : decode cX1_fact 40 = .ok (.getfield 9, 3) := by decide +kernel
theorem dX1_fact_43 : decode cX1_fact 43 = .ok (.bipush 91, 2) := by decide +kernel
theorem dX1_fact_45 : decode cX1_fact 45 = .ok (.invokevirtual 74, 3) := by decide +kernel
theorem dX1_fact_48 : decode cX1_fact 48 = .ok (.ifCond .eq 30, 3) := by decide +kernel
theorem dX1_fact_51 : decode cX1_fact 51 = .ok (.aload_n 0, 1) := by decide +kernel
theorem dX1_fact_52 : decode cX1_fact 52 = .ok (.iload_n 1, 1) := by decide +kernel
theorem dX1_fact_53 : decode cX1_fact 53 = .ok (.invokevirtual 71, 3) := by decide +kernel
theorem dX1_fact_56 : decode cX1_fact 56 = .ok (.ifCond .eq 58, 3) := by decide +kernel
theorem dX1_fact_59 : decode cX1_fact 59 = .ok (.aload_n 0, 1) := by decide +kernel
theorem dX1_fact_60 : decode cX1_fact 60 = .ok (.iload_n 1, 1) := by decide +kernel
theorem dX1_fact_61 : decode cX1_fact 61 = .ok (.iconst 1, 1) := by decide +kernel
theorem dX1_fact_62 : decode cX1_fact 62 = .ok (.iadd, 1) := by decide +kernel
theorem dX1_fact_63 : decode cX1_fact 63 = .ok (.invokevirtual 47, 3) := by decide +kernel
theorem dX1_fact_66 : decode cX1_fact 66 = .ok (.aload_n 0, 1) := by decide +kernel
theorem dX1_fact_67 : decode cX1_fact 67 = .ok (.getfield 9, 3) := by decide +kernel
theorem dX1_fact_70 : decode cX1_fact 70 = .ok (.bipush 93, 2) := by decide +kernel
theorem dX1_fact_72 : decode cX1_fact 72 = .ok (.invokevirtual 78, 3) := by decide +kernel
theorem dX1_fact_75 : decode cX1_fact 75 = .ok (.goto 39, 3) := by decide +kernel
theorem dX1_fact_78 : decode cX1_fact 78 = .ok (.aload_n 0, 1) := by decide +kernel
theorem dX1_fact_79 : decode cX1_fact 79 = .ok (.getfield 9, 3) := by decide +kernel
theorem dX1_fact_82 : decode cX1_fact 82 = .ok (.bipush 25, 2) := by decide +kernel
theorem dX1_fact_84 : decode cX1_fact 84 = .ok (.invokevirtual 58, 3) := by decide +kernel
theorem dX1_fact_87 : decode cX1_fact 87 = .ok (.ifCond .eq 22, 3) := by decide +kernel
theorem dX1_fact_90 : decode cX1_fact 90 = .ok (.aload_n 0, 1) := by decide +kernel
theorem dX1_fact_91 : decode cX1_fact 91 = .ok (.getfield 9, 3) := by decide +kernel
theorem dX1_fact_94 : decode cX1_fact 94 = .ok (.invokevirtual 23, 3) := by decide +kernel
theorem dX1_fact_97 : decode cX1_fact 97 = .ok (.aload_n 0, 1) := by decide +kernel
theorem dX1_fact_98 : decode cX1_fact 98 = .ok (.getfield 15, 3) := by decide +kernel
theorem dX1_fact_101 : decode cX1_fact 101 = .ok (.iconst 0, 1) := by decide +kernel
theorem dX1_fact_102 : decode cX1_fact 102 = .ok (.iconst 1, 1) := by decide +kernel
theorem dX1_fact_103 : decode cX1_fact 103 = .ok (.invokevirtual 64, 3) := by decide +kernel
theorem dX1_fact_106 : decode cX1_fact 106 = .ok (.goto 8, 3) := by decide +kernel
theorem dX1_fact_109 : decode cX1_fact 109 = .ok (.aload_n 0, 1) := by decide +kernel
theorem dX1_fact_110 : decode cX1_fact 110 = .ok (.iload_n 1, 1) := by decide +kernel
theorem dX1_fact_111 : decode cX1_fact 111 = .ok (.invokevirtual 82, 3) := by decide +kernel
theorem dX1_fact_114 : decode cX1_fact 114 = .ok (.return_, 1) := by decide +kernel
theorem dX1_comparison_0 : decode cX1_comparison 0 = .ok (.aload_n 0, 1) := by decide +kernel
theorem dX1_comparison_1 : decode cX1_comparison 1 = .ok (.iload_n 1, 1) := by decide +kernel
theorem dX1_comparison_2 : decode cX1_comparison 2 = .ok (.invokevirtual 37, 3) := by decide +kernel
theorem dX1_comparison_5 : decode cX1_comparison 5 = .ok (.iconst (-1), 1) := by decide +kernel
theorem dX1_comparison_6 : decode cX1_comparison 6 = .ok (.istore_n 2, 1) := by decide +kernel
theorem dX1_comparison_7 : decode cX1_comparison 7 = .ok (.aload_n 0, 1) := by decide +kernel
theorem dX1_comparison_8 : decode cX1_comparison 8 = .ok (.getfield 9, 3) := by decide +kernel
theorem dX1_comparison_11 : decode cX1_comparison 11 = .ok (.bipush 60, 2) := by decide +kernel
theorem dX1_comparison_13 : decode cX1_comparison 13 = .ok (.invokevirtual 74, 3) := by decide +kernel
theorem dX1_comparison_16 : decode cX1_comparison 16 = .ok (.ifCond .eq 9, 3) := by decide +kernel
theorem dX1_comparison_19 : decode cX1_comparison 19 = .ok (.bipush 10, 2) := by decide +kernel
theorem dX1_comparison_21 : decode cX1_comparison 21 = .ok (.istore_n 2, 1) := by decide +kernel
theorem dX1_comparison_22 : decode cX1_comparison 22 = .ok (.goto 48, 3) := by decide +kernel
theorem dX1_comparison_25 : decode cX1_comparison 25 = .ok (.aload_n 0, 1) := by decide +kernel
theorem dX1_comparison_26 : decode cX1_comparison 26 = .ok (.getfield 9, 3) := by decide +kernel
theorem dX1_comparison_29 : decode cX1_comparison 29 = .ok (.bipush 62, 2) := by decide +kernel
theorem dX1_comparison_31 : decode cX1_comparison 31 = .ok (.invokevirtual 74, 3) := by decide +kernel
theorem dX1_comparison_34 : decode cX1_comparison 34 = .ok (.ifCond .eq 9, 3) := by decide +kernel
theorem dX1_comparison_37 : decode cX1_comparison 37 = .ok (.bipush 11, 2) := by decide +kernel
theorem dX1_comparison_39 : decode cX1_comparison 39 = .ok (.istore_n 2, 1) := by decide +kernel
theorem dX1_comparison_40 : decode cX1_comparison 40 = .ok (.goto 30, 3) := by decide +kernel
theorem dX1_comparison_43 : decode cX1_comparison 43 = .ok (.aload_n 0, 1) := by decide +kernel
theorem dX1_comparison_44 : decode cX1_comparison 44 = .ok (.getfield 9, 3) := by decide +kernel
theorem dX1_comparison_47 : decode cX1_comparison 47 = .ok (.bipush 61, 2) := by decide +kernel
theorem dX1_comparison_49 : decode cX1_comparison 49 = .ok (.invokevirtual 74, 3) := by decide +kernel
theorem dX1_comparison_52 : decode cX1_comparison 52 = .ok (.ifCond .eq 9, 3) := by decide +kernel
theorem dX1_comparison_55 : decode cX1_comparison 55 = .ok (.bipush 12, 2) := by decide +kernel
theorem dX1_comparison_57 : decode cX1_comparison 57 = .ok (.istore_n 2, 1) := by decide +kernel
theorem dX1_comparison_58 : decode cX1_comparison 58 = .ok (.goto 12, 3) := by decide +kernel
theorem dX1_comparison_61 : decode cX1_comparison 61 = .ok (.aload_n 0, 1) := by decide +kernel
theorem dX1_comparison_62 : decode cX1_comparison 62 = .ok (.getfield 9, 3) := by decide +kernel
theorem dX1_comparison_65 : decode cX1_comparison 65 = .ok (.iconst 1, 1) := by decide +kernel
theorem dX1_comparison_66 : decode cX1_comparison 66 = .ok (.invokevirtual 85, 3) := by decide +kernel
theorem dX1_comparison_69 : decode cX1_comparison 69 = .ok (.return_, 1) := by decide +kernel
theorem dX1_comparison_70 : decode cX1_comparison 70 = .ok (.aload_n 0, 1) := by decide +kernel
theorem dX1_comparison_71 : decode cX1_comparison 71 = .ok (.getfield 9, 3) := by decide +kernel
theorem dX1_comparison_74 : decode cX1_comparison 74 = .ok (.invokevirtual 23, 3) := by decide +kernel
theorem dX1_comparison_77 : decode cX1_comparison 77 = .ok (.aload_n 0, 1) := by decide +kernel
theorem dX1_comparison_78 : decode cX1_comparison 78 = .ok (.iload_n 1, 1) := by decide +kernel
theorem dX1_comparison_79 : decode cX1_comparison 79 = .ok (.invokevirtual 37, 3) := by decide +kernel
theorem dX1_comparison_82 : decode cX1_comparison 82 = .ok (.aload_n 0, 1) := by decide +kernel
theorem dX1_comparison_83 : decode cX1_comparison 83 = .ok (.getfield 15, 3) := by decide +kernel
theorem dX1_comparison_86 : decode cX1_comparison 86 = .ok (.iload_n 2, 1) := by decide +kernel
theorem dX1_comparison_87 : decode cX1_comparison 87 = .ok (.iconst 0, 1) := by decide +kernel
theorem dX1_comparison_88 : decode cX1_comparison 88 = .ok (.invokevirtual 64, 3) := by decide +kernel
theorem dX1_comparison_91 : decode cX1_comparison 91 = .ok (.return_, 1) := by decide +kernel
theorem dX1_sum_0 : decode cX1_sum 0 = .ok (.aload_n 0, 1) := by decide +kernel
theorem dX1_sum_1 : decode cX1_sum 1 = .ok (.iload_n 1, 1) := by decide +kernel
theorem dX1_sum_2 : decode cX1_sum 2 = .ok (.invokevirtual 88, 3) := by decide +kernel
theorem dX1_sum_5 : decode cX1_sum 5 = .ok (.iconst 0, 1) := by decide +kernel
theorem dX1_sum_6 : decode cX1_sum 6 = .ok (.istore_n 2, 1) := by decide +kernel
theorem dX1_sum_7 : decode cX1_sum 7 = .ok (.iload_n 2, 1) := by decide +kernel
theorem dX1_sum_8 : decode cX1_sum 8 = .ok (.sipush 1600, 3) := by decide +kernel
theorem dX1_sum_11 : decode cX1_sum 11 = .ok (.if_icmp .ge 72, 3) := by decide +kernel
theorem dX1_sum_14 : decode cX1_sum 14 = .ok (.aload_n 0, 1) := by decide +kernel
theorem dX1_sum_15 : decode cX1_sum 15 = .ok (.getfield 9, 3) := by decide +kernel
theorem dX1_sum_18 : decode cX1_sum 18 = .ok (.bipush 43, 2) := by decide +kernel
theorem dX1_sum_20 : decode cX1_sum 20 = .ok (.invokevirtual 74, 3) := by decide +kernel
theorem dX1_sum_23 : decode cX1_sum 23 = .ok (.ifCond .ne 15, 3) := by decide +kernel
theorem dX1_sum_26 : decode cX1_sum 26 = .ok (.aload_n 0, 1) := by decide +kernel
theorem dX1_sum_27 : decode cX1_sum 27 = .ok (.getfield 9, 3) := by decide +kernel
theorem dX1_sum_30 : decode cX1_sum 30 = .ok (.bipush 45, 2) := by decide +kernel
theorem dX1_sum_32 : decode cX1_sum 32 = .ok (.invokevirtual 74, 3) := by decide +kernel
theorem dX1_sum_35 : decode cX1_sum 35 = .ok (.ifCond .eq 48, 3) := by decide +kernel
theorem dX1_sum_38 : decode cX1_sum 38 = .ok (.aload_n 0, 1) := by decide +kernel
theorem dX1_sum_39 : decode cX1_sum 39 = .ok (.getfield 9, 3) := by decide +kernel
theorem dX1_sum_42 : decode cX1_sum 42 = .ok (.bipush 43, 2) := by decide +kernel
theorem dX1_sum_44 : decode cX1_sum 44 = .ok (.invokevirtual 74, 3) := by decide +kernel
theorem dX1_sum_47 : decode cX1_sum 47 = .ok (.ifCond .eq 7, 3) := by decide +kernel
theorem dX1_sum_50 : decode cX1_sum 50 = .ok (.iconst 3, 1) := by decide +kernel
theorem dX1_sum_51 : decode cX1_sum 51 = .ok (.goto 4, 3) := by decide +kernel
theorem dX1_sum_54 : decode cX1_sum 54 = .ok (.iconst 4, 1) := by decide +kernel
theorem dX1_sum_55 : decode cX1_sum 55 = .ok (.istore_n 3, 1) := by decide +kernel
theorem dX1_sum_56 : decode cX1_sum 56 = .ok (.aload_n 0, 1) := by decide +kernel
theorem dX1_sum_57 : decode cX1_sum 57 = .ok (.getfield 9, 3) := by decide +kernel
theorem dX1_sum_60 : decode cX1_sum 60 = .ok (.invokevirtual 23, 3) := by decide +kernel
theorem dX1_sum_63 : decode cX1_sum 63 = .ok (.aload_n 0, 1) := by decide +kernel
theorem dX1_sum_64 : decode cX1_sum 64 = .ok (.iload_n 1, 1) := by decide +kernel
theorem dX1_sum_65 : decode cX1_sum 65 = .ok (.invokevirtual 88, 3) := by decide +kernel
theorem dX1_sum_68 : decode cX1_sum 68 = .ok (.aload_n 0, 1) := by decide +kernel
theorem dX1_sum_69 : decode cX1_sum 69 = .ok (.getfield 15, 3) := by decide +kernel
theorem dX1_sum_72 : decode cX1_sum 72 = .ok (.iload_n 3, 1) := by decide +kernel
theorem dX1_sum_73 : decode cX1_sum 73 = .ok (.iconst 0, 1) := by decide +kernel
theorem dX1_sum_74 : decode cX1_sum 74 = .ok (.invokevirtual 64, 3) := by decide +kernel
theorem dX1_sum_77 : decode cX1_sum 77 = .ok (.iinc 2 1, 3) := by decide +kernel
theorem dX1_sum_80 : decode cX1_sum 80 = .ok (.goto (-73), 3) := by decide +kernel
theorem dX1_sum_83 : decode cX1_sum 83 = .ok (.return_, 1) := by decide +kernel
theorem dX1_product_0 : decode cX1_product 0 = .ok (.aload_n 0, 1) := by decide +kernel
theorem dX1_product_1 : decode cX1_product 1 = .ok (.iload_n 1, 1) := by decide +kernel
theorem dX1_product_2 : decode cX1_product 2 = .ok (.invokevirtual 91, 3) := by decide +kernel
theorem dX1_product_5 : decode cX1_product 5 = .ok (.aload_n 0, 1) := by decide +kernel
theorem dX1_product_6 : decode cX1_product 6 = .ok (.invokevirtual 94, 3) := by decide +kernel
theorem dX1_product_9 : decode cX1_product 9 = .ok (.istore_n 2, 1) := by decide +kernel
theorem dX1_product_10 : decode cX1_product 10 = .ok (.iconst 0, 1) := by decide +kernel
theorem dX1_product_11 : decode cX1_product 11 = .ok (.istore_n 3, 1) := by decide +kernel
theorem dX1_product_12 : decode cX1_product 12 = .ok (.iload_n 3, 1) := by decide +kernel
theorem dX1_product_13 : decode cX1_product 13 = .ok (.sipush 1600, 3) := by decide +kernel
theorem dX1_product_16 : decode cX1_product 16 = .ok (.if_icmp .ge 40, 3) := by decide +kernel
theorem dX1_product_19 : decode cX1_product 19 = .ok (.iload_n 2, 1) := by decide +kernel
theorem dX1_product_20 : decode cX1_product 20 = .ok (.iconst (-1), 1) := by decide +kernel
theorem dX1_product_21 : decode cX1_product 21 = .ok (.if_icmp .eq 35, 3) := by decide +kernel
theorem dX1_product_24 : decode cX1_product 24 = .ok (.aload_n 0, 1) := by decide +kernel
theorem dX1_product_25 : decode cX1_product 25 = .ok (.getfield 9, 3) := by decide +kernel
theorem dX1_product_28 : decode cX1_product 28 = .ok (.invokevirtual 23, 3) := by decide +kernel
theorem dX1_product_31 : decode cX1_product 31 = .ok (.aload_n 0, 1) := by decide +kernel
theorem dX1_product_32 : decode cX1_product 32 = .ok (.iload_n 1, 1) := by decide +kernel
theorem dX1_product_33 : decode cX1_product 33 = .ok (.invokevirtual 91, 3) := by decide +kernel
theorem dX1_product_36 : decode cX1_product 36 = .ok (.aload_n 0, 1) := by decide +kernel
theorem dX1_product_37 : decode cX1_product 37 = .ok (.getfield 15, 3) := by decide +kernel
theorem dX1_product_40 : decode cX1_product 40 = .ok (.iload_n 2, 1) := by decide +kernel
theorem dX1_product_41 : decode cX1_product 41 = .ok (.iconst 0, 1) := by decide +kernel
theorem dX1_product_42 : decode cX1_product 42 = .ok (.invokevirtual 64, 3) := by decide +kernel
theorem dX1_product_45 : decode cX1_product 45 = .ok (.aload_n 0, 1) := by decide +kernel
theorem dX1_product_46 : decode cX1_product 46 = .ok (.invokevirtual 94, 3) := by decide +kernel
theorem dX1_product_49 : decode cX1_product 49 = .ok (.istore_n 2, 1) := by decide +kernel
theorem dX1_product_50 : decode cX1_product 50 = .ok (.iinc 3 1, 3) := by decide +kernel
theorem dX1_product_53 : decode cX1_product 53 = .ok (.goto (-41), 3) := by decide +kernel
theorem dX1_product_56 : decode cX1_product 56 = .ok (.return_, 1) := by decide +kernel
theorem dX1_productSign_0 : decode cX1_productSign 0 = .ok (.aload_n 0, 1) := by decide +kernel
theorem dX1_productSign_1 : decode cX1_productSign 1 = .ok (.getfield 9, 3) := by decide +kernel
theorem dX1_productSign_4 : decode cX1_productSign 4 = .ok (.bipush 42, 2) := by decide +kernel
theorem dX1_productSign_6 : decode cX1_productSign 6 = .ok (.invokevirtual 74, 3) := by decide +kernel
theorem dX1_productSign_9 : decode cX1_productSign 9 = .ok (.ifCond .eq 5, 3) := by decide +kernel
theorem dX1_productSign_12 : decode cX1_productSign 12 = .ok (.iconst 5, 1) := by decide +kernel
theorem dX1_productSign_13 : decode cX1_productSign 13 = .ok (.ireturn, 1) := by decide +kernel
theorem dX1_productSign_14 : decode cX1_productSign 14 = .ok (.aload_n 0, 1) := by decide +kernel
theorem dX1_productSign_15 : decode cX1_productSign 15 = .ok (.getfield 9, 3) := by decide +kernel
theorem dX1_productSign_18 : decode cX1_productSign 18 = .ok (.bipush 47, 2) := by decide +kernel
theorem dX1_productSign_20 : decode cX1_productSign 20 = .ok (.invokevirtual 74, 3) := by decide +kernel
theorem dX1_productSign_23 : decode cX1_productSign 23 = .ok (.ifCond .eq 6, 3) := by decide +kernel
theorem dX1_productSign_26 : decode cX1_productSign 26 = .ok (.bipush 6, 2) := by decide +kernel
theorem dX1_productSign_28 : decode cX1_productSign 28 = .ok (.ireturn, 1) := by decide +kernel
theorem dX1_productSign_29 : decode cX1_productSign 29 = .ok (.aload_n 0, 1) := by decide +kernel
theorem dX1_productSign_30 : decode cX1_productSign 30 = .ok (.getfield 9, 3) := by decide +kernel
theorem dX1_productSign_33 : decode cX1_productSign 33 = .ok (.bipush 37, 2) := by decide +kernel
theorem dX1_productSign_35 : decode cX1_productSign 35 = .ok (.invokevirtual 74, 3) := by decide +kernel
theorem dX1_productSign_38 : decode cX1_productSign 38 = .ok (.ifCond .eq 8, 3) := by decide +kernel
theorem dX1_productSign_41 : decode cX1_productSign 41 = .ok (.bipush 7, 2) := by decide +kernel
theorem dX1_productSign_43 : decode cX1_productSign 43 = .ok (.goto 4, 3) := by decide +kernel
theorem dX1_productSign_46 : decode cX1_productSign 46 = .ok (.iconst (-1), 1) := by decide +kernel
theorem dX1_productSign_47 : decode cX1_productSign 47 = .ok (.ireturn, 1) := by decide +kernel
theorem dX1_part_0 : decode cX1_part 0 = .ok (.aload_n 0, 1) := by decide +kernel
theorem dX1_part_1 : decode cX1_part 1 = .ok (.getfield 9, 3) := by decide +kernel
theorem dX1_part_4 : decode cX1_part 4 = .ok (.getfield 98, 3) := by decide +kernel
theorem dX1_part_7 : decode cX1_part 7 = .ok (.iconst 3, 1) := by decide +kernel
theorem dX1_part_8 : decode cX1_part 8 = .ok (.if_icmp .ne 28, 3) := by decide +kernel
theorem dX1_part_11 : decode cX1_part 11 = .ok (.aload_n 0, 1) := by decide +kernel
theorem dX1_part_12 : decode cX1_part 12 = .ok (.getfield 15, 3) := by decide +kernel
theorem dX1_part_15 : decode cX1_part 15 = .ok (.iconst 0, 1) := by decide +kernel
theorem dX1_part_16 : decode cX1_part 16 = .ok (.aload_n 0, 1) := by decide +kernel
theorem dX1_part_17 : decode cX1_part 17 = .ok (.getfield 9, 3) := by decide +kernel
theorem dX1_part_20 : decode cX1_part 20 = .ok (.getfield 101, 3) := by decide +kernel
theorem dX1_part_23 : decode cX1_part 23 = .ok (.invokevirtual 64, 3) := by decide +kernel
theorem dX1_part_26 : decode cX1_part 26 = .ok (.aload_n 0, 1) := by decide +kernel
theorem dX1_part_27 : decode cX1_part 27 = .ok (.getfield 9, 3) := by decide +kernel
theorem dX1_part_30 : decode cX1_part 30 = .ok (.invokevirtual 23, 3) := by decide +kernel
theorem dX1_part_33 : decode cX1_part 33 = .ok (.goto 112, 3) := by decide +kernel
theorem dX1_part_36 : decode cX1_part 36 = .ok (.aload_n 0, 1) := by decide +kernel
theorem dX1_part_37 : decode cX1_part 37 = .ok (.getfield 9, 3) := by decide +kernel
theorem dX1_part_40 : decode cX1_part 40 = .ok (.bipush 40, 2) := by decide +kernel
theorem dX1_part_42 : decode cX1_part 42 = .ok (.invokevirtual 74, 3) := by decide +kernel
theorem dX1_part_45 : decode cX1_part 45 = .ok (.ifCond .eq 30, 3) := by decide +kernel
theorem dX1_part_48 : decode cX1_part 48 = .ok (.aload_n 0, 1) := by decide +kernel
theorem dX1_part_49 : decode cX1_part 49 = .ok (.iload_n 1, 1) := by decide +kernel
theorem dX1_part_50 : decode cX1_part 50 = .ok (.invokevirtual 71, 3) := by decide +kernel
theorem dX1_part_53 : decode cX1_part 53 = .ok (.ifCond .eq 92, 3) := by decide +kernel
theorem dX1_part_56 : decode cX1_part 56 = .ok (.aload_n 0, 1) := by decide +kernel
theorem dX1_part_57 : decode cX1_part 57 = .ok (.iload_n 1, 1) := by decide +kernel
theorem dX1_part_58 : decode cX1_part 58 = .ok (.iconst 1, 1) := by decide +kernel
theorem dX1_part_59 : decode cX1_part 59 = .ok (.iadd, 1) := by decide +kernel
theorem dX1_part_60 : decode cX1_part 60 = .ok (.invokevirtual 37, 3) := by decide +kernel
theorem dX1_part_63 : decode cX1_part 63 = .ok (.aload_n 0, 1) := by decide +kernel
theorem dX1_part_64 : decode cX1_part 64 = .ok (.getfield 9, 3) := by decide +kernel
theorem dX1_part_67 : decode cX1_part 67 = .ok (.bipush 41, 2) := by decide +kernel
theorem dX1_part_69 : decode cX1_part 69 = .ok (.invokevirtual 78, 3) := by decide +kernel
theorem dX1_part_72 : decode cX1_part 72 = .ok (.goto 73, 3) := by decide +kernel
theorem dX1_part_75 : decode cX1_part 75 = .ok (.aload_n 0, 1) := by decide +kernel
theorem dX1_part_76 : decode cX1_part 76 = .ok (.getfield 9, 3) := by decide +kernel
theorem dX1_part_79 : decode cX1_part 79 = .ok (.bipush 26, 2) := by decide +kernel
theorem dX1_part_81 : decode cX1_part 81 = .ok (.invokevirtual 58, 3) := by decide +kernel
theorem dX1_part_84 : decode cX1_part 84 = .ok (.ifCond .eq 13, 3) := by decide +kernel
theorem dX1_part_87 : decode cX1_part 87 = .ok (.aload_n 0, 1) := by decide +kernel
theorem dX1_part_88 : decode cX1_part 88 = .ok (.iload_n 1, 1) := by decide +kernel
theorem dX1_part_89 : decode cX1_part 89 = .ok (.bipush 8, 2) := by decide +kernel
theorem dX1_part_91 : decode cX1_part 91 = .ok (.invokevirtual 104, 3) := by decide +kernel
theorem dX1_part_94 : decode cX1_part 94 = .ok (.goto 51, 3) := by decide +kernel
theorem dX1_part_97 : decode cX1_part 97 = .ok (.aload_n 0, 1) := by decide +kernel
theorem dX1_part_98 : decode cX1_part 98 = .ok (.getfield 9, 3) := by decide +kernel
theorem dX1_part_101 : decode cX1_part 101 = .ok (.bipush 27, 2) := by decide +kernel
theorem dX1_part_103 : decode cX1_part 103 = .ok (.invokevirtual 58, 3) := by decide +kernel
theorem dX1_part_106 : decode cX1_part 106 = .ok (.ifCond .eq 13, 3) := by decide +kernel
theorem dX1_part_109 : decode cX1_part 109 = .ok (.aload_n 0, 1) := by decide +kernel
theorem dX1_part_110 : decode cX1_part 110 = .ok (.iload_n 1, 1) := by decide +kernel
theorem dX1_part_111 : decode cX1_part 111 = .ok (.bipush 9, 2) := by decide +kernel
theorem dX1_part_113 : decode cX1_part 113 = .ok (.invokevirtual 104, 3) := by decide +kernel
theorem dX1_part_116 : decode cX1_part 116 = .ok (.goto 29, 3) := by decide +kernel
theorem dX1_part_119 : decode cX1_part 119 = .ok (.aload_n 0, 1) := by decide +kernel
theorem dX1_part_120 : decode cX1_part 120 = .ok (.getfield 9, 3) := by decide +kernel
theorem dX1_part_123 : decode cX1_part 123 = .ok (.bipush 21, 2) := by decide +kernel
theorem dX1_part_125 : decode cX1_part 125 = .ok (.invokevirtual 58, 3) := by decide +kernel
theorem dX1_part_128 : decode cX1_part 128 = .ok (.ifCond .eq 13, 3) := by decide +kernel
theorem dX1_part_131 : decode cX1_part 131 = .ok (.aload_n 0, 1) := by decide +kernel
theorem dX1_part_132 : decode cX1_part 132 = .ok (.iload_n 1, 1) := by decide +kernel
theorem dX1_part_133 : decode cX1_part 133 = .ok (.bipush 15, 2) := by decide +kernel
theorem dX1_part_135 : decode cX1_part 135 = .ok (.invokevirtual 104, 3) := by decide +kernel
theorem dX1_part_138 : decode cX1_part 138 = .ok (.goto 7, 3) := by decide +kernel
theorem dX1_part_141 : decode cX1_part 141 = .ok (.aload_n 0, 1) := by decide +kernel
theorem dX1_part_142 : decode cX1_part 142 = .ok (.invokevirtual 107, 3) := by decide +kernel
theorem dX1_part_145 : decode cX1_part 145 = .ok (.return_, 1) := by decide +kernel
theorem dX1_choice_0 : decode cX1_choice 0 = .ok (.aload_n 0, 1) := by decide +kernel
theorem dX1_choice_1 : decode cX1_choice 1 = .ok (.getfield 9, 3) := by decide +kernel
theorem dX1_choice_4 : decode cX1_choice 4 = .ok (.invokevirtual 23, 3) := by decide +kernel
theorem dX1_choice_7 : decode cX1_choice 7 = .ok (.aload_n 0, 1) := by decide +kernel
theorem dX1_choice_8 : decode cX1_choice 8 = .ok (.getfield 9, 3) := by decide +kernel
theorem dX1_choice_11 : decode cX1_choice 11 = .ok (.bipush 40, 2) := by decide +kernel
theorem dX1_choice_13 : decode cX1_choice 13 = .ok (.invokevirtual 74, 3) := by decide +kernel
theorem dX1_choice_16 : decode cX1_choice 16 = .ok (.ifCond .ne 12, 3) := by decide +kernel
theorem dX1_choice_19 : decode cX1_choice 19 = .ok (.aload_n 0, 1) := by decide +kernel
theorem dX1_choice_20 : decode cX1_choice 20 = .ok (.getfield 9, 3) := by decide +kernel
theorem dX1_choice_23 : decode cX1_choice 23 = .ok (.iconst 1, 1) := by decide +kernel
theorem dX1_choice_24 : decode cX1_choice 24 = .ok (.invokevirtual 85, 3) := by decide +kernel
theorem dX1_choice_27 : decode cX1_choice 27 = .ok (.return_, 1) := by decide +kernel
theorem dX1_choice_28 : decode cX1_choice 28 = .ok (.aload_n 0, 1) := by decide +kernel
theorem dX1_choice_29 : decode cX1_choice 29 = .ok (.iload_n 1, 1) := by decide +kernel
theorem dX1_choice_30 : decode cX1_choice 30 = .ok (.invokevirtual 71, 3) := by decide +kernel
theorem dX1_choice_33 : decode cX1_choice 33 = .ok (.ifCond .ne 4, 3) := by decide +kernel
theorem dX1_choice_36 : decode cX1_choice 36 = .ok (.return_, 1) := by decide +kernel
theorem dX1_choice_37 : decode cX1_choice 37 = .ok (.iload_n 2, 1) := by decide +kernel
theorem dX1_choice_38 : decode cX1_choice 38 = .ok (.bipush 15, 2) := by decide +kernel
theorem dX1_choice_40 : decode cX1_choice 40 = .ok (.if_icmp .ne 19, 3) := by decide +kernel
theorem dX1_choice_43 : decode cX1_choice 43 = .ok (.aload_n 0, 1) := by decide +kernel
theorem dX1_choice_44 : decode cX1_choice 44 = .ok (.iload_n 1, 1) := by decide +kernel
theorem dX1_choice_45 : decode cX1_choice 45 = .ok (.iconst 1, 1) := by decide +kernel
theorem dX1_choice_46 : decode cX1_choice 46 = .ok (.iadd, 1) := by decide +kernel
theorem dX1_choice_47 : decode cX1_choice 47 = .ok (.invokevirtual 47, 3) := by decide +kernel
theorem dX1_choice_50 : decode cX1_choice 50 = .ok (.aload_n 0, 1) := by decide +kernel
theorem dX1_choice_51 : decode cX1_choice 51 = .ok (.getfield 9, 3) := by decide +kernel
theorem dX1_choice_54 : decode cX1_choice 54 = .ok (.bipush 44, 2) := by decide +kernel
theorem dX1_choice_56 : decode cX1_choice 56 = .ok (.invokevirtual 78, 3) := by decide +kernel
theorem dX1_choice_59 : decode cX1_choice 59 = .ok (.aload_n 0, 1) := by decide +kernel
theorem dX1_choice_60 : decode cX1_choice 60 = .ok (.iload_n 1, 1) := by decide +kernel
theorem dX1_choice_61 : decode cX1_choice 61 = .ok (.iconst 1, 1) := by decide +kernel
theorem dX1_choice_62 : decode cX1_choice 62 = .ok (.iadd, 1) := by decide +kernel
theorem dX1_choice_63 : decode cX1_choice 63 = .ok (.invokevirtual 37, 3) := by decide +kernel
theorem dX1_choice_66 : decode cX1_choice 66 = .ok (.aload_n 0, 1) := by decide +kernel
theorem dX1_choice_67 : decode cX1_choice 67 = .ok (.getfield 9, 3) := by decide +kernel
theorem dX1_choice_70 : decode cX1_choice 70 = .ok (.bipush 44, 2) := by decide +kernel
theorem dX1_choice_72 : decode cX1_choice 72 = .ok (.invokevirtual 78, 3) := by decide +kernel
theorem dX1_choice_75 : decode cX1_choice 75 = .ok (.aload_n 0, 1) := by decide +kernel
theorem dX1_choice_76 : decode cX1_choice 76 = .ok (.iload_n 1, 1) := by decide +kernel
theorem dX1_choice_77 : decode cX1_choice 77 = .ok (.iconst 1, 1) := by decide +kernel
theorem dX1_choice_78 : decode cX1_choice 78 = .ok (.iadd, 1) := by decide +kernel
theorem dX1_choice_79 : decode cX1_choice 79 = .ok (.invokevirtual 37, 3) := by decide +kernel
theorem dX1_choice_82 : decode cX1_choice 82 = .ok (.aload_n 0, 1) := by decide +kernel
theorem dX1_choice_83 : decode cX1_choice 83 = .ok (.getfield 9, 3) := by decide +kernel
theorem dX1_choice_86 : decode cX1_choice 86 = .ok (.bipush 41, 2) := by decide +kernel
theorem dX1_choice_88 : decode cX1_choice 88 = .ok (.invokevirtual 78, 3) := by decide +kernel
theorem dX1_choice_91 : decode cX1_choice 91 = .ok (.aload_n 0, 1) := by decide +kernel
theorem dX1_choice_92 : decode cX1_choice 92 = .ok (.getfield 15, 3) := by decide +kernel
theorem dX1_choice_95 : decode cX1_choice 95 = .ok (.iload_n 2, 1) := by decide +kernel
theorem dX1_choice_96 : decode cX1_choice 96 = .ok (.iconst 0, 1) := by decide +kernel
theorem dX1_choice_97 : decode cX1_choice 97 = .ok (.invokevirtual 64, 3) := by decide +kernel
theorem dX1_choice_100 : decode cX1_choice 100 = .ok (.return_, 1) := by decide +kernel
theorem dX1_known_0 : decode cX1_known 0 = .ok (.aload_n 0, 1) := by decide +kernel
theorem dX1_known_1 : decode cX1_known 1 = .ok (.getfield 9, 3) := by decide +kernel
theorem dX1_known_4 : decode cX1_known 4 = .ok (.getfield 98, 3) := by decide +kernel
theorem dX1_known_7 : decode cX1_known 7 = .ok (.iconst 2, 1) := by decide +kernel
theorem dX1_known_8 : decode cX1_known 8 = .ok (.if_icmp .ne 16, 3) := by decide +kernel
theorem dX1_known_11 : decode cX1_known 11 = .ok (.aload_n 0, 1) := by decide +kernel
theorem dX1_known_12 : decode cX1_known 12 = .ok (.getfield 9, 3) := by decide +kernel
theorem dX1_known_15 : decode cX1_known 15 = .ok (.getfield 101, 3) := by decide +kernel
theorem dX1_known_18 : decode cX1_known 18 = .ok (.invokestatic 110, 3) := by decide +kernel
theorem dX1_known_21 : decode cX1_known 21 = .ok (.goto 4, 3) := by decide +kernel
theorem dX1_known_24 : decode cX1_known 24 = .ok (.iconst (-1), 1) := by decide +kernel
theorem dX1_known_25 : decode cX1_known 25 = .ok (.istore_n 1, 1) := by decide +kernel
theorem dX1_known_26 : decode cX1_known 26 = .ok (.iload_n 1, 1) := by decide +kernel
theorem dX1_known_27 : decode cX1_known 27 = .ok (.iconst 5, 1) := by decide +kernel
theorem dX1_known_28 : decode cX1_known 28 = .ok (.if_icmp .eq 9, 3) := by decide +kernel
theorem dX1_known_31 : decode cX1_known 31 = .ok (.iload_n 1, 1) := by decide +kernel
theorem dX1_known_32 : decode cX1_known 32 = .ok (.bipush 6, 2) := by decide +kernel
theorem dX1_known_34 : decode cX1_known 34 = .ok (.if_icmp .ne 7, 3) := by decide +kernel
theorem dX1_known_37 : decode cX1_known 37 = .ok (.iconst 1, 1) := by decide +kernel
theorem dX1_known_38 : decode cX1_known 38 = .ok (.goto 4, 3) := by decide +kernel
theorem dX1_known_41 : decode cX1_known 41 = .ok (.iconst 0, 1) := by decide +kernel
theorem dX1_known_42 : decode cX1_known 42 = .ok (.istore_n 2, 1) := by decide +kernel
theorem dX1_known_43 : decode cX1_known 43 = .ok (.iload_n 1, 1) := by decide +kernel
theorem dX1_known_44 : decode cX1_known 44 = .ok (.iconst (-1), 1) := by decide +kernel
theorem dX1_known_45 : decode cX1_known 45 = .ok (.if_icmp .eq 14, 3) := by decide +kernel
theorem dX1_known_48 : decode cX1_known 48 = .ok (.iload_n 2, 1) := by decide +kernel
theorem dX1_known_49 : decode cX1_known 49 = .ok (.ifCond .eq 19, 3) := by decide +kernel
theorem dX1_known_52 : decode cX1_known 52 = .ok (.aload_n 0, 1) := by decide +kernel
theorem dX1_known_53 : decode cX1_known 53 = .ok (.getfield 19, 3) := by decide +kernel
theorem dX1_known_56 : decode cX1_known 56 = .ok (.ifCond .ne 12, 3) := by decide +kernel
theorem dX1_known_59 : decode cX1_known 59 = .ok (.aload_n 0, 1) := by decide +kernel
theorem dX1_known_60 : decode cX1_known 60 = .ok (.getfield 9, 3) := by decide +kernel
theorem dX1_known_63 : decode cX1_known 63 = .ok (.iconst 1, 1) := by decide +kernel
theorem dX1_known_64 : decode cX1_known 64 = .ok (.invokevirtual 85, 3) := by decide +kernel
theorem dX1_known_67 : decode cX1_known 67 = .ok (.return_, 1) := by decide +kernel
theorem dX1_known_68 : decode cX1_known 68 = .ok (.aload_n 0, 1) := by decide +kernel
theorem dX1_known_69 : decode cX1_known 69 = .ok (.getfield 15, 3) := by decide +kernel
theorem dX1_known_72 : decode cX1_known 72 = .ok (.iconst 1, 1) := by decide +kernel
theorem dX1_known_73 : decode cX1_known 73 = .ok (.iload_n 1, 1) := by decide +kernel
theorem dX1_known_74 : decode cX1_known 74 = .ok (.invokevirtual 64, 3) := by decide +kernel
theorem dX1_known_77 : decode cX1_known 77 = .ok (.aload_n 0, 1) := by decide +kernel
theorem dX1_known_78 : decode cX1_known 78 = .ok (.getfield 9, 3) := by decide +kernel
theorem dX1_known_81 : decode cX1_known 81 = .ok (.invokevirtual 23, 3) := by decide +kernel
theorem dX1_known_84 : decode cX1_known 84 = .ok (.return_, 1) := by decide +kernel
theorem dX1_knownOf_0 : decode cX1_knownOf 0 = .ok (.iload_n 0, 1) := by decide +kernel
theorem dX1_knownOf_1 : decode cX1_knownOf 1 = .ok (.bipush 12, 2) := by decide +kernel
theorem dX1_knownOf_3 : decode cX1_knownOf 3 = .ok (.if_icmp .ne 6, 3) := by decide +kernel
theorem dX1_knownOf_6 : decode cX1_knownOf 6 = .ok (.bipush 6, 2) := by decide +kernel
theorem dX1_knownOf_8 : decode cX1_knownOf 8 = .ok (.ireturn, 1) := by decide +kernel
theorem dX1_knownOf_9 : decode cX1_knownOf 9 = .ok (.iload_n 0, 1) := by decide +kernel
theorem dX1_knownOf_10 : decode cX1_knownOf 10 = .ok (.bipush 15, 2) := by decide +kernel
theorem dX1_knownOf_12 : decode cX1_knownOf 12 = .ok (.if_icmp .lt 16, 3) := by decide +kernel
theorem dX1_knownOf_15 : decode cX1_knownOf 15 = .ok (.iload_n 0, 1) := by decide +kernel
theorem dX1_knownOf_16 : decode cX1_knownOf 16 = .ok (.bipush 20, 2) := by decide +kernel
theorem dX1_knownOf_18 : decode cX1_knownOf 18 = .ok (.if_icmp .gt 10, 3) := by decide +kernel
theorem dX1_knownOf_21 : decode cX1_knownOf 21 = .ok (.iload_n 0, 1) := by decide +kernel
theorem dX1_knownOf_22 : decode cX1_knownOf 22 = .ok (.bipush 15, 2) := by decide +kernel
theorem dX1_knownOf_24 : decode cX1_knownOf 24 = .ok (.isub, 1) := by decide +kernel
theorem dX1_knownOf_25 : decode cX1_knownOf 25 = .ok (.goto 4, 3) := by decide +kernel
theorem dX1_knownOf_28 : decode cX1_knownOf 28 = .ok (.iconst (-1), 1) := by decide +kernel
theorem dX1_knownOf_29 : decode cX1_knownOf 29 = .ok (.ireturn, 1) := by decide +kernel
theorem dX1_passOpening_0 : decode cX1_passOpening 0 = .ok (.iload_n 1, 1) := by decide +kernel
theorem dX1_passOpening_1 : decode cX1_passOpening 1 = .ok (.bipush 7, 2) := by decide +kernel
theorem dX1_passOpening_3 : decode cX1_passOpening 3 = .ok (.if_icmp .lt 13, 3) := by decide +kernel
theorem dX1_passOpening_6 : decode cX1_passOpening 6 = .ok (.aload_n 0, 1) := by decide +kernel
theorem dX1_passOpening_7 : decode cX1_passOpening 7 = .ok (.getfield 9, 3) := by decide +kernel
theorem dX1_passOpening_10 : decode cX1_passOpening 10 = .ok (.iconst 5, 1) := by decide +kernel
theorem dX1_passOpening_11 : decode cX1_passOpening 11 = .ok (.invokevirtual 85, 3) := by decide +kernel
theorem dX1_passOpening_14 : decode cX1_passOpening 14 = .ok (.iconst 0, 1) := by decide +kernel
theorem dX1_passOpening_15 : decode cX1_passOpening 15 = .ok (.ireturn, 1) := by decide +kernel
theorem dX1_passOpening_16 : decode cX1_passOpening 16 = .ok (.aload_n 0, 1) := by decide +kernel
theorem dX1_passOpening_17 : decode cX1_passOpening 17 = .ok (.getfield 9, 3) := by decide +kernel
theorem dX1_passOpening_20 : decode cX1_passOpening 20 = .ok (.invokevirtual 23, 3) := by decide +kernel
theorem dX1_passOpening_23 : decode cX1_passOpening 23 = .ok (.iconst 1, 1) := by decide +kernel
theorem dX1_passOpening_24 : decode cX1_passOpening 24 = .ok (.ireturn, 1) := by decide +kernel
theorem dX2_init_0 : decode cX2_init 0 = .ok (.aload_n 0, 1) := by decide +kernel
theorem dX2_init_1 : decode cX2_init 1 = .ok (.invokespecial 1, 3) := by decide +kernel
theorem dX2_init_4 : decode cX2_init 4 = .ok (.aload_n 0, 1) := by decide +kernel
theorem dX2_init_5 : decode cX2_init 5 = .ok (.bipush 7, 2) := by decide +kernel
theorem dX2_init_7 : decode cX2_init 7 = .ok (.newarray .int, 2) := by decide +kernel
theorem dX2_init_9 : decode cX2_init 9 = .ok (.putfield 7, 3) := by decide +kernel
theorem dX2_init_12 : decode cX2_init 12 = .ok (.aload_n 0, 1) := by decide +kernel
theorem dX2_init_13 : decode cX2_init 13 = .ok (.bipush 80, 2) := by decide +kernel
theorem dX2_init_15 : decode cX2_init 15 = .ok (.newarray .int, 2) := by decide +kernel
theorem dX2_init_17 : decode cX2_init 17 = .ok (.putfield 13, 3) := by decide +kernel
theorem dX2_init_20 : decode cX2_init 20 = .ok (.return_, 1) := by decide +kernel
theorem dX2_valueOf_0 : decode cX2_valueOf 0 = .ok (.iconst 0, 1) := by decide +kernel
theorem dX2_valueOf_1 : decode cX2_valueOf 1 = .ok (.istore 4, 2) := by decide +kernel
theorem dX2_valueOf_3 : decode cX2_valueOf 3 = .ok (.iload_n 2, 1) := by decide +kernel
theorem dX2_valueOf_4 : decode cX2_valueOf 4 = .ok (.iconst 0, 1) := by decide +kernel
theorem dX2_valueOf_5 : decode cX2_valueOf 5 = .ok (.invokestatic 16, 3) := by decide +kernel
theorem dX2_valueOf_8 : decode cX2_valueOf 8 = .ok (.istore 5, 2) := by decide +kernel
theorem dX2_valueOf_10 : decode cX2_valueOf 10 = .ok (.iload 5, 2) := by decide +kernel
theorem dX2_valueOf_12 : decode cX2_valueOf 12 = .ok (.iload_n 3, 1) := by decide +kernel
theorem dX2_valueOf_13 : decode cX2_valueOf 13 = .ok (.if_icmp .ge 202, 3) := by decide +kernel
theorem dX2_valueOf_16 : decode cX2_valueOf 16 = .ok (.iload 5, 2) := by decide +kernel
theorem dX2_valueOf_18 : decode cX2_valueOf 18 = .ok (.aload_n 1, 1) := by decide +kernel
theorem dX2_valueOf_19 : decode cX2_valueOf 19 = .ok (.getfield 22, 3) := by decide +kernel
theorem dX2_valueOf_22 : decode cX2_valueOf 22 = .ok (.arraylength, 1) := by decide +kernel
theorem dX2_valueOf_23 : decode cX2_valueOf 23 = .ok (.if_icmp .ge 192, 3) := by decide +kernel
theorem dX2_valueOf_26 : decode cX2_valueOf 26 = .ok (.aload_n 1, 1) := by decide +kernel
theorem dX2_valueOf_27 : decode cX2_valueOf 27 = .ok (.getfield 22, 3) := by decide +kernel
theorem dX2_valueOf_30 : decode cX2_valueOf 30 = .ok (.iload 5, 2) := by decide +kernel
theorem dX2_valueOf_32 : decode cX2_valueOf 32 = .ok (.iaload, 1) := by decide +kernel
theorem dX2_valueOf_33 : decode cX2_valueOf 33 = .ok (.bipush 16, 2) := by decide +kernel
theorem dX2_valueOf_35 : decode cX2_valueOf 35 = .ok (.irem, 1) := by decide +kernel
theorem dX2_valueOf_36 : decode cX2_valueOf 36 = .ok (.istore 6, 2) := by decide +kernel
theorem dX2_valueOf_38 : decode cX2_valueOf 38 = .ok (.iload 6, 2) := by decide +kernel
theorem dX2_valueOf_40 : decode cX2_valueOf 40 = .ok (.invokestatic 27, 3) := by decide +kernel
theorem dX2_valueOf_43 : decode cX2_valueOf 43 = .ok (.istore 7, 2) := by decide +kernel
theorem dX2_valueOf_45 : decode cX2_valueOf 45 = .ok (.iload 4, 2) := by decide +kernel
theorem dX2_valueOf_47 : decode cX2_valueOf 47 = .ok (.iload 7, 2) := by decide +kernel
theorem dX2_valueOf_49 : decode cX2_valueOf 49 = .ok (.if_icmp .lt 18, 3) := by decide +kernel
theorem dX2_valueOf_52 : decode cX2_valueOf 52 = .ok (.iload 4, 2) := by decide +kernel
theorem dX2_valueOf_54 : decode cX2_valueOf 54 = .ok (.iload 7, 2) := by decide +kernel
theorem dX2_valueOf_56 : decode cX2_valueOf 56 = .ok (.isub, 1) := by decide +kernel
theorem dX2_valueOf_57 : decode cX2_valueOf 57 = .ok (.iconst 3, 1) := by decide +kernel
theorem dX2_valueOf_58 : decode cX2_valueOf 58 = .ok (.iadd, 1) := by decide +kernel
theorem dX2_valueOf_59 : decode cX2_valueOf 59 = .ok (.aload_n 0, 1) := by decide +kernel
theorem dX2_valueOf_60 : decode cX2_valueOf 60 = .ok (.getfield 13, 3) := by decide +kernel
theorem dX2_valueOf_63 : decode cX2_valueOf 63 = .ok (.arraylength, 1) := by decide +kernel
theorem dX2_valueOf_64 : decode cX2_valueOf 64 = .ok (.if_icmp .le 5, 3) := by decide +kernel
theorem dX2_valueOf_67 : decode cX2_valueOf 67 = .ok (.iconst 0, 1) := by decide +kernel
theorem dX2_valueOf_68 : decode cX2_valueOf 68 = .ok (.ireturn, 1) := by decide +kernel
theorem dX2_valueOf_69 : decode cX2_valueOf 69 = .ok (.iload 4, 2) := by decide +kernel
theorem dX2_valueOf_71 : decode cX2_valueOf 71 = .ok (.iload 7, 2) := by decide +kernel
theorem dX2_valueOf_73 : decode cX2_valueOf 73 = .ok (.isub, 1) := by decide +kernel
theorem dX2_valueOf_74 : decode cX2_valueOf 74 = .ok (.istore 4, 2) := by decide +kernel
theorem dX2_valueOf_76 : decode cX2_valueOf 76 = .ok (.aload_n 0, 1) := by decide +kernel
theorem dX2_valueOf_77 : decode cX2_valueOf 77 = .ok (.getfield 13, 3) := by decide +kernel
theorem dX2_valueOf_80 : decode cX2_valueOf 80 = .ok (.iload 4, 2) := by decide +kernel
theorem dX2_valueOf_82 : decode cX2_valueOf 82 = .ok (.iaload, 1) := by decide +kernel
theorem dX2_valueOf_83 : decode cX2_valueOf 83 = .ok (.istore 8, 2) := by decide +kernel
theorem dX2_valueOf_85 : decode cX2_valueOf 85 = .ok (.aload_n 0, 1) := by decide +kernel
theorem dX2_valueOf_86 : decode cX2_valueOf 86 = .ok (.getfield 13, 3) := by decide +kernel
theorem dX2_valueOf_89 : decode cX2_valueOf 89 = .ok (.iload 4, 2) := by decide +kernel
theorem dX2_valueOf_91 : decode cX2_valueOf 91 = .ok (.iconst 1, 1) := by decide +kernel
theorem dX2_valueOf_92 : decode cX2_valueOf 92 = .ok (.iadd, 1) := by decide +kernel
theorem dX2_valueOf_93 : decode cX2_valueOf 93 = .ok (.iaload, 1) := by decide +kernel
theorem dX2_valueOf_94 : decode cX2_valueOf 94 = .ok (.istore 9, 2) := by decide +kernel
theorem dX2_valueOf_96 : decode cX2_valueOf 96 = .ok (.iload 6, 2) := by decide +kernel
theorem dX2_valueOf_98 : decode cX2_valueOf 98 = .ok (.iconst 2, 1) := by decide +kernel
theorem dX2_valueOf_99 : decode cX2_valueOf 99 = .ok (.if_icmp .ge 15, 3) := by decide +kernel
theorem dX2_valueOf_102 : decode cX2_valueOf 102 = .ok (.aload_n 1, 1) := by decide +kernel
theorem dX2_valueOf_103 : decode cX2_valueOf 103 = .ok (.getfield 22, 3) := by decide +kernel
theorem dX2_valueOf_106 : decode cX2_valueOf 106 = .ok (.iload 5, 2) := by decide +kernel
theorem dX2_valueOf_108 : decode cX2_valueOf 108 = .ok (.iaload, 1) := by decide +kernel
theorem dX2_valueOf_109 : decode cX2_valueOf 109 = .ok (.bipush 16, 2) := by decide +kernel
theorem dX2_valueOf_111 : decode cX2_valueOf 111 = .ok (.idiv, 1) := by decide +kernel
theorem dX2_valueOf_112 : decode cX2_valueOf 112 = .ok (.istore 8, 2) := by decide +kernel
theorem dX2_valueOf_114 : decode cX2_valueOf 114 = .ok (.iload 6, 2) := by decide +kernel
theorem dX2_valueOf_116 : decode cX2_valueOf 116 = .ok (.iconst 1, 1) := by decide +kernel
theorem dX2_valueOf_117 : decode cX2_valueOf 117 = .ok (.if_icmp .ne 26, 3) := by decide +kernel
theorem dX2_valueOf_120 : decode cX2_valueOf 120 = .ok (.iload 8, 2) := by decide +kernel
theorem dX2_valueOf_122 : decode cX2_valueOf 122 = .ok (.aload_n 0, 1) := by decide +kernel
theorem dX2_valueOf_123 : decode cX2_valueOf 123 = .ok (.getfield 7, 3) := by decide +kernel
theorem dX2_valueOf_126 : decode cX2_valueOf 126 = .ok (.arraylength, 1) := by decide +kernel
theorem dX2_valueOf_127 : decode cX2_valueOf 127 = .ok (.if_icmp .ge 13, 3) := by decide +kernel
theorem dX2_valueOf_130 : decode cX2_valueOf 130 = .ok (.aload_n 0, 1) := by decide +kernel
theorem dX2_valueOf_131 : decode cX2_valueOf 131 = .ok (.getfield 7, 3) := by decide +kernel
theorem dX2_valueOf_134 : decode cX2_valueOf 134 = .ok (.iload 8, 2) := by decide +kernel
theorem dX2_valueOf_136 : decode cX2_valueOf 136 = .ok (.iaload, 1) := by decide +kernel
theorem dX2_valueOf_137 : decode cX2_valueOf 137 = .ok (.goto 4, 3) := by decide +kernel
theorem dX2_valueOf_140 : decode cX2_valueOf 140 = .ok (.iconst 0, 1) := by decide +kernel
theorem dX2_valueOf_141 : decode cX2_valueOf 141 = .ok (.istore 8, 2) := by decide +kernel
theorem dX2_valueOf_143 : decode cX2_valueOf 143 = .ok (.iload 6, 2) := by decide +kernel
theorem dX2_valueOf_145 : decode cX2_valueOf 145 = .ok (.bipush 15, 2) := by decide +kernel
theorem dX2_valueOf_147 : decode cX2_valueOf 147 = .ok (.if_icmp .ne 24, 3) := by decide +kernel
theorem dX2_valueOf_150 : decode cX2_valueOf 150 = .ok (.iload 8, 2) := by decide +kernel
theorem dX2_valueOf_152 : decode cX2_valueOf 152 = .ok (.ifCond .eq 8, 3) := by decide +kernel
theorem dX2_valueOf_155 : decode cX2_valueOf 155 = .ok (.iload 9, 2) := by decide +kernel
theorem dX2_valueOf_157 : decode cX2_valueOf 157 = .ok (.goto 12, 3) := by decide +kernel
theorem dX2_valueOf_160 : decode cX2_valueOf 160 = .ok (.aload_n 0, 1) := by decide +kernel
theorem dX2_valueOf_161 : decode cX2_valueOf 161 = .ok (.getfield 13, 3) := by decide +kernel
theorem dX2_valueOf_164 : decode cX2_valueOf 164 = .ok (.iload 4, 2) := by decide +kernel
theorem dX2_valueOf_166 : decode cX2_valueOf 166 = .ok (.iconst 2, 1) := by decide +kernel
theorem dX2_valueOf_167 : decode cX2_valueOf 167 = .ok (.iadd, 1) := by decide +kernel
theorem dX2_valueOf_168 : decode cX2_valueOf 168 = .ok (.iaload, 1) := by decide +kernel
theorem dX2_valueOf_169 : decode cX2_valueOf 169 = .ok (.istore 9, 2) := by decide +kernel
theorem dX2_valueOf_171 : decode cX2_valueOf 171 = .ok (.iload 6, 2) := by decide +kernel
theorem dX2_valueOf_173 : decode cX2_valueOf 173 = .ok (.iload 8, 2) := by decide +kernel
theorem dX2_valueOf_175 : decode cX2_valueOf 175 = .ok (.i2l, 1) := by decide +kernel
theorem dX2_valueOf_176 : decode cX2_valueOf 176 = .ok (.iload 9, 2) := by decide +kernel
theorem dX2_valueOf_178 : decode cX2_valueOf 178 = .ok (.i2l, 1) := by decide +kernel
theorem dX2_valueOf_179 : decode cX2_valueOf 179 = .ok (.invokestatic 31, 3) := by decide +kernel
theorem dX2_valueOf_182 : decode cX2_valueOf 182 = .ok (.lstore 10, 2) := by decide +kernel
theorem dX2_valueOf_184 : decode cX2_valueOf 184 = .ok (.aload_n 0, 1) := by decide +kernel
theorem dX2_valueOf_185 : decode cX2_valueOf 185 = .ok (.getfield 13, 3) := by decide +kernel
theorem dX2_valueOf_188 : decode cX2_valueOf 188 = .ok (.iload 4, 2) := by decide +kernel
theorem dX2_valueOf_190 : decode cX2_valueOf 190 = .ok (.ldc2_w 35, 3) := by decide +kernel
theorem dX2_valueOf_193 : decode cX2_valueOf 193 = .ok (.ldc2_w 37, 3) := by decide +kernel
theorem dX2_valueOf_196 : decode cX2_valueOf 196 = .ok (.lload 10, 2) := by decide +kernel
theorem dX2_valueOf_198 : decode cX2_valueOf 198 = .ok (.invokestatic 39, 3) := by decide +kernel
theorem dX2_valueOf_201 : decode cX2_valueOf 201 = .ok (.invokestatic 43, 3) := by decide +kernel
theorem dX2_valueOf_204 : decode cX2_valueOf 204 = .ok (.l2i, 1) := by decide +kernel
theorem dX2_valueOf_205 : decode cX2_valueOf 205 = .ok (.iastore, 1) := by decide +kernel
theorem dX2_valueOf_206 : decode cX2_valueOf 206 = .ok (.iinc 4 1, 3) := by decide +kernel
theorem dX2_valueOf_209 : decode cX2_valueOf 209 = .ok (.iinc 5 1, 3) := by decide +kernel
theorem dX2_valueOf_212 : decode cX2_valueOf 212 = .ok (.goto (-202), 3) := by decide +kernel
theorem dX2_valueOf_215 : decode cX2_valueOf 215 = .ok (.iload 4, 2) := by decide +kernel
theorem dX2_valueOf_217 : decode cX2_valueOf 217 = .ok (.iconst 1, 1) := by decide +kernel
theorem dX2_valueOf_218 : decode cX2_valueOf 218 = .ok (.if_icmp .ne 12, 3) := by decide +kernel
theorem dX2_valueOf_221 : decode cX2_valueOf 221 = .ok (.aload_n 0, 1) := by decide +kernel
theorem dX2_valueOf_222 : decode cX2_valueOf 222 = .ok (.getfield 13, 3) := by decide +kernel
theorem dX2_valueOf_225 : decode cX2_valueOf 225 = .ok (.iconst 0, 1) := by decide +kernel
theorem dX2_valueOf_226 : decode cX2_valueOf 226 = .ok (.iaload, 1) := by decide +kernel
theorem dX2_valueOf_227 : decode cX2_valueOf 227 = .ok (.goto 4, 3) := by decide +kernel
theorem dX2_valueOf_230 : decode cX2_valueOf 230 = .ok (.iconst 0, 1) := by decide +kernel
theorem dX2_valueOf_231 : decode cX2_valueOf 231 = .ok (.ireturn, 1) := by decide +kernel
theorem dX2_needsOf_0 : decode cX2_needsOf 0 = .ok (.iload_n 0, 1) := by decide +kernel
theorem dX2_needsOf_1 : decode cX2_needsOf 1 = .ok (.iconst 2, 1) := by decide +kernel
theorem dX2_needsOf_2 : decode cX2_needsOf 2 = .ok (.if_icmp .ge 5, 3) := by decide +kernel
theorem dX2_needsOf_5 : decode cX2_needsOf 5 = .ok (.iconst 0, 1) := by decide +kernel
theorem dX2_needsOf_6 : decode cX2_needsOf 6 = .ok (.ireturn, 1) := by decide +kernel
theorem dX2_needsOf_7 : decode cX2_needsOf 7 = .ok (.iload_n 0, 1) := by decide +kernel
theorem dX2_needsOf_8 : decode cX2_needsOf 8 = .ok (.iconst 2, 1) := by decide +kernel
theorem dX2_needsOf_9 : decode cX2_needsOf 9 = .ok (.if_icmp .ne 5, 3) := by decide +kernel
theorem dX2_needsOf_12 : decode cX2_needsOf 12 = .ok (.iconst 1, 1) := by decide +kernel
theorem dX2_needsOf_13 : decode cX2_needsOf 13 = .ok (.ireturn, 1) := by decide +kernel
theorem dX2_needsOf_14 : decode cX2_needsOf 14 = .ok (.iload_n 0, 1) := by decide +kernel
theorem dX2_needsOf_15 : decode cX2_needsOf 15 = .ok (.bipush 15, 2) := by decide +kernel
theorem dX2_needsOf_17 : decode cX2_needsOf 17 = .ok (.if_icmp .ne 7, 3) := by decide +kernel
theorem dX2_needsOf_20 : decode cX2_needsOf 20 = .ok (.iconst 3, 1) := by decide +kernel
theorem dX2_needsOf_21 : decode cX2_needsOf 21 = .ok (.goto 4, 3) := by decide +kernel
theorem dX2_needsOf_24 : decode cX2_needsOf 24 = .ok (.iconst 2, 1) := by decide +kernel
theorem dX2_needsOf_25 : decode cX2_needsOf 25 = .ok (.ireturn, 1) := by decide +kernel
theorem dX2_joined_0 : decode cX2_joined 0 = .ok (.iload_n 0, 1) := by decide +kernel
theorem dX2_joined_1 : decode cX2_joined 1 = .ok (.tableswitch 213 2 15 #[199, 71, 75, 79, 83, 99, 115, 121, 127, 139, 151, 163, 181, 211], 71) := by decide +kernel
theorem dX2_joined_72 : decode cX2_joined 72 = .ok (.lload_n 1, 1) := by decide +kernel
theorem dX2_joined_73 : decode cX2_joined 73 = .ok (.lload_n 3, 1) := by decide +kernel
theorem dX2_joined_74 : decode cX2_joined 74 = .ok (.ladd, 1) := by decide +kernel
theorem dX2_joined_75 : decode cX2_joined 75 = .ok (.lreturn, 1) := by decide +kernel
theorem dX2_joined_76 : decode cX2_joined 76 = .ok (.lload_n 1, 1) := by decide +kernel
theorem dX2_joined_77 : decode cX2_joined 77 = .ok (.lload_n 3, 1) := by decide +kernel
theorem dX2_joined_78 : decode cX2_joined 78 = .ok (.lsub, 1) := by decide +kernel
theorem dX2_joined_79 : decode cX2_joined 79 = .ok (.lreturn, 1) := by decide +kernel
theorem dX2_joined_80 : decode cX2_joined 80 = .ok (.lload_n 1, 1) := by decide +kernel
theorem dX2_joined_81 : decode cX2_joined 81 = .ok (.lload_n 3, 1) := by decide +kernel
theorem dX2_joined_82 : decode cX2_joined 82 = .ok (.lmul, 1) := by decide +kernel
theorem dX2_joined_83 : decode cX2_joined 83 = .ok (.lreturn, 1) := by decide +kernel
theorem dX2_joined_84 : decode cX2_joined 84 = .ok (.lload_n 3, 1) := by decide +kernel
theorem dX2_joined_85 : decode cX2_joined 85 = .ok (.lconst 0, 1) := by decide +kernel
theorem dX2_joined_86 : decode cX2_joined 86 = .ok (.lcmp, 1) := by decide +kernel
theorem dX2_joined_87 : decode cX2_joined 87 = .ok (.ifCond .ne 7, 3) := by decide +kernel
theorem dX2_joined_90 : decode cX2_joined 90 = .ok (.lconst 0, 1) := by decide +kernel
theorem dX2_joined_91 : decode cX2_joined 91 = .ok (.goto 8, 3) := by decide +kernel
theorem dX2_joined_94 : decode cX2_joined 94 = .ok (.lload_n 1, 1) := by decide +kernel
theorem dX2_joined_95 : decode cX2_joined 95 = .ok (.lload_n 3, 1) := by decide +kernel
theorem dX2_joined_96 : decode cX2_joined 96 = .ok (.invokestatic 45, 3) := by decide +kernel
theorem dX2_joined_99 : decode cX2_joined 99 = .ok (.lreturn, 1) := by decide +kernel
theorem dX2_joined_100 : decode cX2_joined 100 = .ok (.lload_n 3, 1) := by decide +kernel
theorem dX2_joined_101 : decode cX2_joined 101 = .ok (.lconst 0, 1) := by decide +kernel
theorem dX2_joined_102 : decode cX2_joined 102 = .ok (.lcmp, 1) := by decide +kernel
theorem dX2_joined_103 : decode cX2_joined 103 = .ok (.ifCond .ne 7, 3) := by decide +kernel
theorem dX2_joined_106 : decode cX2_joined 106 = .ok (.lconst 0, 1) := by decide +kernel
theorem dX2_joined_107 : decode cX2_joined 107 = .ok (.goto 8, 3) := by decide +kernel
theorem dX2_joined_110 : decode cX2_joined 110 = .ok (.lload_n 1, 1) := by decide +kernel
theorem dX2_joined_111 : decode cX2_joined 111 = .ok (.lload_n 3, 1) := by decide +kernel
theorem dX2_joined_112 : decode cX2_joined 112 = .ok (.invokestatic 48, 3) := by decide +kernel
theorem dX2_joined_115 : decode cX2_joined 115 = .ok (.lreturn, 1) := by decide +kernel
theorem dX2_joined_116 : decode cX2_joined 116 = .ok (.lload_n 1, 1) := by decide +kernel
theorem dX2_joined_117 : decode cX2_joined 117 = .ok (.lload_n 3, 1) := by decide +kernel
theorem dX2_joined_118 : decode cX2_joined 118 = .ok (.invokestatic 39, 3) := by decide +kernel
theorem dX2_joined_121 : decode cX2_joined 121 = .ok (.lreturn, 1) := by decide +kernel
theorem dX2_joined_122 : decode cX2_joined 122 = .ok (.lload_n 1, 1) := by decide +kernel
theorem dX2_joined_123 : decode cX2_joined 123 = .ok (.lload_n 3, 1) := by decide +kernel
theorem dX2_joined_124 : decode cX2_joined 124 = .ok (.invokestatic 43, 3) := by decide +kernel
theorem dX2_joined_127 : decode cX2_joined 127 = .ok (.lreturn, 1) := by decide +kernel
theorem dX2_joined_128 : decode cX2_joined 128 = .ok (.lload_n 1, 1) := by decide +kernel
theorem dX2_joined_129 : decode cX2_joined 129 = .ok (.lload_n 3, 1) := by decide +kernel
theorem dX2_joined_130 : decode cX2_joined 130 = .ok (.lcmp, 1) := by decide +kernel
theorem dX2_joined_131 : decode cX2_joined 131 = .ok (.ifCond .ge 7, 3) := by decide +kernel
theorem dX2_joined_134 : decode cX2_joined 134 = .ok (.lconst 1, 1) := by decide +kernel
theorem dX2_joined_135 : decode cX2_joined 135 = .ok (.goto 4, 3) := by decide +kernel
theorem dX2_joined_138 : decode cX2_joined 138 = .ok (.lconst 0, 1) := by decide +kernel
theorem dX2_joined_139 : decode cX2_joined 139 = .ok (.lreturn, 1) := by decide +kernel
theorem dX2_joined_140 : decode cX2_joined 140 = .ok (.lload_n 1, 1) := by decide +kernel
theorem dX2_joined_141 : decode cX2_joined 141 = .ok (.lload_n 3, 1) := by decide +kernel
theorem dX2_joined_142 : decode cX2_joined 142 = .ok (.lcmp, 1) := by decide +kernel
theorem dX2_joined_143 : decode cX2_joined 143 = .ok (.ifCond .le 7, 3) := by decide +kernel
theorem dX2_joined_146 : decode cX2_joined 146 = .ok (.lconst 1, 1) := by decide +kernel
theorem dX2_joined_147 : decode cX2_joined 147 = .ok (.goto 4, 3) := by decide +kernel
theorem dX2_joined_150 : decode cX2_joined 150 = .ok (.lconst 0, 1) := by decide +kernel
theorem dX2_joined_151 : decode cX2_joined 151 = .ok (.lreturn, 1) := by decide +kernel
theorem dX2_joined_152 : decode cX2_joined 152 = .ok (.lload_n 1, 1) := by decide +kernel
theorem dX2_joined_153 : decode cX2_joined 153 = .ok (.lload_n 3, 1) := by decide +kernel
theorem dX2_joined_154 : decode cX2_joined 154 = .ok (.lcmp, 1) := by decide +kernel
theorem dX2_joined_155 : decode cX2_joined 155 = .ok (.ifCond .ne 7, 3) := by decide +kernel
theorem dX2_joined_158 : decode cX2_joined 158 = .ok (.lconst 1, 1) := by decide +kernel
theorem dX2_joined_159 : decode cX2_joined 159 = .ok (.goto 4, 3) := by decide +kernel
theorem dX2_joined_162 : decode cX2_joined 162 = .ok (.lconst 0, 1) := by decide +kernel
theorem dX2_joined_163 : decode cX2_joined 163 = .ok (.lreturn, 1) := by decide +kernel
theorem dX2_joined_164 : decode cX2_joined 164 = .ok (.lload_n 1, 1) := by decide +kernel
theorem dX2_joined_165 : decode cX2_joined 165 = .ok (.lconst 0, 1) := by decide +kernel
theorem dX2_joined_166 : decode cX2_joined 166 = .ok (.lcmp, 1) := by decide +kernel
theorem dX2_joined_167 : decode cX2_joined 167 = .ok (.ifCond .eq 13, 3) := by decide +kernel
theorem dX2_joined_170 : decode cX2_joined 170 = .ok (.lload_n 3, 1) := by decide +kernel
theorem dX2_joined_171 : decode cX2_joined 171 = .ok (.lconst 0, 1) := by decide +kernel
theorem dX2_joined_172 : decode cX2_joined 172 = .ok (.lcmp, 1) := by decide +kernel
theorem dX2_joined_173 : decode cX2_joined 173 = .ok (.ifCond .eq 7, 3) := by decide +kernel
theorem dX2_joined_176 : decode cX2_joined 176 = .ok (.lconst 1, 1) := by decide +kernel
theorem dX2_joined_177 : decode cX2_joined 177 = .ok (.goto 4, 3) := by decide +kernel
theorem dX2_joined_180 : decode cX2_joined 180 = .ok (.lconst 0, 1) := by decide +kernel
theorem dX2_joined_181 : decode cX2_joined 181 = .ok (.lreturn, 1) := by decide +kernel
theorem dX2_joined_182 : decode cX2_joined 182 = .ok (.lload_n 1, 1) := by decide +kernel
theorem dX2_joined_183 : decode cX2_joined 183 = .ok (.lconst 0, 1) := by decide +kernel
theorem dX2_joined_184 : decode cX2_joined 184 = .ok (.lcmp, 1) := by decide +kernel
theorem dX2_joined_185 : decode cX2_joined 185 = .ok (.ifCond .ne 9, 3) := by decide +kernel
theorem dX2_joined_188 : decode cX2_joined 188 = .ok (.lload_n 3, 1) := by decide +kernel
theorem dX2_joined_189 : decode cX2_joined 189 = .ok (.lconst 0, 1) := by decide +kernel
theorem dX2_joined_190 : decode cX2_joined 190 = .ok (.lcmp, 1) := by decide +kernel
theorem dX2_joined_191 : decode cX2_joined 191 = .ok (.ifCond .eq 7, 3) := by decide +kernel
theorem dX2_joined_194 : decode cX2_joined 194 = .ok (.lconst 1, 1) := by decide +kernel
theorem dX2_joined_195 : decode cX2_joined 195 = .ok (.goto 4, 3) := by decide +kernel
theorem dX2_joined_198 : decode cX2_joined 198 = .ok (.lconst 0, 1) := by decide +kernel
theorem dX2_joined_199 : decode cX2_joined 199 = .ok (.lreturn, 1) := by decide +kernel
theorem dX2_joined_200 : decode cX2_joined 200 = .ok (.lload_n 1, 1) := by decide +kernel
theorem dX2_joined_201 : decode cX2_joined 201 = .ok (.lconst 0, 1) := by decide +kernel
theorem dX2_joined_202 : decode cX2_joined 202 = .ok (.lcmp, 1) := by decide +kernel
theorem dX2_joined_203 : decode cX2_joined 203 = .ok (.ifCond .ne 7, 3) := by decide +kernel
theorem dX2_joined_206 : decode cX2_joined 206 = .ok (.lconst 1, 1) := by decide +kernel
theorem dX2_joined_207 : decode cX2_joined 207 = .ok (.goto 4, 3) := by decide +kernel
theorem dX2_joined_210 : decode cX2_joined 210 = .ok (.lconst 0, 1) := by decide +kernel
theorem dX2_joined_211 : decode cX2_joined 211 = .ok (.lreturn, 1) := by decide +kernel
theorem dX2_joined_212 : decode cX2_joined 212 = .ok (.lload_n 3, 1) := by decide +kernel
theorem dX2_joined_213 : decode cX2_joined 213 = .ok (.lreturn, 1) := by decide +kernel
theorem dX2_joined_214 : decode cX2_joined 214 = .ok (.lload_n 1, 1) := by decide +kernel
theorem dX2_joined_215 : decode cX2_joined 215 = .ok (.lreturn, 1) := by decide +kernel
theorem dX3_init_0 : decode cX3_init 0 = .ok (.aload_n 0, 1) := by decide +kernel
theorem dX3_init_1 : decode cX3_init 1 = .ok (.invokespecial 5, 3) := by decide +kernel
theorem dX3_init_4 : decode cX3_init 4 = .ok (.aload_n 0, 1) := by decide +kernel
theorem dX3_init_5 : decode cX3_init 5 = .ok (.bipush 20, 2) := by decide +kernel
theorem dX3_init_7 : decode cX3_init 7 = .ok (.bipush 123, 2) := by decide +kernel
theorem dX3_init_9 : decode cX3_init 9 = .ok (.multianewarray 13 2, 4) := by decide +kernel
theorem dX3_init_13 : decode cX3_init 13 = .ok (.putfield 15, 3) := by decide +kernel
theorem dX3_init_16 : decode cX3_init 16 = .ok (.aload_n 0, 1) := by decide +kernel
theorem dX3_init_17 : decode cX3_init 17 = .ok (.bipush 60, 2) := by decide +kernel
theorem dX3_init_19 : decode cX3_init 19 = .ok (.newarray .int, 2) := by decide +kernel
theorem dX3_init_21 : decode cX3_init 21 = .ok (.putfield 18, 3) := by decide +kernel
theorem dX3_init_24 : decode cX3_init 24 = .ok (.aload_n 0, 1) := by decide +kernel
theorem dX3_init_25 : decode cX3_init 25 = .ok (.invokevirtual 22, 3) := by decide +kernel
theorem dX3_init_28 : decode cX3_init 28 = .ok (.return_, 1) := by decide +kernel
theorem dX3_forget_0 : decode cX3_forget 0 = .ok (.aload_n 0, 1) := by decide +kernel
theorem dX3_forget_1 : decode cX3_forget 1 = .ok (.iconst 0, 1) := by decide +kernel
theorem dX3_forget_2 : decode cX3_forget 2 = .ok (.putfield 25, 3) := by decide +kernel
theorem dX3_forget_5 : decode cX3_forget 5 = .ok (.aload_n 0, 1) := by decide +kernel
theorem dX3_forget_6 : decode cX3_forget 6 = .ok (.iconst 0, 1) := by decide +kernel
theorem dX3_forget_7 : decode cX3_forget 7 = .ok (.putfield 29, 3) := by decide +kernel
theorem dX3_forget_10 : decode cX3_forget 10 = .ok (.aload_n 0, 1) := by decide +kernel
theorem dX3_forget_11 : decode cX3_forget 11 = .ok (.iconst 0, 1) := by decide +kernel
theorem dX3_forget_12 : decode cX3_forget 12 = .ok (.putfield 32, 3) := by decide +kernel
theorem dX3_forget_15 : decode cX3_forget 15 = .ok (.return_, 1) := by decide +kernel
theorem dX3_told_0 : decode cX3_told 0 = .ok (.aload_n 0, 1) := by decide +kernel
theorem dX3_told_1 : decode cX3_told 1 = .ok (.getfield 25, 3) := by decide +kernel
theorem dX3_told_4 : decode cX3_told 4 = .ok (.bipush 60, 2) := by decide +kernel
theorem dX3_told_6 : decode cX3_told 6 = .ok (.invokestatic 35, 3) := by decide +kernel
theorem dX3_told_9 : decode cX3_told 9 = .ok (.ireturn, 1) := by decide +kernel
theorem dX3_remember_0 : decode cX3_remember 0 = .ok (.aload_n 0, 1) := by decide +kernel
theorem dX3_remember_1 : decode cX3_remember 1 = .ok (.getfield 15, 3) := by decide +kernel
theorem dX3_remember_4 : decode cX3_remember 4 = .ok (.aload_n 0, 1) := by decide +kernel
theorem dX3_remember_5 : decode cX3_remember 5 = .ok (.getfield 29, 3) := by decide +kernel
theorem dX3_remember_8 : decode cX3_remember 8 = .ok (.bipush 20, 2) := by decide +kernel
theorem dX3_remember_10 : decode cX3_remember 10 = .ok (.invokestatic 41, 3) := by decide +kernel
theorem dX3_remember_13 : decode cX3_remember 13 = .ok (.aaload, 1) := by decide +kernel
theorem dX3_remember_14 : decode cX3_remember 14 = .ok (.astore_n 2, 1) := by decide +kernel
theorem dX3_remember_15 : decode cX3_remember 15 = .ok (.aload_n 1, 1) := by decide +kernel
theorem dX3_remember_16 : decode cX3_remember 16 = .ok (.aload_n 2, 1) := by decide +kernel
theorem dX3_remember_17 : decode cX3_remember 17 = .ok (.invokevirtual 44, 3) := by decide +kernel
theorem dX3_remember_20 : decode cX3_remember 20 = .ok (.aload_n 2, 1) := by decide +kernel
theorem dX3_remember_21 : decode cX3_remember 21 = .ok (.bipush 62, 2) := by decide +kernel
theorem dX3_remember_23 : decode cX3_remember 23 = .ok (.aload_n 0, 1) := by decide +kernel
theorem dX3_remember_24 : decode cX3_remember 24 = .ok (.getfield 25, 3) := by decide +kernel
theorem dX3_remember_27 : decode cX3_remember 27 = .ok (.iastore, 1) := by decide +kernel
theorem dX3_remember_28 : decode cX3_remember 28 = .ok (.aload_n 0, 1) := by decide +kernel
theorem dX3_remember_29 : decode cX3_remember 29 = .ok (.getfield 18, 3) := by decide +kernel
theorem dX3_remember_32 : decode cX3_remember 32 = .ok (.iconst 0, 1) := by decide +kernel
theorem dX3_remember_33 : decode cX3_remember 33 = .ok (.aload_n 2, 1) := by decide +kernel
theorem dX3_remember_34 : decode cX3_remember 34 = .ok (.bipush 63, 2) := by decide +kernel
theorem dX3_remember_36 : decode cX3_remember 36 = .ok (.bipush 60, 2) := by decide +kernel
theorem dX3_remember_38 : decode cX3_remember 38 = .ok (.invokestatic 48, 3) := by decide +kernel
theorem dX3_remember_41 : decode cX3_remember 41 = .ok (.aload_n 0, 1) := by decide +kernel
theorem dX3_remember_42 : decode cX3_remember 42 = .ok (.aload_n 0, 1) := by decide +kernel
theorem dX3_remember_43 : decode cX3_remember 43 = .ok (.getfield 29, 3) := by decide +kernel
theorem dX3_remember_46 : decode cX3_remember 46 = .ok (.iconst 1, 1) := by decide +kernel
theorem dX3_remember_47 : decode cX3_remember 47 = .ok (.iadd, 1) := by decide +kernel
theorem dX3_remember_48 : decode cX3_remember 48 = .ok (.bipush 20, 2) := by decide +kernel
theorem dX3_remember_50 : decode cX3_remember 50 = .ok (.irem, 1) := by decide +kernel
theorem dX3_remember_51 : decode cX3_remember 51 = .ok (.putfield 29, 3) := by decide +kernel
theorem dX3_remember_54 : decode cX3_remember 54 = .ok (.aload_n 0, 1) := by decide +kernel
theorem dX3_remember_55 : decode cX3_remember 55 = .ok (.bipush 20, 2) := by decide +kernel
theorem dX3_remember_57 : decode cX3_remember 57 = .ok (.aload_n 0, 1) := by decide +kernel
theorem dX3_remember_58 : decode cX3_remember 58 = .ok (.getfield 32, 3) := by decide +kernel
theorem dX3_remember_61 : decode cX3_remember 61 = .ok (.iconst 1, 1) := by decide +kernel
theorem dX3_remember_62 : decode cX3_remember 62 = .ok (.iadd, 1) := by decide +kernel
theorem dX3_remember_63 : decode cX3_remember 63 = .ok (.invokestatic 35, 3) := by decide +kernel
theorem dX3_remember_66 : decode cX3_remember 66 = .ok (.putfield 32, 3) := by decide +kernel
theorem dX3_remember_69 : decode cX3_remember 69 = .ok (.return_, 1) := by decide +kernel
theorem dX3_restore_0 : decode cX3_restore 0 = .ok (.aload_n 0, 1) := by decide +kernel
theorem dX3_restore_1 : decode cX3_restore 1 = .ok (.getfield 32, 3) := by decide +kernel
theorem dX3_restore_4 : decode cX3_restore 4 = .ok (.ifCond .gt 4, 3) := by decide +kernel
theorem dX3_restore_7 : decode cX3_restore 7 = .ok (.return_, 1) := by decide +kernel
theorem dX3_restore_8 : decode cX3_restore 8 = .ok (.aload_n 0, 1) := by decide +kernel
theorem dX3_restore_9 : decode cX3_restore 9 = .ok (.aload_n 0, 1) := by decide +kernel
theorem dX3_restore_10 : decode cX3_restore 10 = .ok (.getfield 29, 3) := by decide +kernel
theorem dX3_restore_13 : decode cX3_restore 13 = .ok (.iconst 1, 1) := by decide +kernel
theorem dX3_restore_14 : decode cX3_restore 14 = .ok (.isub, 1) := by decide +kernel
theorem dX3_restore_15 : decode cX3_restore 15 = .ok (.bipush 20, 2) := by decide +kernel
theorem dX3_restore_17 : decode cX3_restore 17 = .ok (.invokestatic 41, 3) := by decide +kernel
theorem dX3_restore_20 : decode cX3_restore 20 = .ok (.putfield 29, 3) := by decide +kernel
theorem dX3_restore_23 : decode cX3_restore 23 = .ok (.aload_n 0, 1) := by decide +kernel
theorem dX3_restore_24 : decode cX3_restore 24 = .ok (.getfield 15, 3) := by decide +kernel
theorem dX3_restore_27 : decode cX3_restore 27 = .ok (.aload_n 0, 1) := by decide +kernel
theorem dX3_restore_28 : decode cX3_restore 28 = .ok (.getfield 29, 3) := by decide +kernel
theorem dX3_restore_31 : decode cX3_restore 31 = .ok (.aaload, 1) := by decide +kernel
theorem dX3_restore_32 : decode cX3_restore 32 = .ok (.astore_n 2, 1) := by decide +kernel
theorem dX3_restore_33 : decode cX3_restore 33 = .ok (.aload_n 1, 1) := by decide +kernel
theorem dX3_restore_34 : decode cX3_restore 34 = .ok (.aload_n 2, 1) := by decide +kernel
theorem dX3_restore_35 : decode cX3_restore 35 = .ok (.invokevirtual 54, 3) := by decide +kernel
theorem dX3_restore_38 : decode cX3_restore 38 = .ok (.aload_n 0, 1) := by decide +kernel
theorem dX3_restore_39 : decode cX3_restore 39 = .ok (.aload_n 2, 1) := by decide +kernel
theorem dX3_restore_40 : decode cX3_restore 40 = .ok (.bipush 62, 2) := by decide +kernel
theorem dX3_restore_42 : decode cX3_restore 42 = .ok (.iaload, 1) := by decide +kernel
theorem dX3_restore_43 : decode cX3_restore 43 = .ok (.putfield 25, 3) := by decide +kernel
theorem dX3_restore_46 : decode cX3_restore 46 = .ok (.aload_n 2, 1) := by decide +kernel
theorem dX3_restore_47 : decode cX3_restore 47 = .ok (.bipush 63, 2) := by decide +kernel
theorem dX3_restore_49 : decode cX3_restore 49 = .ok (.aload_n 0, 1) := by decide +kernel
theorem dX3_restore_50 : decode cX3_restore 50 = .ok (.getfield 18, 3) := by decide +kernel
theorem dX3_restore_53 : decode cX3_restore 53 = .ok (.iconst 0, 1) := by decide +kernel
theorem dX3_restore_54 : decode cX3_restore 54 = .ok (.bipush 60, 2) := by decide +kernel
theorem dX3_restore_56 : decode cX3_restore 56 = .ok (.invokestatic 48, 3) := by decide +kernel
theorem dX3_restore_59 : decode cX3_restore 59 = .ok (.aload_n 0, 1) := by decide +kernel
theorem dX3_restore_60 : decode cX3_restore 60 = .ok (.dup, 1) := by decide +kernel
theorem dX3_restore_61 : decode cX3_restore 61 = .ok (.getfield 32, 3) := by decide +kernel
theorem dX3_restore_64 : decode cX3_restore 64 = .ok (.iconst 1, 1) := by decide +kernel
theorem dX3_restore_65 : decode cX3_restore 65 = .ok (.isub, 1) := by decide +kernel
theorem dX3_restore_66 : decode cX3_restore 66 = .ok (.putfield 32, 3) := by decide +kernel
theorem dX3_restore_69 : decode cX3_restore 69 = .ok (.return_, 1) := by decide +kernel
theorem dX3_keepStep_0 : decode cX3_keepStep 0 = .ok (.iconst 0, 1) := by decide +kernel
theorem dX3_keepStep_1 : decode cX3_keepStep 1 = .ok (.istore_n 2, 1) := by decide +kernel
theorem dX3_keepStep_2 : decode cX3_keepStep 2 = .ok (.iload_n 2, 1) := by decide +kernel
theorem dX3_keepStep_3 : decode cX3_keepStep 3 = .ok (.aload_n 1, 1) := by decide +kernel
theorem dX3_keepStep_4 : decode cX3_keepStep 4 = .ok (.getfield 57, 3) := by decide +kernel
theorem dX3_keepStep_7 : decode cX3_keepStep 7 = .ok (.getfield 61, 3) := by decide +kernel
theorem dX3_keepStep_10 : decode cX3_keepStep 10 = .ok (.if_icmp .ge 87, 3) := by decide +kernel
theorem dX3_keepStep_13 : decode cX3_keepStep 13 = .ok (.iload_n 2, 1) := by decide +kernel
theorem dX3_keepStep_14 : decode cX3_keepStep 14 = .ok (.aload_n 1, 1) := by decide +kernel
theorem dX3_keepStep_15 : decode cX3_keepStep 15 = .ok (.getfield 66, 3) := by decide +kernel
theorem dX3_keepStep_18 : decode cX3_keepStep 18 = .ok (.arraylength, 1) := by decide +kernel
theorem dX3_keepStep_19 : decode cX3_keepStep 19 = .ok (.if_icmp .ge 78, 3) := by decide +kernel
theorem dX3_keepStep_22 : decode cX3_keepStep 22 = .ok (.aload_n 1, 1) := by decide +kernel
theorem dX3_keepStep_23 : decode cX3_keepStep 23 = .ok (.getfield 66, 3) := by decide +kernel
theorem dX3_keepStep_26 : decode cX3_keepStep 26 = .ok (.iload_n 2, 1) := by decide +kernel
theorem dX3_keepStep_27 : decode cX3_keepStep 27 = .ok (.baload, 1) := by decide +kernel
theorem dX3_keepStep_28 : decode cX3_keepStep 28 = .ok (.ifCond .eq 63, 3) := by decide +kernel
theorem dX3_keepStep_31 : decode cX3_keepStep 31 = .ok (.aload_n 1, 1) := by decide +kernel
theorem dX3_keepStep_32 : decode cX3_keepStep 32 = .ok (.iload_n 2, 1) := by decide +kernel
theorem dX3_keepStep_33 : decode cX3_keepStep 33 = .ok (.iconst 1, 1) := by decide +kernel
theorem dX3_keepStep_34 : decode cX3_keepStep 34 = .ok (.invokevirtual 70, 3) := by decide +kernel
theorem dX3_keepStep_37 : decode cX3_keepStep 37 = .ok (.iconst 4, 1) := by decide +kernel
theorem dX3_keepStep_38 : decode cX3_keepStep 38 = .ok (.ishl, 1) := by decide +kernel
theorem dX3_keepStep_39 : decode cX3_keepStep 39 = .ok (.aload_n 1, 1) := by decide +kernel
theorem dX3_keepStep_40 : decode cX3_keepStep 40 = .ok (.iload_n 2, 1) := by decide +kernel
theorem dX3_keepStep_41 : decode cX3_keepStep 41 = .ok (.iconst 0, 1) := by decide +kernel
theorem dX3_keepStep_42 : decode cX3_keepStep 42 = .ok (.invokevirtual 70, 3) := by decide +kernel
theorem dX3_keepStep_45 : decode cX3_keepStep 45 = .ok (.ior, 1) := by decide +kernel
theorem dX3_keepStep_46 : decode cX3_keepStep 46 = .ok (.istore_n 3, 1) := by decide +kernel
theorem dX3_keepStep_47 : decode cX3_keepStep 47 = .ok (.aload_n 1, 1) := by decide +kernel
theorem dX3_keepStep_48 : decode cX3_keepStep 48 = .ok (.getfield 73, 3) := by decide +kernel
theorem dX3_keepStep_51 : decode cX3_keepStep 51 = .ok (.iconst 1, 1) := by decide +kernel
theorem dX3_keepStep_52 : decode cX3_keepStep 52 = .ok (.isub, 1) := by decide +kernel
theorem dX3_keepStep_53 : decode cX3_keepStep 53 = .ok (.bipush 11, 2) := by decide +kernel
theorem dX3_keepStep_55 : decode cX3_keepStep 55 = .ok (.ishl, 1) := by decide +kernel
theorem dX3_keepStep_56 : decode cX3_keepStep 56 = .ok (.iload_n 2, 1) := by decide +kernel
theorem dX3_keepStep_57 : decode cX3_keepStep 57 = .ok (.bipush 8, 2) := by decide +kernel
theorem dX3_keepStep_59 : decode cX3_keepStep 59 = .ok (.ishl, 1) := by decide +kernel
theorem dX3_keepStep_60 : decode cX3_keepStep 60 = .ok (.ior, 1) := by decide +kernel
theorem dX3_keepStep_61 : decode cX3_keepStep 61 = .ok (.iload_n 3, 1) := by decide +kernel
theorem dX3_keepStep_62 : decode cX3_keepStep 62 = .ok (.ior, 1) := by decide +kernel
theorem dX3_keepStep_63 : decode cX3_keepStep 63 = .ok (.istore 4, 2) := by decide +kernel
theorem dX3_keepStep_65 : decode cX3_keepStep 65 = .ok (.aload_n 0, 1) := by decide +kernel
theorem dX3_keepStep_66 : decode cX3_keepStep 66 = .ok (.getfield 18, 3) := by decide +kernel
theorem dX3_keepStep_69 : decode cX3_keepStep 69 = .ok (.aload_n 0, 1) := by decide +kernel
theorem dX3_keepStep_70 : decode cX3_keepStep 70 = .ok (.getfield 25, 3) := by decide +kernel
theorem dX3_keepStep_73 : decode cX3_keepStep 73 = .ok (.bipush 60, 2) := by decide +kernel
theorem dX3_keepStep_75 : decode cX3_keepStep 75 = .ok (.invokestatic 41, 3) := by decide +kernel
theorem dX3_keepStep_78 : decode cX3_keepStep 78 = .ok (.iload 4, 2) := by decide +kernel
theorem dX3_keepStep_80 : decode cX3_keepStep 80 = .ok (.iastore, 1) := by decide +kernel
theorem dX3_keepStep_81 : decode cX3_keepStep 81 = .ok (.aload_n 0, 1) := by decide +kernel
theorem dX3_keepStep_82 : decode cX3_keepStep 82 = .ok (.dup, 1) := by decide +kernel
theorem dX3_keepStep_83 : decode cX3_keepStep 83 = .ok (.getfield 25, 3) := by decide +kernel
theorem dX3_keepStep_86 : decode cX3_keepStep 86 = .ok (.iconst 1, 1) := by decide +kernel
theorem dX3_keepStep_87 : decode cX3_keepStep 87 = .ok (.iadd, 1) := by decide +kernel
theorem dX3_keepStep_88 : decode cX3_keepStep 88 = .ok (.putfield 25, 3) := by decide +kernel
theorem dX3_keepStep_91 : decode cX3_keepStep 91 = .ok (.iinc 2 1, 3) := by decide +kernel
theorem dX3_keepStep_94 : decode cX3_keepStep 94 = .ok (.goto (-92), 3) := by decide +kernel
theorem dX3_keepStep_97 : decode cX3_keepStep 97 = .ok (.return_, 1) := by decide +kernel
theorem dX3_keptPart_0 : decode cX3_keptPart 0 = .ok (.iload_n 1, 1) := by decide +kernel
theorem dX3_keptPart_1 : decode cX3_keptPart 1 = .ok (.ifCond .lt 11, 3) := by decide +kernel
theorem dX3_keptPart_4 : decode cX3_keptPart 4 = .ok (.iload_n 1, 1) := by decide +kernel
theorem dX3_keptPart_5 : decode cX3_keptPart 5 = .ok (.aload_n 0, 1) := by decide +kernel
theorem dX3_keptPart_6 : decode cX3_keptPart 6 = .ok (.invokevirtual 76, 3) := by decide +kernel
theorem dX3_keptPart_9 : decode cX3_keptPart 9 = .ok (.if_icmp .lt 5, 3) := by decide +kernel
theorem dX3_keptPart_12 : decode cX3_keptPart 12 = .ok (.iconst (-1), 1) := by decide +kernel
theorem dX3_keptPart_13 : decode cX3_keptPart 13 = .ok (.ireturn, 1) := by decide +kernel
theorem dX3_keptPart_14 : decode cX3_keptPart 14 = .ok (.aload_n 0, 1) := by decide +kernel
theorem dX3_keptPart_15 : decode cX3_keptPart 15 = .ok (.getfield 18, 3) := by decide +kernel
theorem dX3_keptPart_18 : decode cX3_keptPart 18 = .ok (.aload_n 0, 1) := by decide +kernel
theorem dX3_keptPart_19 : decode cX3_keptPart 19 = .ok (.getfield 25, 3) := by decide +kernel
theorem dX3_keptPart_22 : decode cX3_keptPart 22 = .ok (.aload_n 0, 1) := by decide +kernel
theorem dX3_keptPart_23 : decode cX3_keptPart 23 = .ok (.invokevirtual 76, 3) := by decide +kernel
theorem dX3_keptPart_26 : decode cX3_keptPart 26 = .ok (.isub, 1) := by decide +kernel
theorem dX3_keptPart_27 : decode cX3_keptPart 27 = .ok (.iload_n 1, 1) := by decide +kernel
theorem dX3_keptPart_28 : decode cX3_keptPart 28 = .ok (.iadd, 1) := by decide +kernel
theorem dX3_keptPart_29 : decode cX3_keptPart 29 = .ok (.bipush 60, 2) := by decide +kernel
theorem dX3_keptPart_31 : decode cX3_keptPart 31 = .ok (.invokestatic 41, 3) := by decide +kernel
theorem dX3_keptPart_34 : decode cX3_keptPart 34 = .ok (.iaload, 1) := by decide +kernel
theorem dX3_keptPart_35 : decode cX3_keptPart 35 = .ok (.istore_n 3, 1) := by decide +kernel
theorem dX3_keptPart_36 : decode cX3_keptPart 36 = .ok (.iload_n 2, 1) := by decide +kernel
theorem dX3_keptPart_37 : decode cX3_keptPart 37 = .ok (.tableswitch 56 0 3 #[31, 36, 44, 49], 31) := by decide +kernel
theorem dX3_keptPart_68 : decode cX3_keptPart 68 = .ok (.iload_n 3, 1) := by decide +kernel
theorem dX3_keptPart_69 : decode cX3_keptPart 69 = .ok (.bipush 11, 2) := by decide +kernel
theorem dX3_keptPart_71 : decode cX3_keptPart 71 = .ok (.ishr, 1) := by decide +kernel
theorem dX3_keptPart_72 : decode cX3_keptPart 72 = .ok (.ireturn, 1) := by decide +kernel
theorem dX3_keptPart_73 : decode cX3_keptPart 73 = .ok (.iload_n 3, 1) := by decide +kernel
theorem dX3_keptPart_74 : decode cX3_keptPart 74 = .ok (.bipush 8, 2) := by decide +kernel
theorem dX3_keptPart_76 : decode cX3_keptPart 76 = .ok (.ishr, 1) := by decide +kernel
theorem dX3_keptPart_77 : decode cX3_keptPart 77 = .ok (.bipush 7, 2) := by decide +kernel
theorem dX3_keptPart_79 : decode cX3_keptPart 79 = .ok (.iand, 1) := by decide +kernel
theorem dX3_keptPart_80 : decode cX3_keptPart 80 = .ok (.ireturn, 1) := by decide +kernel
theorem dX3_keptPart_81 : decode cX3_keptPart 81 = .ok (.iload_n 3, 1) := by decide +kernel
theorem dX3_keptPart_82 : decode cX3_keptPart 82 = .ok (.bipush 15, 2) := by decide +kernel
theorem dX3_keptPart_84 : decode cX3_keptPart 84 = .ok (.iand, 1) := by decide +kernel
theorem dX3_keptPart_85 : decode cX3_keptPart 85 = .ok (.ireturn, 1) := by decide +kernel
theorem dX3_keptPart_86 : decode cX3_keptPart 86 = .ok (.iload_n 3, 1) := by decide +kernel
theorem dX3_keptPart_87 : decode cX3_keptPart 87 = .ok (.iconst 4, 1) := by decide +kernel
theorem dX3_keptPart_88 : decode cX3_keptPart 88 = .ok (.ishr, 1) := by decide +kernel
theorem dX3_keptPart_89 : decode cX3_keptPart 89 = .ok (.bipush 15, 2) := by decide +kernel
theorem dX3_keptPart_91 : decode cX3_keptPart 91 = .ok (.iand, 1) := by decide +kernel
theorem dX3_keptPart_92 : decode cX3_keptPart 92 = .ok (.ireturn, 1) := by decide +kernel
theorem dX3_keptPart_93 : decode cX3_keptPart 93 = .ok (.iconst (-1), 1) := by decide +kernel
theorem dX3_keptPart_94 : decode cX3_keptPart 94 = .ok (.ireturn, 1) := by decide +kernel
theorem dX4_init_0 : decode cX4_init 0 = .ok (.aload_n 0, 1) := by decide +kernel
theorem dX4_init_1 : decode cX4_init 1 = .ok (.invokespecial 3, 3) := by decide +kernel
theorem dX4_init_4 : decode cX4_init 4 = .ok (.aload_n 0, 1) := by decide +kernel
theorem dX4_init_5 : decode cX4_init 5 = .ok (.bipush 52, 2) := by decide +kernel
theorem dX4_init_7 : decode cX4_init 7 = .ok (.newarray .int, 2) := by decide +kernel
theorem dX4_init_9 : decode cX4_init 9 = .ok (.putfield 13, 3) := by decide +kernel
theorem dX4_init_12 : decode cX4_init 12 = .ok (.aload_n 0, 1) := by decide +kernel
theorem dX4_init_13 : decode cX4_init 13 = .ok (.iconst 0, 1) := by decide +kernel
theorem dX4_init_14 : decode cX4_init 14 = .ok (.putfield 17, 3) := by decide +kernel
theorem dX4_init_17 : decode cX4_init 17 = .ok (.aload_n 0, 1) := by decide +kernel
theorem dX4_init_18 : decode cX4_init 18 = .ok (.new 21, 3) := by decide +kernel
theorem dX4_init_21 : decode cX4_init 21 = .ok (.dup, 1) := by decide +kernel
theorem dX4_init_22 : decode cX4_init 22 = .ok (.aload_n 1, 1) := by decide +kernel
theorem dX4_init_23 : decode cX4_init 23 = .ok (.invokespecial 23, 3) := by decide +kernel
theorem dX4_init_26 : decode cX4_init 26 = .ok (.putfield 26, 3) := by decide +kernel
theorem dX4_init_29 : decode cX4_init 29 = .ok (.return_, 1) := by decide +kernel
theorem dX4_byteAt_0 : decode cX4_byteAt 0 = .ok (.iload_n 1, 1) := by decide +kernel
theorem dX4_byteAt_1 : decode cX4_byteAt 1 = .ok (.ifCond .lt 20, 3) := by decide +kernel
theorem dX4_byteAt_4 : decode cX4_byteAt 4 = .ok (.iload_n 1, 1) := by decide +kernel
theorem dX4_byteAt_5 : decode cX4_byteAt 5 = .ok (.aload_n 0, 1) := by decide +kernel
theorem dX4_byteAt_6 : decode cX4_byteAt 6 = .ok (.getfield 17, 3) := by decide +kernel
theorem dX4_byteAt_9 : decode cX4_byteAt 9 = .ok (.if_icmp .ge 12, 3) := by decide +kernel
theorem dX4_byteAt_12 : decode cX4_byteAt 12 = .ok (.iload_n 1, 1) := by decide +kernel
theorem dX4_byteAt_13 : decode cX4_byteAt 13 = .ok (.aload_n 0, 1) := by decide +kernel
theorem dX4_byteAt_14 : decode cX4_byteAt 14 = .ok (.getfield 13, 3) := by decide +kernel
theorem dX4_byteAt_17 : decode cX4_byteAt 17 = .ok (.arraylength, 1) := by decide +kernel
theorem dX4_byteAt_18 : decode cX4_byteAt 18 = .ok (.if_icmp .lt 7, 3) := by decide +kernel
theorem dX4_byteAt_21 : decode cX4_byteAt 21 = .ok (.iconst (-1), 1) := by decide +kernel
theorem dX4_byteAt_22 : decode cX4_byteAt 22 = .ok (.goto 9, 3) := by decide +kernel
theorem dX4_byteAt_25 : decode cX4_byteAt 25 = .ok (.aload_n 0, 1) := by decide +kernel
theorem dX4_byteAt_26 : decode cX4_byteAt 26 = .ok (.getfield 13, 3) := by decide +kernel
theorem dX4_byteAt_29 : decode cX4_byteAt 29 = .ok (.iload_n 1, 1) := by decide +kernel
theorem dX4_byteAt_30 : decode cX4_byteAt 30 = .ok (.iaload, 1) := by decide +kernel
theorem dX4_byteAt_31 : decode cX4_byteAt 31 = .ok (.ireturn, 1) := by decide +kernel
theorem dX4_write_0 : decode cX4_write 0 = .ok (.aload_n 0, 1) := by decide +kernel
theorem dX4_write_1 : decode cX4_write 1 = .ok (.iconst 0, 1) := by decide +kernel
theorem dX4_write_2 : decode cX4_write 2 = .ok (.putfield 17, 3) := by decide +kernel
theorem dX4_write_5 : decode cX4_write 5 = .ok (.aload_n 0, 1) := by decide +kernel
theorem dX4_write_6 : decode cX4_write 6 = .ok (.aload_n 1, 1) := by decide +kernel
theorem dX4_write_7 : decode cX4_write 7 = .ok (.getfield 30, 3) := by decide +kernel
theorem dX4_write_10 : decode cX4_write 10 = .ok (.invokevirtual 33, 3) := by decide +kernel
theorem dX4_write_13 : decode cX4_write 13 = .ok (.aload_n 0, 1) := by decide +kernel
theorem dX4_write_14 : decode cX4_write 14 = .ok (.aload_n 1, 1) := by decide +kernel
theorem dX4_write_15 : decode cX4_write 15 = .ok (.getfield 37, 3) := by decide +kernel
theorem dX4_write_18 : decode cX4_write 18 = .ok (.invokevirtual 40, 3) := by decide +kernel
theorem dX4_write_21 : decode cX4_write 21 = .ok (.iconst 0, 1) := by decide +kernel
theorem dX4_write_22 : decode cX4_write 22 = .ok (.istore_n 2, 1) := by decide +kernel
theorem dX4_write_23 : decode cX4_write 23 = .ok (.iload_n 2, 1) := by decide +kernel
theorem dX4_write_24 : decode cX4_write 24 = .ok (.aload_n 1, 1) := by decide +kernel
theorem dX4_write_25 : decode cX4_write 25 = .ok (.getfield 43, 3) := by decide +kernel
theorem dX4_write_28 : decode cX4_write 28 = .ok (.getfield 47, 3) := by decide +kernel
theorem dX4_write_31 : decode cX4_write 31 = .ok (.if_icmp .ge 70, 3) := by decide +kernel
theorem dX4_write_34 : decode cX4_write 34 = .ok (.aload_n 0, 1) := by decide +kernel
theorem dX4_write_35 : decode cX4_write 35 = .ok (.aload_n 1, 1) := by decide +kernel
theorem dX4_write_36 : decode cX4_write 36 = .ok (.iload_n 2, 1) := by decide +kernel
theorem dX4_write_37 : decode cX4_write 37 = .ok (.iconst 0, 1) := by decide +kernel
theorem dX4_write_38 : decode cX4_write 38 = .ok (.invokevirtual 50, 3) := by decide +kernel
theorem dX4_write_41 : decode cX4_write 41 = .ok (.invokevirtual 40, 3) := by decide +kernel
theorem dX4_write_44 : decode cX4_write 44 = .ok (.aload_n 0, 1) := by decide +kernel
theorem dX4_write_45 : decode cX4_write 45 = .ok (.aload_n 1, 1) := by decide +kernel
theorem dX4_write_46 : decode cX4_write 46 = .ok (.iload_n 2, 1) := by decide +kernel
theorem dX4_write_47 : decode cX4_write 47 = .ok (.iconst 1, 1) := by decide +kernel
theorem dX4_write_48 : decode cX4_write 48 = .ok (.invokevirtual 50, 3) := by decide +kernel
theorem dX4_write_51 : decode cX4_write 51 = .ok (.invokevirtual 40, 3) := by decide +kernel
theorem dX4_write_54 : decode cX4_write 54 = .ok (.aload_n 0, 1) := by decide +kernel
theorem dX4_write_55 : decode cX4_write 55 = .ok (.aload_n 1, 1) := by decide +kernel
theorem dX4_write_56 : decode cX4_write 56 = .ok (.iload_n 2, 1) := by decide +kernel
theorem dX4_write_57 : decode cX4_write 57 = .ok (.iconst 2, 1) := by decide +kernel
theorem dX4_write_58 : decode cX4_write 58 = .ok (.invokevirtual 50, 3) := by decide +kernel
theorem dX4_write_61 : decode cX4_write 61 = .ok (.invokevirtual 40, 3) := by decide +kernel
theorem dX4_write_64 : decode cX4_write 64 = .ok (.aload_n 0, 1) := by decide +kernel
theorem dX4_write_65 : decode cX4_write 65 = .ok (.aload_n 1, 1) := by decide +kernel
theorem dX4_write_66 : decode cX4_write 66 = .ok (.iload_n 2, 1) := by decide +kernel
theorem dX4_write_67 : decode cX4_write 67 = .ok (.iconst 3, 1) := by decide +kernel
theorem dX4_write_68 : decode cX4_write 68 = .ok (.invokevirtual 50, 3) := by decide +kernel
theorem dX4_write_71 : decode cX4_write 71 = .ok (.invokevirtual 33, 3) := by decide +kernel
theorem dX4_write_74 : decode cX4_write 74 = .ok (.aload_n 0, 1) := by decide +kernel
theorem dX4_write_75 : decode cX4_write 75 = .ok (.aload_n 1, 1) := by decide +kernel
theorem dX4_write_76 : decode cX4_write 76 = .ok (.iload_n 2, 1) := by decide +kernel
theorem dX4_write_77 : decode cX4_write 77 = .ok (.iconst 4, 1) := by decide +kernel
theorem dX4_write_78 : decode cX4_write 78 = .ok (.invokevirtual 50, 3) := by decide +kernel
theorem dX4_write_81 : decode cX4_write 81 = .ok (.invokevirtual 40, 3) := by decide +kernel
theorem dX4_write_84 : decode cX4_write 84 = .ok (.aload_n 0, 1) := by decide +kernel
theorem dX4_write_85 : decode cX4_write 85 = .ok (.aload_n 1, 1) := by decide +kernel
theorem dX4_write_86 : decode cX4_write 86 = .ok (.iload_n 2, 1) := by decide +kernel
theorem dX4_write_87 : decode cX4_write 87 = .ok (.bipush 8, 2) := by decide +kernel
theorem dX4_write_89 : decode cX4_write 89 = .ok (.invokevirtual 50, 3) := by decide +kernel
theorem dX4_write_92 : decode cX4_write 92 = .ok (.invokevirtual 33, 3) := by decide +kernel
theorem dX4_write_95 : decode cX4_write 95 = .ok (.iinc 2 1, 3) := by decide +kernel
theorem dX4_write_98 : decode cX4_write 98 = .ok (.goto (-75), 3) := by decide +kernel
theorem dX4_write_101 : decode cX4_write 101 = .ok (.sipush 179, 3) := by decide +kernel
theorem dX4_write_104 : decode cX4_write 104 = .ok (.istore_n 2, 1) := by decide +kernel
theorem dX4_write_105 : decode cX4_write 105 = .ok (.iconst 0, 1) := by decide +kernel
theorem dX4_write_106 : decode cX4_write 106 = .ok (.istore_n 3, 1) := by decide +kernel
theorem dX4_write_107 : decode cX4_write 107 = .ok (.iload_n 3, 1) := by decide +kernel
theorem dX4_write_108 : decode cX4_write 108 = .ok (.aload_n 0, 1) := by decide +kernel
theorem dX4_write_109 : decode cX4_write 109 = .ok (.getfield 17, 3) := by decide +kernel
theorem dX4_write_112 : decode cX4_write 112 = .ok (.if_icmp .ge 19, 3) := by decide +kernel
theorem dX4_write_115 : decode cX4_write 115 = .ok (.iload_n 2, 1) := by decide +kernel
theorem dX4_write_116 : decode cX4_write 116 = .ok (.aload_n 0, 1) := by decide +kernel
theorem dX4_write_117 : decode cX4_write 117 = .ok (.iload_n 3, 1) := by decide +kernel
theorem dX4_write_118 : decode cX4_write 118 = .ok (.invokevirtual 54, 3) := by decide +kernel
theorem dX4_write_121 : decode cX4_write 121 = .ok (.invokestatic 58, 3) := by decide +kernel
theorem dX4_write_124 : decode cX4_write 124 = .ok (.istore_n 2, 1) := by decide +kernel
theorem dX4_write_125 : decode cX4_write 125 = .ok (.iinc 3 1, 3) := by decide +kernel
theorem dX4_write_128 : decode cX4_write 128 = .ok (.goto (-21), 3) := by decide +kernel
theorem dX4_write_131 : decode cX4_write 131 = .ok (.aload_n 0, 1) := by decide +kernel
theorem dX4_write_132 : decode cX4_write 132 = .ok (.iload_n 2, 1) := by decide +kernel
theorem dX4_write_133 : decode cX4_write 133 = .ok (.invokevirtual 40, 3) := by decide +kernel
theorem dX4_write_136 : decode cX4_write 136 = .ok (.aload_n 0, 1) := by decide +kernel
theorem dX4_write_137 : decode cX4_write 137 = .ok (.getfield 17, 3) := by decide +kernel
theorem dX4_write_140 : decode cX4_write 140 = .ok (.ireturn, 1) := by decide +kernel
theorem dX4_readInto_0 : decode cX4_readInto 0 = .ok (.aload_n 2, 1) := by decide +kernel
theorem dX4_readInto_1 : decode cX4_readInto 1 = .ok (.getfield 61, 3) := by decide +kernel
theorem dX4_readInto_4 : decode cX4_readInto 4 = .ok (.iconst 1, 1) := by decide +kernel
theorem dX4_readInto_5 : decode cX4_readInto 5 = .ok (.isub, 1) := by decide +kernel
theorem dX4_readInto_6 : decode cX4_readInto 6 = .ok (.istore_n 3, 1) := by decide +kernel
theorem dX4_readInto_7 : decode cX4_readInto 7 = .ok (.iload_n 3, 1) := by decide +kernel
theorem dX4_readInto_8 : decode cX4_readInto 8 = .ok (.iconst 3, 1) := by decide +kernel
theorem dX4_readInto_9 : decode cX4_readInto 9 = .ok (.bipush 8, 2) := by decide +kernel
theorem dX4_readInto_11 : decode cX4_readInto 11 = .ok (.aload_n 1, 1) := by decide +kernel
theorem dX4_readInto_12 : decode cX4_readInto 12 = .ok (.getfield 43, 3) := by decide +kernel
theorem dX4_readInto_15 : decode cX4_readInto 15 = .ok (.getfield 47, 3) := by decide +kernel
theorem dX4_readInto_18 : decode cX4_readInto 18 = .ok (.imul, 1) := by decide +kernel
theorem dX4_readInto_19 : decode cX4_readInto 19 = .ok (.iadd, 1) := by decide +kernel
theorem dX4_readInto_20 : decode cX4_readInto 20 = .ok (.if_icmp .eq 5, 3) := by decide +kernel
theorem dX4_readInto_23 : decode cX4_readInto 23 = .ok (.iconst 0, 1) := by decide +kernel
theorem dX4_readInto_24 : decode cX4_readInto 24 = .ok (.ireturn, 1) := by decide +kernel
theorem dX4_readInto_25 : decode cX4_readInto 25 = .ok (.sipush 179, 3) := by decide +kernel
theorem dX4_readInto_28 : decode cX4_readInto 28 = .ok (.istore 4, 2) := by decide +kernel
theorem dX4_readInto_30 : decode cX4_readInto 30 = .ok (.iconst 0, 1) := by decide +kernel
theorem dX4_readInto_31 : decode cX4_readInto 31 = .ok (.istore 5, 2) := by decide +kernel
theorem dX4_readInto_33 : decode cX4_readInto 33 = .ok (.iload 5, 2) := by decide +kernel
theorem dX4_readInto_35 : decode cX4_readInto 35 = .ok (.iload_n 3, 1) := by decide +kernel
theorem dX4_readInto_36 : decode cX4_readInto 36 = .ok (.if_icmp .ge 22, 3) := by decide +kernel
theorem dX4_readInto_39 : decode cX4_readInto 39 = .ok (.iload 4, 2) := by decide +kernel
theorem dX4_readInto_41 : decode cX4_readInto 41 = .ok (.aload_n 2, 1) := by decide +kernel
theorem dX4_readInto_42 : decode cX4_readInto 42 = .ok (.iload 5, 2) := by decide +kernel
theorem dX4_readInto_44 : decode cX4_readInto 44 = .ok (.invokevirtual 64, 3) := by decide +kernel
theorem dX4_readInto_47 : decode cX4_readInto 47 = .ok (.invokestatic 58, 3) := by decide +kernel
theorem dX4_readInto_50 : decode cX4_readInto 50 = .ok (.istore 4, 2) := by decide +kernel
theorem dX4_readInto_52 : decode cX4_readInto 52 = .ok (.iinc 5 1, 3) := by decide +kernel
theorem dX4_readInto_55 : decode cX4_readInto 55 = .ok (.goto (-22), 3) := by decide +kernel
theorem dX4_readInto_58 : decode cX4_readInto 58 = .ok (.iload 4, 2) := by decide +kernel
theorem dX4_readInto_60 : decode cX4_readInto 60 = .ok (.aload_n 2, 1) := by decide +kernel
theorem dX4_readInto_61 : decode cX4_readInto 61 = .ok (.iload_n 3, 1) := by decide +kernel
theorem dX4_readInto_62 : decode cX4_readInto 62 = .ok (.invokevirtual 64, 3) := by decide +kernel
theorem dX4_readInto_65 : decode cX4_readInto 65 = .ok (.if_icmp .eq 5, 3) := by decide +kernel
theorem dX4_readInto_68 : decode cX4_readInto 68 = .ok (.iconst 0, 1) := by decide +kernel
theorem dX4_readInto_69 : decode cX4_readInto 69 = .ok (.ireturn, 1) := by decide +kernel
theorem dX4_readInto_70 : decode cX4_readInto 70 = .ok (.aload_n 0, 1) := by decide +kernel
theorem dX4_readInto_71 : decode cX4_readInto 71 = .ok (.getfield 26, 3) := by decide +kernel
theorem dX4_readInto_74 : decode cX4_readInto 74 = .ok (.aload_n 1, 1) := by decide +kernel
theorem dX4_readInto_75 : decode cX4_readInto 75 = .ok (.invokevirtual 67, 3) := by decide +kernel
theorem dX4_readInto_78 : decode cX4_readInto 78 = .ok (.aload_n 0, 1) := by decide +kernel
theorem dX4_readInto_79 : decode cX4_readInto 79 = .ok (.getfield 26, 3) := by decide +kernel
theorem dX4_readInto_82 : decode cX4_readInto 82 = .ok (.aload_n 2, 1) := by decide +kernel
theorem dX4_readInto_83 : decode cX4_readInto 83 = .ok (.iconst 0, 1) := by decide +kernel
theorem dX4_readInto_84 : decode cX4_readInto 84 = .ok (.invokevirtual 71, 3) := by decide +kernel
theorem dX4_readInto_87 : decode cX4_readInto 87 = .ok (.putfield 30, 3) := by decide +kernel
theorem dX4_readInto_90 : decode cX4_readInto 90 = .ok (.aload_n 0, 1) := by decide +kernel
theorem dX4_readInto_91 : decode cX4_readInto 91 = .ok (.getfield 26, 3) := by decide +kernel
theorem dX4_readInto_94 : decode cX4_readInto 94 = .ok (.aload_n 2, 1) := by decide +kernel
theorem dX4_readInto_95 : decode cX4_readInto 95 = .ok (.iconst 2, 1) := by decide +kernel
theorem dX4_readInto_96 : decode cX4_readInto 96 = .ok (.invokevirtual 64, 3) := by decide +kernel
theorem dX4_readInto_99 : decode cX4_readInto 99 = .ok (.putfield 37, 3) := by decide +kernel
theorem dX4_readInto_102 : decode cX4_readInto 102 = .ok (.aload_n 0, 1) := by decide +kernel
theorem dX4_readInto_103 : decode cX4_readInto 103 = .ok (.getfield 26, 3) := by decide +kernel
theorem dX4_readInto_106 : decode cX4_readInto 106 = .ok (.getfield 30, 3) := by decide +kernel
theorem dX4_readInto_109 : decode cX4_readInto 109 = .ok (.sipush 999, 3) := by decide +kernel
theorem dX4_readInto_112 : decode cX4_readInto 112 = .ok (.if_icmp .gt 19, 3) := by decide +kernel
theorem dX4_readInto_115 : decode cX4_readInto 115 = .ok (.aload_n 0, 1) := by decide +kernel
theorem dX4_readInto_116 : decode cX4_readInto 116 = .ok (.getfield 26, 3) := by decide +kernel
theorem dX4_readInto_119 : decode cX4_readInto 119 = .ok (.getfield 37, 3) := by decide +kernel
theorem dX4_readInto_122 : decode cX4_readInto 122 = .ok (.bipush 9, 2) := by decide +kernel
theorem dX4_readInto_124 : decode cX4_readInto 124 = .ok (.if_icmp .gt 7, 3) := by decide +kernel
theorem dX4_readInto_127 : decode cX4_readInto 127 = .ok (.iconst 1, 1) := by decide +kernel
theorem dX4_readInto_128 : decode cX4_readInto 128 = .ok (.goto 4, 3) := by decide +kernel
theorem dX4_readInto_131 : decode cX4_readInto 131 = .ok (.iconst 0, 1) := by decide +kernel
theorem dX4_readInto_132 : decode cX4_readInto 132 = .ok (.istore 5, 2) := by decide +kernel
theorem dX4_readInto_134 : decode cX4_readInto 134 = .ok (.iconst 0, 1) := by decide +kernel
theorem dX4_readInto_135 : decode cX4_readInto 135 = .ok (.istore 6, 2) := by decide +kernel
theorem dX4_readInto_137 : decode cX4_readInto 137 = .ok (.iload 5, 2) := by decide +kernel
theorem dX4_readInto_139 : decode cX4_readInto 139 = .ok (.ifCond .eq 30, 3) := by decide +kernel
theorem dX4_readInto_142 : decode cX4_readInto 142 = .ok (.iload 6, 2) := by decide +kernel
theorem dX4_readInto_144 : decode cX4_readInto 144 = .ok (.aload_n 1, 1) := by decide +kernel
theorem dX4_readInto_145 : decode cX4_readInto 145 = .ok (.getfield 43, 3) := by decide +kernel
theorem dX4_readInto_148 : decode cX4_readInto 148 = .ok (.getfield 47, 3) := by decide +kernel
theorem dX4_readInto_151 : decode cX4_readInto 151 = .ok (.if_icmp .ge 18, 3) := by decide +kernel
theorem dX4_readInto_154 : decode cX4_readInto 154 = .ok (.aload_n 0, 1) := by decide +kernel
theorem dX4_readInto_155 : decode cX4_readInto 155 = .ok (.aload_n 2, 1) := by decide +kernel
theorem dX4_readInto_156 : decode cX4_readInto 156 = .ok (.iload 6, 2) := by decide +kernel
theorem dX4_readInto_158 : decode cX4_readInto 158 = .ok (.invokevirtual 74, 3) := by decide +kernel
theorem dX4_readInto_161 : decode cX4_readInto 161 = .ok (.istore 5, 2) := by decide +kernel
theorem dX4_readInto_163 : decode cX4_readInto 163 = .ok (.iinc 6 1, 3) := by decide +kernel
theorem dX4_readInto_166 : decode cX4_readInto 166 = .ok (.goto (-29), 3) := by decide +kernel
theorem dX4_readInto_169 : decode cX4_readInto 169 = .ok (.iload 5, 2) := by decide +kernel
theorem dX4_readInto_171 : decode cX4_readInto 171 = .ok (.ifCond .eq 11, 3) := by decide +kernel
theorem dX4_readInto_174 : decode cX4_readInto 174 = .ok (.aload_n 1, 1) := by decide +kernel
theorem dX4_readInto_175 : decode cX4_readInto 175 = .ok (.aload_n 0, 1) := by decide +kernel
theorem dX4_readInto_176 : decode cX4_readInto 176 = .ok (.getfield 26, 3) := by decide +kernel
theorem dX4_readInto_179 : decode cX4_readInto 179 = .ok (.invokevirtual 67, 3) := by decide +kernel
theorem dX4_readInto_182 : decode cX4_readInto 182 = .ok (.iload 5, 2) := by decide +kernel
theorem dX4_readInto_184 : decode cX4_readInto 184 = .ok (.ireturn, 1) := by decide +kernel
theorem dX4_readBox_0 : decode cX4_readBox 0 = .ok (.iconst 3, 1) := by decide +kernel
theorem dX4_readBox_1 : decode cX4_readBox 1 = .ok (.bipush 8, 2) := by decide +kernel
theorem dX4_readBox_3 : decode cX4_readBox 3 = .ok (.iload_n 2, 1) := by decide +kernel
theorem dX4_readBox_4 : decode cX4_readBox 4 = .ok (.imul, 1) := by decide +kernel
theorem dX4_readBox_5 : decode cX4_readBox 5 = .ok (.iadd, 1) := by decide +kernel
theorem dX4_readBox_6 : decode cX4_readBox 6 = .ok (.istore_n 3, 1) := by decide +kernel
theorem dX4_readBox_7 : decode cX4_readBox 7 = .ok (.aload_n 1, 1) := by decide +kernel
theorem dX4_readBox_8 : decode cX4_readBox 8 = .ok (.iload_n 3, 1) := by decide +kernel
theorem dX4_readBox_9 : decode cX4_readBox 9 = .ok (.invokevirtual 64, 3) := by decide +kernel
theorem dX4_readBox_12 : decode cX4_readBox 12 = .ok (.istore 4, 2) := by decide +kernel
theorem dX4_readBox_14 : decode cX4_readBox 14 = .ok (.aload_n 1, 1) := by decide +kernel
theorem dX4_readBox_15 : decode cX4_readBox 15 = .ok (.iload_n 3, 1) := by decide +kernel
theorem dX4_readBox_16 : decode cX4_readBox 16 = .ok (.iconst 1, 1) := by decide +kernel
theorem dX4_readBox_17 : decode cX4_readBox 17 = .ok (.iadd, 1) := by decide +kernel
theorem dX4_readBox_18 : decode cX4_readBox 18 = .ok (.invokevirtual 64, 3) := by decide +kernel
theorem dX4_readBox_21 : decode cX4_readBox 21 = .ok (.istore 5, 2) := by decide +kernel
theorem dX4_readBox_23 : decode cX4_readBox 23 = .ok (.aload_n 0, 1) := by decide +kernel
theorem dX4_readBox_24 : decode cX4_readBox 24 = .ok (.getfield 26, 3) := by decide +kernel
theorem dX4_readBox_27 : decode cX4_readBox 27 = .ok (.getfield 43, 3) := by decide +kernel
theorem dX4_readBox_30 : decode cX4_readBox 30 = .ok (.iload 4, 2) := by decide +kernel
theorem dX4_readBox_32 : decode cX4_readBox 32 = .ok (.iload 5, 2) := by decide +kernel
theorem dX4_readBox_34 : decode cX4_readBox 34 = .ok (.invokevirtual 78, 3) := by decide +kernel
theorem dX4_readBox_37 : decode cX4_readBox 37 = .ok (.ifCond .eq 22, 3) := by decide +kernel
theorem dX4_readBox_40 : decode cX4_readBox 40 = .ok (.aload_n 0, 1) := by decide +kernel
theorem dX4_readBox_41 : decode cX4_readBox 41 = .ok (.getfield 26, 3) := by decide +kernel
theorem dX4_readBox_44 : decode cX4_readBox 44 = .ok (.getfield 82, 3) := by decide +kernel
theorem dX4_readBox_47 : decode cX4_readBox 47 = .ok (.iload_n 2, 1) := by decide +kernel
theorem dX4_readBox_48 : decode cX4_readBox 48 = .ok (.iload 4, 2) := by decide +kernel
theorem dX4_readBox_50 : decode cX4_readBox 50 = .ok (.iload 5, 2) := by decide +kernel
theorem dX4_readBox_52 : decode cX4_readBox 52 = .ok (.invokestatic 85, 3) := by decide +kernel
theorem dX4_readBox_55 : decode cX4_readBox 55 = .ok (.iconst (-1), 1) := by decide +kernel
theorem dX4_readBox_56 : decode cX4_readBox 56 = .ok (.if_icmp .eq 5, 3) := by decide +kernel
theorem dX4_readBox_59 : decode cX4_readBox 59 = .ok (.iconst 0, 1) := by decide +kernel
theorem dX4_readBox_60 : decode cX4_readBox 60 = .ok (.ireturn, 1) := by decide +kernel
theorem dX4_readBox_61 : decode cX4_readBox 61 = .ok (.aload_n 0, 1) := by decide +kernel
theorem dX4_readBox_62 : decode cX4_readBox 62 = .ok (.getfield 26, 3) := by decide +kernel
theorem dX4_readBox_65 : decode cX4_readBox 65 = .ok (.iload_n 2, 1) := by decide +kernel
theorem dX4_readBox_66 : decode cX4_readBox 66 = .ok (.iconst 0, 1) := by decide +kernel
theorem dX4_readBox_67 : decode cX4_readBox 67 = .ok (.iload 4, 2) := by decide +kernel
theorem dX4_readBox_69 : decode cX4_readBox 69 = .ok (.invokevirtual 89, 3) := by decide +kernel
theorem dX4_readBox_72 : decode cX4_readBox 72 = .ok (.aload_n 0, 1) := by decide +kernel
theorem dX4_readBox_73 : decode cX4_readBox 73 = .ok (.getfield 26, 3) := by decide +kernel
theorem dX4_readBox_76 : decode cX4_readBox 76 = .ok (.iload_n 2, 1) := by decide +kernel
theorem dX4_readBox_77 : decode cX4_readBox 77 = .ok (.iconst 1, 1) := by decide +kernel
theorem dX4_readBox_78 : decode cX4_readBox 78 = .ok (.iload 5, 2) := by decide +kernel
theorem dX4_readBox_80 : decode cX4_readBox 80 = .ok (.invokevirtual 89, 3) := by decide +kernel
theorem dX4_readBox_83 : decode cX4_readBox 83 = .ok (.aload_n 0, 1) := by decide +kernel
theorem dX4_readBox_84 : decode cX4_readBox 84 = .ok (.getfield 26, 3) := by decide +kernel
theorem dX4_readBox_87 : decode cX4_readBox 87 = .ok (.iload_n 2, 1) := by decide +kernel
theorem dX4_readBox_88 : decode cX4_readBox 88 = .ok (.iconst 2, 1) := by decide +kernel
theorem dX4_readBox_89 : decode cX4_readBox 89 = .ok (.aload_n 1, 1) := by decide +kernel
theorem dX4_readBox_90 : decode cX4_readBox 90 = .ok (.iload_n 3, 1) := by decide +kernel
theorem dX4_readBox_91 : decode cX4_readBox 91 = .ok (.iconst 2, 1) := by decide +kernel
theorem dX4_readBox_92 : decode cX4_readBox 92 = .ok (.iadd, 1) := by decide +kernel
theorem dX4_readBox_93 : decode cX4_readBox 93 = .ok (.invokevirtual 64, 3) := by decide +kernel
theorem dX4_readBox_96 : decode cX4_readBox 96 = .ok (.invokevirtual 89, 3) := by decide +kernel
theorem dX4_readBox_99 : decode cX4_readBox 99 = .ok (.aload_n 0, 1) := by decide +kernel
theorem dX4_readBox_100 : decode cX4_readBox 100 = .ok (.getfield 26, 3) := by decide +kernel
theorem dX4_readBox_103 : decode cX4_readBox 103 = .ok (.iload_n 2, 1) := by decide +kernel
theorem dX4_readBox_104 : decode cX4_readBox 104 = .ok (.iconst 3, 1) := by decide +kernel
theorem dX4_readBox_105 : decode cX4_readBox 105 = .ok (.aload_n 1, 1) := by decide +kernel
theorem dX4_readBox_106 : decode cX4_readBox 106 = .ok (.iload_n 3, 1) := by decide +kernel
theorem dX4_readBox_107 : decode cX4_readBox 107 = .ok (.iconst 3, 1) := by decide +kernel
theorem dX4_readBox_108 : decode cX4_readBox 108 = .ok (.iadd, 1) := by decide +kernel
theorem dX4_readBox_109 : decode cX4_readBox 109 = .ok (.invokevirtual 71, 3) := by decide +kernel
theorem dX4_readBox_112 : decode cX4_readBox 112 = .ok (.invokevirtual 89, 3) := by decide +kernel
theorem dX4_readBox_115 : decode cX4_readBox 115 = .ok (.aload_n 0, 1) := by decide +kernel
theorem dX4_readBox_116 : decode cX4_readBox 116 = .ok (.getfield 26, 3) := by decide +kernel
theorem dX4_readBox_119 : decode cX4_readBox 119 = .ok (.iload_n 2, 1) := by decide +kernel
theorem dX4_readBox_120 : decode cX4_readBox 120 = .ok (.iconst 4, 1) := by decide +kernel
theorem dX4_readBox_121 : decode cX4_readBox 121 = .ok (.aload_n 1, 1) := by decide +kernel
theorem dX4_readBox_122 : decode cX4_readBox 122 = .ok (.iload_n 3, 1) := by decide +kernel
theorem dX4_readBox_123 : decode cX4_readBox 123 = .ok (.iconst 5, 1) := by decide +kernel
theorem dX4_readBox_124 : decode cX4_readBox 124 = .ok (.iadd, 1) := by decide +kernel
theorem dX4_readBox_125 : decode cX4_readBox 125 = .ok (.invokevirtual 64, 3) := by decide +kernel
theorem dX4_readBox_128 : decode cX4_readBox 128 = .ok (.invokevirtual 89, 3) := by decide +kernel
theorem dX4_readBox_131 : decode cX4_readBox 131 = .ok (.aload_n 0, 1) := by decide +kernel
theorem dX4_readBox_132 : decode cX4_readBox 132 = .ok (.getfield 26, 3) := by decide +kernel
theorem dX4_readBox_135 : decode cX4_readBox 135 = .ok (.iload_n 2, 1) := by decide +kernel
theorem dX4_readBox_136 : decode cX4_readBox 136 = .ok (.bipush 8, 2) := by decide +kernel
theorem dX4_readBox_138 : decode cX4_readBox 138 = .ok (.aload_n 1, 1) := by decide +kernel
theorem dX4_readBox_139 : decode cX4_readBox 139 = .ok (.iload_n 3, 1) := by decide +kernel
theorem dX4_readBox_140 : decode cX4_readBox 140 = .ok (.bipush 6, 2) := by decide +kernel
theorem dX4_readBox_142 : decode cX4_readBox 142 = .ok (.iadd, 1) := by decide +kernel
theorem dX4_readBox_143 : decode cX4_readBox 143 = .ok (.invokevirtual 71, 3) := by decide +kernel
theorem dX4_readBox_146 : decode cX4_readBox 146 = .ok (.invokevirtual 89, 3) := by decide +kernel
theorem dX4_readBox_149 : decode cX4_readBox 149 = .ok (.aload_n 0, 1) := by decide +kernel
theorem dX4_readBox_150 : decode cX4_readBox 150 = .ok (.getfield 26, 3) := by decide +kernel
theorem dX4_readBox_153 : decode cX4_readBox 153 = .ok (.iload_n 2, 1) := by decide +kernel
theorem dX4_readBox_154 : decode cX4_readBox 154 = .ok (.iconst 2, 1) := by decide +kernel
theorem dX4_readBox_155 : decode cX4_readBox 155 = .ok (.invokevirtual 50, 3) := by decide +kernel
theorem dX4_readBox_158 : decode cX4_readBox 158 = .ok (.iconst 3, 1) := by decide +kernel
theorem dX4_readBox_159 : decode cX4_readBox 159 = .ok (.if_icmp .gt 52, 3) := by decide +kernel
theorem dX4_readBox_162 : decode cX4_readBox 162 = .ok (.aload_n 0, 1) := by decide +kernel
theorem dX4_readBox_163 : decode cX4_readBox 163 = .ok (.getfield 26, 3) := by decide +kernel
theorem dX4_readBox_166 : decode cX4_readBox 166 = .ok (.iload_n 2, 1) := by decide +kernel
theorem dX4_readBox_167 : decode cX4_readBox 167 = .ok (.iconst 3, 1) := by decide +kernel
theorem dX4_readBox_168 : decode cX4_readBox 168 = .ok (.invokevirtual 50, 3) := by decide +kernel
theorem dX4_readBox_171 : decode cX4_readBox 171 = .ok (.sipush 999, 3) := by decide +kernel
theorem dX4_readBox_174 : decode cX4_readBox 174 = .ok (.if_icmp .gt 37, 3) := by decide +kernel
theorem dX4_readBox_177 : decode cX4_readBox 177 = .ok (.aload_n 0, 1) := by decide +kernel
theorem dX4_readBox_178 : decode cX4_readBox 178 = .ok (.getfield 26, 3) := by decide +kernel
theorem dX4_readBox_181 : decode cX4_readBox 181 = .ok (.iload_n 2, 1) := by decide +kernel
theorem dX4_readBox_182 : decode cX4_readBox 182 = .ok (.iconst 4, 1) := by decide +kernel
theorem dX4_readBox_183 : decode cX4_readBox 183 = .ok (.invokevirtual 50, 3) := by decide +kernel
theorem dX4_readBox_186 : decode cX4_readBox 186 = .ok (.bipush 99, 2) := by decide +kernel
theorem dX4_readBox_188 : decode cX4_readBox 188 = .ok (.if_icmp .gt 23, 3) := by decide +kernel
theorem dX4_readBox_191 : decode cX4_readBox 191 = .ok (.aload_n 0, 1) := by decide +kernel
theorem dX4_readBox_192 : decode cX4_readBox 192 = .ok (.getfield 26, 3) := by decide +kernel
theorem dX4_readBox_195 : decode cX4_readBox 195 = .ok (.iload_n 2, 1) := by decide +kernel
theorem dX4_readBox_196 : decode cX4_readBox 196 = .ok (.bipush 8, 2) := by decide +kernel
theorem dX4_readBox_198 : decode cX4_readBox 198 = .ok (.invokevirtual 50, 3) := by decide +kernel
theorem dX4_readBox_201 : decode cX4_readBox 201 = .ok (.sipush 2520, 3) := by decide +kernel
theorem dX4_readBox_204 : decode cX4_readBox 204 = .ok (.if_icmp .ge 7, 3) := by decide +kernel
theorem dX4_readBox_207 : decode cX4_readBox 207 = .ok (.iconst 1, 1) := by decide +kernel
theorem dX4_readBox_208 : decode cX4_readBox 208 = .ok (.goto 4, 3) := by decide +kernel
theorem dX4_readBox_211 : decode cX4_readBox 211 = .ok (.iconst 0, 1) := by decide +kernel
theorem dX4_readBox_212 : decode cX4_readBox 212 = .ok (.ireturn, 1) := by decide +kernel
theorem dX4_checkedBy_0 : decode cX4_checkedBy 0 = .ok (.iconst 5, 1) := by decide +kernel
theorem dX4_checkedBy_1 : decode cX4_checkedBy 1 = .ok (.iload_n 0, 1) := by decide +kernel
theorem dX4_checkedBy_2 : decode cX4_checkedBy 2 = .ok (.imul, 1) := by decide +kernel
theorem dX4_checkedBy_3 : decode cX4_checkedBy 3 = .ok (.iload_n 1, 1) := by decide +kernel
theorem dX4_checkedBy_4 : decode cX4_checkedBy 4 = .ok (.iadd, 1) := by decide +kernel
theorem dX4_checkedBy_5 : decode cX4_checkedBy 5 = .ok (.sipush 251, 3) := by decide +kernel
theorem dX4_checkedBy_8 : decode cX4_checkedBy 8 = .ok (.irem, 1) := by decide +kernel
theorem dX4_checkedBy_9 : decode cX4_checkedBy 9 = .ok (.ireturn, 1) := by decide +kernel
theorem dX4_addPair_0 : decode cX4_addPair 0 = .ok (.aload_n 0, 1) := by decide +kernel
theorem dX4_addPair_1 : decode cX4_addPair 1 = .ok (.iload_n 1, 1) := by decide +kernel
theorem dX4_addPair_2 : decode cX4_addPair 2 = .ok (.bipush 8, 2) := by decide +kernel
theorem dX4_addPair_4 : decode cX4_addPair 4 = .ok (.ishr, 1) := by decide +kernel
theorem dX4_addPair_5 : decode cX4_addPair 5 = .ok (.invokevirtual 40, 3) := by decide +kernel
theorem dX4_addPair_8 : decode cX4_addPair 8 = .ok (.aload_n 0, 1) := by decide +kernel
theorem dX4_addPair_9 : decode cX4_addPair 9 = .ok (.iload_n 1, 1) := by decide +kernel
theorem dX4_addPair_10 : decode cX4_addPair 10 = .ok (.sipush 255, 3) := by decide +kernel
theorem dX4_addPair_13 : decode cX4_addPair 13 = .ok (.iand, 1) := by decide +kernel
theorem dX4_addPair_14 : decode cX4_addPair 14 = .ok (.invokevirtual 40, 3) := by decide +kernel
theorem dX4_addPair_17 : decode cX4_addPair 17 = .ok (.return_, 1) := by decide +kernel
theorem dX4_add_0 : decode cX4_add 0 = .ok (.aload_n 0, 1) := by decide +kernel
theorem dX4_add_1 : decode cX4_add 1 = .ok (.getfield 17, 3) := by decide +kernel
theorem dX4_add_4 : decode cX4_add 4 = .ok (.ifCond .lt 35, 3) := by decide +kernel
theorem dX4_add_7 : decode cX4_add 7 = .ok (.aload_n 0, 1) := by decide +kernel
theorem dX4_add_8 : decode cX4_add 8 = .ok (.getfield 17, 3) := by decide +kernel
theorem dX4_add_11 : decode cX4_add 11 = .ok (.aload_n 0, 1) := by decide +kernel
theorem dX4_add_12 : decode cX4_add 12 = .ok (.getfield 13, 3) := by decide +kernel
theorem dX4_add_15 : decode cX4_add 15 = .ok (.arraylength, 1) := by decide +kernel
theorem dX4_add_16 : decode cX4_add 16 = .ok (.if_icmp .ge 23, 3) := by decide +kernel
theorem dX4_add_19 : decode cX4_add 19 = .ok (.aload_n 0, 1) := by decide +kernel
theorem dX4_add_20 : decode cX4_add 20 = .ok (.getfield 13, 3) := by decide +kernel
theorem dX4_add_23 : decode cX4_add 23 = .ok (.aload_n 0, 1) := by decide +kernel
theorem dX4_add_24 : decode cX4_add 24 = .ok (.getfield 17, 3) := by decide +kernel
theorem dX4_add_27 : decode cX4_add 27 = .ok (.iload_n 1, 1) := by decide +kernel
theorem dX4_add_28 : decode cX4_add 28 = .ok (.iastore, 1) := by decide +kernel
theorem dX4_add_29 : decode cX4_add 29 = .ok (.aload_n 0, 1) := by decide +kernel
theorem dX4_add_30 : decode cX4_add 30 = .ok (.dup, 1) := by decide +kernel
theorem dX4_add_31 : decode cX4_add 31 = .ok (.getfield 17, 3) := by decide +kernel
theorem dX4_add_34 : decode cX4_add 34 = .ok (.iconst 1, 1) := by decide +kernel
theorem dX4_add_35 : decode cX4_add 35 = .ok (.iadd, 1) := by decide +kernel
theorem dX4_add_36 : decode cX4_add 36 = .ok (.putfield 17, 3) := by decide +kernel
theorem dX4_add_39 : decode cX4_add 39 = .ok (.return_, 1) := by decide +kernel
theorem dX5_init_0 : decode cX5_init 0 = .ok (.aload_n 0, 1) := by decide +kernel
theorem dX5_init_1 : decode cX5_init 1 = .ok (.invokespecial 3, 3) := by decide +kernel
theorem dX5_init_4 : decode cX5_init 4 = .ok (.aload_n 0, 1) := by decide +kernel
theorem dX5_init_5 : decode cX5_init 5 = .ok (.bipush 81, 2) := by decide +kernel
theorem dX5_init_7 : decode cX5_init 7 = .ok (.newarray .int, 2) := by decide +kernel
theorem dX5_init_9 : decode cX5_init 9 = .ok (.putfield 11, 3) := by decide +kernel
theorem dX5_init_12 : decode cX5_init 12 = .ok (.aload_n 0, 1) := by decide +kernel
theorem dX5_init_13 : decode cX5_init 13 = .ok (.bipush 6, 2) := by decide +kernel
theorem dX5_init_15 : decode cX5_init 15 = .ok (.newarray .int, 2) := by decide +kernel
theorem dX5_init_17 : decode cX5_init 17 = .ok (.putfield 15, 3) := by decide +kernel
theorem dX5_init_20 : decode cX5_init 20 = .ok (.aload_n 0, 1) := by decide +kernel
theorem dX5_init_21 : decode cX5_init 21 = .ok (.bipush 60, 2) := by decide +kernel
theorem dX5_init_23 : decode cX5_init 23 = .ok (.newarray .int, 2) := by decide +kernel
theorem dX5_init_25 : decode cX5_init 25 = .ok (.putfield 20, 3) := by decide +kernel
theorem dX5_init_28 : decode cX5_init 28 = .ok (.aload_n 0, 1) := by decide +kernel
theorem dX5_init_29 : decode cX5_init 29 = .ok (.sipush 1600, 3) := by decide +kernel
theorem dX5_init_32 : decode cX5_init 32 = .ok (.newarray .int, 2) := by decide +kernel
theorem dX5_init_34 : decode cX5_init 34 = .ok (.putfield 25, 3) := by decide +kernel
theorem dX5_init_37 : decode cX5_init 37 = .ok (.aload_n 0, 1) := by decide +kernel
theorem dX5_init_38 : decode cX5_init 38 = .ok (.invokevirtual 28, 3) := by decide +kernel
theorem dX5_init_41 : decode cX5_init 41 = .ok (.return_, 1) := by decide +kernel
theorem dX5_clear_0 : decode cX5_clear 0 = .ok (.aload_n 0, 1) := by decide +kernel
theorem dX5_clear_1 : decode cX5_clear 1 = .ok (.getfield 11, 3) := by decide +kernel
theorem dX5_clear_4 : decode cX5_clear 4 = .ok (.iconst 0, 1) := by decide +kernel
theorem dX5_clear_5 : decode cX5_clear 5 = .ok (.invokestatic 31, 3) := by decide +kernel
theorem dX5_clear_8 : decode cX5_clear 8 = .ok (.aload_n 0, 1) := by decide +kernel
theorem dX5_clear_9 : decode cX5_clear 9 = .ok (.getfield 15, 3) := by decide +kernel
theorem dX5_clear_12 : decode cX5_clear 12 = .ok (.iconst 0, 1) := by decide +kernel
theorem dX5_clear_13 : decode cX5_clear 13 = .ok (.invokestatic 31, 3) := by decide +kernel
theorem dX5_clear_16 : decode cX5_clear 16 = .ok (.aload_n 0, 1) := by decide +kernel
theorem dX5_clear_17 : decode cX5_clear 17 = .ok (.getfield 20, 3) := by decide +kernel
theorem dX5_clear_20 : decode cX5_clear 20 = .ok (.iconst 0, 1) := by decide +kernel
theorem dX5_clear_21 : decode cX5_clear 21 = .ok (.invokestatic 31, 3) := by decide +kernel
theorem dX5_clear_24 : decode cX5_clear 24 = .ok (.aload_n 0, 1) := by decide +kernel
theorem dX5_clear_25 : decode cX5_clear 25 = .ok (.iconst 0, 1) := by decide +kernel
theorem dX5_clear_26 : decode cX5_clear 26 = .ok (.putfield 37, 3) := by decide +kernel
theorem dX5_clear_29 : decode cX5_clear 29 = .ok (.aload_n 0, 1) := by decide +kernel
theorem dX5_clear_30 : decode cX5_clear 30 = .ok (.iconst 0, 1) := by decide +kernel
theorem dX5_clear_31 : decode cX5_clear 31 = .ok (.putfield 41, 3) := by decide +kernel
theorem dX5_clear_34 : decode cX5_clear 34 = .ok (.aload_n 0, 1) := by decide +kernel
theorem dX5_clear_35 : decode cX5_clear 35 = .ok (.iconst 0, 1) := by decide +kernel
theorem dX5_clear_36 : decode cX5_clear 36 = .ok (.putfield 44, 3) := by decide +kernel
theorem dX5_clear_39 : decode cX5_clear 39 = .ok (.aload_n 0, 1) := by decide +kernel
theorem dX5_clear_40 : decode cX5_clear 40 = .ok (.iconst 0, 1) := by decide +kernel
theorem dX5_clear_41 : decode cX5_clear 41 = .ok (.putfield 47, 3) := by decide +kernel
theorem dX5_clear_44 : decode cX5_clear 44 = .ok (.aload_n 0, 1) := by decide +kernel
theorem dX5_clear_45 : decode cX5_clear 45 = .ok (.iconst 0, 1) := by decide +kernel
theorem dX5_clear_46 : decode cX5_clear 46 = .ok (.putfield 50, 3) := by decide +kernel
theorem dX5_clear_49 : decode cX5_clear 49 = .ok (.aload_n 0, 1) := by decide +kernel
theorem dX5_clear_50 : decode cX5_clear 50 = .ok (.iconst 0, 1) := by decide +kernel
theorem dX5_clear_51 : decode cX5_clear 51 = .ok (.putfield 53, 3) := by decide +kernel
theorem dX5_clear_54 : decode cX5_clear 54 = .ok (.aload_n 0, 1) := by decide +kernel
theorem dX5_clear_55 : decode cX5_clear 55 = .ok (.iconst 0, 1) := by decide +kernel
theorem dX5_clear_56 : decode cX5_clear 56 = .ok (.putfield 56, 3) := by decide +kernel
theorem dX5_clear_59 : decode cX5_clear 59 = .ok (.aload_n 0, 1) := by decide +kernel
theorem dX5_clear_60 : decode cX5_clear 60 = .ok (.iconst 0, 1) := by decide +kernel
theorem dX5_clear_61 : decode cX5_clear 61 = .ok (.putfield 59, 3) := by decide +kernel
theorem dX5_clear_64 : decode cX5_clear 64 = .ok (.aload_n 0, 1) := by decide +kernel
theorem dX5_clear_65 : decode cX5_clear 65 = .ok (.sipush 500, 3) := by decide +kernel
theorem dX5_clear_68 : decode cX5_clear 68 = .ok (.putfield 62, 3) := by decide +kernel
theorem dX5_clear_71 : decode cX5_clear 71 = .ok (.aload_n 0, 1) := by decide +kernel
theorem dX5_clear_72 : decode cX5_clear 72 = .ok (.iconst 0, 1) := by decide +kernel
theorem dX5_clear_73 : decode cX5_clear 73 = .ok (.putfield 65, 3) := by decide +kernel
theorem dX5_clear_76 : decode cX5_clear 76 = .ok (.aload_n 0, 1) := by decide +kernel
theorem dX5_clear_77 : decode cX5_clear 77 = .ok (.iconst 0, 1) := by decide +kernel
theorem dX5_clear_78 : decode cX5_clear 78 = .ok (.putfield 68, 3) := by decide +kernel
theorem dX5_clear_81 : decode cX5_clear 81 = .ok (.return_, 1) := by decide +kernel
theorem dX5_shiftOf_0 : decode cX5_shiftOf 0 = .ok (.iconst 5, 1) := by decide +kernel
theorem dX5_shiftOf_1 : decode cX5_shiftOf 1 = .ok (.iconst 5, 1) := by decide +kernel
theorem dX5_shiftOf_2 : decode cX5_shiftOf 2 = .ok (.iload_n 0, 1) := by decide +kernel
theorem dX5_shiftOf_3 : decode cX5_shiftOf 3 = .ok (.isub, 1) := by decide +kernel
theorem dX5_shiftOf_4 : decode cX5_shiftOf 4 = .ok (.imul, 1) := by decide +kernel
theorem dX5_shiftOf_5 : decode cX5_shiftOf 5 = .ok (.ireturn, 1) := by decide +kernel
theorem dX5_hasSteers_0 : decode cX5_hasSteers 0 = .ok (.aload_n 0, 1) := by decide +kernel
theorem dX5_hasSteers_1 : decode cX5_hasSteers 1 = .ok (.getfield 44, 3) := by decide +kernel
theorem dX5_hasSteers_4 : decode cX5_hasSteers 4 = .ok (.aload_n 0, 1) := by decide +kernel
theorem dX5_hasSteers_5 : decode cX5_hasSteers 5 = .ok (.getfield 41, 3) := by decide +kernel
theorem dX5_hasSteers_8 : decode cX5_hasSteers 8 = .ok (.if_icmp .le 7, 3) := by decide +kernel
theorem dX5_hasSteers_11 : decode cX5_hasSteers 11 = .ok (.iconst 1, 1) := by decide +kernel
theorem dX5_hasSteers_12 : decode cX5_hasSteers 12 = .ok (.goto 4, 3) := by decide +kernel
theorem dX5_hasSteers_15 : decode cX5_hasSteers 15 = .ok (.iconst 0, 1) := by decide +kernel
theorem dX5_hasSteers_16 : decode cX5_hasSteers 16 = .ok (.ireturn, 1) := by decide +kernel
theorem dX5_hasGoes_0 : decode cX5_hasGoes 0 = .ok (.aload_n 0, 1) := by decide +kernel
theorem dX5_hasGoes_1 : decode cX5_hasGoes 1 = .ok (.getfield 50, 3) := by decide +kernel
theorem dX5_hasGoes_4 : decode cX5_hasGoes 4 = .ok (.aload_n 0, 1) := by decide +kernel
theorem dX5_hasGoes_5 : decode cX5_hasGoes 5 = .ok (.getfield 47, 3) := by decide +kernel
theorem dX5_hasGoes_8 : decode cX5_hasGoes 8 = .ok (.if_icmp .le 7, 3) := by decide +kernel
theorem dX5_hasGoes_11 : decode cX5_hasGoes 11 = .ok (.iconst 1, 1) := by decide +kernel
theorem dX5_hasGoes_12 : decode cX5_hasGoes 12 = .ok (.goto 4, 3) := by decide +kernel
theorem dX5_hasGoes_15 : decode cX5_hasGoes 15 = .ok (.iconst 0, 1) := by decide +kernel
theorem dX5_hasGoes_16 : decode cX5_hasGoes 16 = .ok (.ireturn, 1) := by decide +kernel
theorem dX5_hasBox_0 : decode cX5_hasBox 0 = .ok (.iload_n 1, 1) := by decide +kernel
theorem dX5_hasBox_1 : decode cX5_hasBox 1 = .ok (.ifCond .lt 21, 3) := by decide +kernel
theorem dX5_hasBox_4 : decode cX5_hasBox 4 = .ok (.iload_n 1, 1) := by decide +kernel
theorem dX5_hasBox_5 : decode cX5_hasBox 5 = .ok (.aload_n 0, 1) := by decide +kernel
theorem dX5_hasBox_6 : decode cX5_hasBox 6 = .ok (.getfield 59, 3) := by decide +kernel
theorem dX5_hasBox_9 : decode cX5_hasBox 9 = .ok (.if_icmp .ge 13, 3) := by decide +kernel
theorem dX5_hasBox_12 : decode cX5_hasBox 12 = .ok (.iload_n 1, 1) := by decide +kernel
theorem dX5_hasBox_13 : decode cX5_hasBox 13 = .ok (.bipush 6, 2) := by decide +kernel
theorem dX5_hasBox_15 : decode cX5_hasBox 15 = .ok (.if_icmp .ge 7, 3) := by decide +kernel
theorem dX5_hasBox_18 : decode cX5_hasBox 18 = .ok (.iconst 1, 1) := by decide +kernel
theorem dX5_hasBox_19 : decode cX5_hasBox 19 = .ok (.goto 4, 3) := by decide +kernel
theorem dX5_hasBox_22 : decode cX5_hasBox 22 = .ok (.iconst 0, 1) := by decide +kernel
theorem dX5_hasBox_23 : decode cX5_hasBox 23 = .ok (.ireturn, 1) := by decide +kernel
theorem dX5_hasCell_0 : decode cX5_hasCell 0 = .ok (.iload_n 1, 1) := by decide +kernel
theorem dX5_hasCell_1 : decode cX5_hasCell 1 = .ok (.ifCond .lt 27, 3) := by decide +kernel
theorem dX5_hasCell_4 : decode cX5_hasCell 4 = .ok (.iload_n 1, 1) := by decide +kernel
theorem dX5_hasCell_5 : decode cX5_hasCell 5 = .ok (.aload_n 0, 1) := by decide +kernel
theorem dX5_hasCell_6 : decode cX5_hasCell 6 = .ok (.getfield 53, 3) := by decide +kernel
theorem dX5_hasCell_9 : decode cX5_hasCell 9 = .ok (.if_icmp .ge 19, 3) := by decide +kernel
theorem dX5_hasCell_12 : decode cX5_hasCell 12 = .ok (.iload_n 2, 1) := by decide +kernel
theorem dX5_hasCell_13 : decode cX5_hasCell 13 = .ok (.ifCond .lt 15, 3) := by decide +kernel
theorem dX5_hasCell_16 : decode cX5_hasCell 16 = .ok (.iload_n 2, 1) := by decide +kernel
theorem dX5_hasCell_17 : decode cX5_hasCell 17 = .ok (.aload_n 0, 1) := by decide +kernel
theorem dX5_hasCell_18 : decode cX5_hasCell 18 = .ok (.getfield 56, 3) := by decide +kernel
theorem dX5_hasCell_21 : decode cX5_hasCell 21 = .ok (.if_icmp .ge 7, 3) := by decide +kernel
theorem dX5_hasCell_24 : decode cX5_hasCell 24 = .ok (.iconst 1, 1) := by decide +kernel
theorem dX5_hasCell_25 : decode cX5_hasCell 25 = .ok (.goto 4, 3) := by decide +kernel
theorem dX5_hasCell_28 : decode cX5_hasCell 28 = .ok (.iconst 0, 1) := by decide +kernel
theorem dX5_hasCell_29 : decode cX5_hasCell 29 = .ok (.ireturn, 1) := by decide +kernel
theorem dX5_greyAt_0 : decode cX5_greyAt 0 = .ok (.iload_n 2, 1) := by decide +kernel
theorem dX5_greyAt_1 : decode cX5_greyAt 1 = .ok (.bipush 9, 2) := by decide +kernel
theorem dX5_greyAt_3 : decode cX5_greyAt 3 = .ok (.imul, 1) := by decide +kernel
theorem dX5_greyAt_4 : decode cX5_greyAt 4 = .ok (.iload_n 1, 1) := by decide +kernel
theorem dX5_greyAt_5 : decode cX5_greyAt 5 = .ok (.iadd, 1) := by decide +kernel
theorem dX5_greyAt_6 : decode cX5_greyAt 6 = .ok (.istore_n 3, 1) := by decide +kernel
theorem dX5_greyAt_7 : decode cX5_greyAt 7 = .ok (.aload_n 0, 1) := by decide +kernel
theorem dX5_greyAt_8 : decode cX5_greyAt 8 = .ok (.iload_n 1, 1) := by decide +kernel
theorem dX5_greyAt_9 : decode cX5_greyAt 9 = .ok (.iload_n 2, 1) := by decide +kernel
theorem dX5_greyAt_10 : decode cX5_greyAt 10 = .ok (.invokevirtual 71, 3) := by decide +kernel
theorem dX5_greyAt_13 : decode cX5_greyAt 13 = .ok (.ifCond .eq 21, 3) := by decide +kernel
theorem dX5_greyAt_16 : decode cX5_greyAt 16 = .ok (.iload_n 3, 1) := by decide +kernel
theorem dX5_greyAt_17 : decode cX5_greyAt 17 = .ok (.aload_n 0, 1) := by decide +kernel
theorem dX5_greyAt_18 : decode cX5_greyAt 18 = .ok (.getfield 11, 3) := by decide +kernel
theorem dX5_greyAt_21 : decode cX5_greyAt 21 = .ok (.arraylength, 1) := by decide +kernel
theorem dX5_greyAt_22 : decode cX5_greyAt 22 = .ok (.if_icmp .ge 12, 3) := by decide +kernel
theorem dX5_greyAt_25 : decode cX5_greyAt 25 = .ok (.aload_n 0, 1) := by decide +kernel
theorem dX5_greyAt_26 : decode cX5_greyAt 26 = .ok (.getfield 11, 3) := by decide +kernel
theorem dX5_greyAt_29 : decode cX5_greyAt 29 = .ok (.iload_n 3, 1) := by decide +kernel
theorem dX5_greyAt_30 : decode cX5_greyAt 30 = .ok (.iaload, 1) := by decide +kernel
theorem dX5_greyAt_31 : decode cX5_greyAt 31 = .ok (.goto 4, 3) := by decide +kernel
theorem dX5_greyAt_34 : decode cX5_greyAt 34 = .ok (.iconst 0, 1) := by decide +kernel
theorem dX5_greyAt_35 : decode cX5_greyAt 35 = .ok (.ireturn, 1) := by decide +kernel
theorem dX5_setGrey_0 : decode cX5_setGrey 0 = .ok (.iload_n 2, 1) := by decide +kernel
theorem dX5_setGrey_1 : decode cX5_setGrey 1 = .ok (.bipush 9, 2) := by decide +kernel
theorem dX5_setGrey_3 : decode cX5_setGrey 3 = .ok (.imul, 1) := by decide +kernel
theorem dX5_setGrey_4 : decode cX5_setGrey 4 = .ok (.iload_n 1, 1) := by decide +kernel
theorem dX5_setGrey_5 : decode cX5_setGrey 5 = .ok (.iadd, 1) := by decide +kernel
theorem dX5_setGrey_6 : decode cX5_setGrey 6 = .ok (.istore 4, 2) := by decide +kernel
theorem dX5_setGrey_8 : decode cX5_setGrey 8 = .ok (.aload_n 0, 1) := by decide +kernel
theorem dX5_setGrey_9 : decode cX5_setGrey 9 = .ok (.iload_n 1, 1) := by decide +kernel
theorem dX5_setGrey_10 : decode cX5_setGrey 10 = .ok (.iload_n 2, 1) := by decide +kernel
theorem dX5_setGrey_11 : decode cX5_setGrey 11 = .ok (.invokevirtual 71, 3) := by decide +kernel
theorem dX5_setGrey_14 : decode cX5_setGrey 14 = .ok (.ifCond .eq 21, 3) := by decide +kernel
theorem dX5_setGrey_17 : decode cX5_setGrey 17 = .ok (.iload 4, 2) := by decide +kernel
theorem dX5_setGrey_19 : decode cX5_setGrey 19 = .ok (.aload_n 0, 1) := by decide +kernel
theorem dX5_setGrey_20 : decode cX5_setGrey 20 = .ok (.getfield 11, 3) := by decide +kernel
theorem dX5_setGrey_23 : decode cX5_setGrey 23 = .ok (.arraylength, 1) := by decide +kernel
theorem dX5_setGrey_24 : decode cX5_setGrey 24 = .ok (.if_icmp .ge 11, 3) := by decide +kernel
theorem dX5_setGrey_27 : decode cX5_setGrey 27 = .ok (.aload_n 0, 1) := by decide +kernel
theorem dX5_setGrey_28 : decode cX5_setGrey 28 = .ok (.getfield 11, 3) := by decide +kernel
theorem dX5_setGrey_31 : decode cX5_setGrey 31 = .ok (.iload 4, 2) := by decide +kernel
theorem dX5_setGrey_33 : decode cX5_setGrey 33 = .ok (.iload_n 3, 1) := by decide +kernel
theorem dX5_setGrey_34 : decode cX5_setGrey 34 = .ok (.iastore, 1) := by decide +kernel
theorem dX5_setGrey_35 : decode cX5_setGrey 35 = .ok (.return_, 1) := by decide +kernel
theorem dX5_boxNamed_0 : decode cX5_boxNamed 0 = .ok (.iconst 0, 1) := by decide +kernel
theorem dX5_boxNamed_1 : decode cX5_boxNamed 1 = .ok (.istore_n 2, 1) := by decide +kernel
theorem dX5_boxNamed_2 : decode cX5_boxNamed 2 = .ok (.iload_n 2, 1) := by decide +kernel
theorem dX5_boxNamed_3 : decode cX5_boxNamed 3 = .ok (.aload_n 0, 1) := by decide +kernel
theorem dX5_boxNamed_4 : decode cX5_boxNamed 4 = .ok (.getfield 59, 3) := by decide +kernel
theorem dX5_boxNamed_7 : decode cX5_boxNamed 7 = .ok (.if_icmp .ge 27, 3) := by decide +kernel
theorem dX5_boxNamed_10 : decode cX5_boxNamed 10 = .ok (.iload_n 2, 1) := by decide +kernel
theorem dX5_boxNamed_11 : decode cX5_boxNamed 11 = .ok (.bipush 6, 2) := by decide +kernel
theorem dX5_boxNamed_13 : decode cX5_boxNamed 13 = .ok (.if_icmp .ge 21, 3) := by decide +kernel
theorem dX5_boxNamed_16 : decode cX5_boxNamed 16 = .ok (.aload_n 0, 1) := by decide +kernel
theorem dX5_boxNamed_17 : decode cX5_boxNamed 17 = .ok (.getfield 15, 3) := by decide +kernel
theorem dX5_boxNamed_20 : decode cX5_boxNamed 20 = .ok (.iload_n 2, 1) := by decide +kernel
theorem dX5_boxNamed_21 : decode cX5_boxNamed 21 = .ok (.iaload, 1) := by decide +kernel
theorem dX5_boxNamed_22 : decode cX5_boxNamed 22 = .ok (.iload_n 1, 1) := by decide +kernel
theorem dX5_boxNamed_23 : decode cX5_boxNamed 23 = .ok (.if_icmp .ne 5, 3) := by decide +kernel
theorem dX5_boxNamed_26 : decode cX5_boxNamed 26 = .ok (.iload_n 2, 1) := by decide +kernel
theorem dX5_boxNamed_27 : decode cX5_boxNamed 27 = .ok (.ireturn, 1) := by decide +kernel
theorem dX5_boxNamed_28 : decode cX5_boxNamed 28 = .ok (.iinc 2 1, 3) := by decide +kernel
theorem dX5_boxNamed_31 : decode cX5_boxNamed 31 = .ok (.goto (-29), 3) := by decide +kernel
theorem dX5_boxNamed_34 : decode cX5_boxNamed 34 = .ok (.iconst (-1), 1) := by decide +kernel
theorem dX5_boxNamed_35 : decode cX5_boxNamed 35 = .ok (.ireturn, 1) := by decide +kernel
theorem dX5_boxStartingOn_0 : decode cX5_boxStartingOn 0 = .ok (.aload_n 0, 1) := by decide +kernel
theorem dX5_boxStartingOn_1 : decode cX5_boxStartingOn 1 = .ok (.getfield 20, 3) := by decide +kernel
theorem dX5_boxStartingOn_4 : decode cX5_boxStartingOn 4 = .ok (.aload_n 0, 1) := by decide +kernel
theorem dX5_boxStartingOn_5 : decode cX5_boxStartingOn 5 = .ok (.getfield 59, 3) := by decide +kernel
theorem dX5_boxStartingOn_8 : decode cX5_boxStartingOn 8 = .ok (.iload_n 1, 1) := by decide +kernel
theorem dX5_boxStartingOn_9 : decode cX5_boxStartingOn 9 = .ok (.iload_n 2, 1) := by decide +kernel
theorem dX5_boxStartingOn_10 : decode cX5_boxStartingOn 10 = .ok (.invokestatic 75, 3) := by decide +kernel
theorem dX5_boxStartingOn_13 : decode cX5_boxStartingOn 13 = .ok (.ireturn, 1) := by decide +kernel
theorem dX5_addBox_0 : decode cX5_addBox 0 = .ok (.aload_n 0, 1) := by decide +kernel
theorem dX5_addBox_1 : decode cX5_addBox 1 = .ok (.getfield 59, 3) := by decide +kernel
theorem dX5_addBox_4 : decode cX5_addBox 4 = .ok (.ifCond .lt 12, 3) := by decide +kernel
theorem dX5_addBox_7 : decode cX5_addBox 7 = .ok (.aload_n 0, 1) := by decide +kernel
theorem dX5_addBox_8 : decode cX5_addBox 8 = .ok (.getfield 59, 3) := by decide +kernel
theorem dX5_addBox_11 : decode cX5_addBox 11 = .ok (.bipush 6, 2) := by decide +kernel
theorem dX5_addBox_13 : decode cX5_addBox 13 = .ok (.if_icmp .lt 4, 3) := by decide +kernel
theorem dX5_addBox_16 : decode cX5_addBox 16 = .ok (.return_, 1) := by decide +kernel
theorem dX5_addBox_17 : decode cX5_addBox 17 = .ok (.aload_n 0, 1) := by decide +kernel
theorem dX5_addBox_18 : decode cX5_addBox 18 = .ok (.getfield 15, 3) := by decide +kernel
theorem dX5_addBox_21 : decode cX5_addBox 21 = .ok (.aload_n 0, 1) := by decide +kernel
theorem dX5_addBox_22 : decode cX5_addBox 22 = .ok (.getfield 59, 3) := by decide +kernel
theorem dX5_addBox_25 : decode cX5_addBox 25 = .ok (.iload_n 1, 1) := by decide +kernel
theorem dX5_addBox_26 : decode cX5_addBox 26 = .ok (.iastore, 1) := by decide +kernel
theorem dX5_addBox_27 : decode cX5_addBox 27 = .ok (.aload_n 0, 1) := by decide +kernel
theorem dX5_addBox_28 : decode cX5_addBox 28 = .ok (.dup, 1) := by decide +kernel
theorem dX5_addBox_29 : decode cX5_addBox 29 = .ok (.getfield 59, 3) := by decide +kernel
theorem dX5_addBox_32 : decode cX5_addBox 32 = .ok (.iconst 1, 1) := by decide +kernel
theorem dX5_addBox_33 : decode cX5_addBox 33 = .ok (.iadd, 1) := by decide +kernel
theorem dX5_addBox_34 : decode cX5_addBox 34 = .ok (.putfield 59, 3) := by decide +kernel
theorem dX5_addBox_37 : decode cX5_addBox 37 = .ok (.aload_n 0, 1) := by decide +kernel
theorem dX5_addBox_38 : decode cX5_addBox 38 = .ok (.aload_n 0, 1) := by decide +kernel
theorem dX5_addBox_39 : decode cX5_addBox 39 = .ok (.getfield 59, 3) := by decide +kernel
theorem dX5_addBox_42 : decode cX5_addBox 42 = .ok (.iconst 1, 1) := by decide +kernel
theorem dX5_addBox_43 : decode cX5_addBox 43 = .ok (.isub, 1) := by decide +kernel
theorem dX5_addBox_44 : decode cX5_addBox 44 = .ok (.iconst 0, 1) := by decide +kernel
theorem dX5_addBox_45 : decode cX5_addBox 45 = .ok (.iload_n 2, 1) := by decide +kernel
theorem dX5_addBox_46 : decode cX5_addBox 46 = .ok (.invokevirtual 79, 3) := by decide +kernel
theorem dX5_addBox_49 : decode cX5_addBox 49 = .ok (.aload_n 0, 1) := by decide +kernel
theorem dX5_addBox_50 : decode cX5_addBox 50 = .ok (.aload_n 0, 1) := by decide +kernel
theorem dX5_addBox_51 : decode cX5_addBox 51 = .ok (.getfield 59, 3) := by decide +kernel
theorem dX5_addBox_54 : decode cX5_addBox 54 = .ok (.iconst 1, 1) := by decide +kernel
theorem dX5_addBox_55 : decode cX5_addBox 55 = .ok (.isub, 1) := by decide +kernel
theorem dX5_addBox_56 : decode cX5_addBox 56 = .ok (.iconst 1, 1) := by decide +kernel
theorem dX5_addBox_57 : decode cX5_addBox 57 = .ok (.iload_n 3, 1) := by decide +kernel
theorem dX5_addBox_58 : decode cX5_addBox 58 = .ok (.invokevirtual 79, 3) := by decide +kernel
theorem dX5_addBox_61 : decode cX5_addBox 61 = .ok (.aload_n 0, 1) := by decide +kernel
theorem dX5_addBox_62 : decode cX5_addBox 62 = .ok (.aload_n 0, 1) := by decide +kernel
theorem dX5_addBox_63 : decode cX5_addBox 63 = .ok (.getfield 59, 3) := by decide +kernel
theorem dX5_addBox_66 : decode cX5_addBox 66 = .ok (.iconst 1, 1) := by decide +kernel
theorem dX5_addBox_67 : decode cX5_addBox 67 = .ok (.isub, 1) := by decide +kernel
theorem dX5_addBox_68 : decode cX5_addBox 68 = .ok (.iconst 2, 1) := by decide +kernel
theorem dX5_addBox_69 : decode cX5_addBox 69 = .ok (.iload 4, 2) := by decide +kernel
theorem dX5_addBox_71 : decode cX5_addBox 71 = .ok (.invokevirtual 79, 3) := by decide +kernel
theorem dX5_addBox_74 : decode cX5_addBox 74 = .ok (.aload_n 0, 1) := by decide +kernel
theorem dX5_addBox_75 : decode cX5_addBox 75 = .ok (.aload_n 0, 1) := by decide +kernel
theorem dX5_addBox_76 : decode cX5_addBox 76 = .ok (.getfield 59, 3) := by decide +kernel
theorem dX5_addBox_79 : decode cX5_addBox 79 = .ok (.iconst 1, 1) := by decide +kernel
theorem dX5_addBox_80 : decode cX5_addBox 80 = .ok (.isub, 1) := by decide +kernel
theorem dX5_addBox_81 : decode cX5_addBox 81 = .ok (.iconst 5, 1) := by decide +kernel
theorem dX5_addBox_82 : decode cX5_addBox 82 = .ok (.iconst 1, 1) := by decide +kernel
theorem dX5_addBox_83 : decode cX5_addBox 83 = .ok (.invokevirtual 79, 3) := by decide +kernel
theorem dX5_addBox_86 : decode cX5_addBox 86 = .ok (.aload_n 0, 1) := by decide +kernel
theorem dX5_addBox_87 : decode cX5_addBox 87 = .ok (.aload_n 0, 1) := by decide +kernel
theorem dX5_addBox_88 : decode cX5_addBox 88 = .ok (.getfield 59, 3) := by decide +kernel
theorem dX5_addBox_91 : decode cX5_addBox 91 = .ok (.iconst 1, 1) := by decide +kernel
theorem dX5_addBox_92 : decode cX5_addBox 92 = .ok (.isub, 1) := by decide +kernel
theorem dX5_addBox_93 : decode cX5_addBox 93 = .ok (.bipush 6, 2) := by decide +kernel
theorem dX5_addBox_95 : decode cX5_addBox 95 = .ok (.iconst 1, 1) := by decide +kernel
theorem dX5_addBox_96 : decode cX5_addBox 96 = .ok (.invokevirtual 79, 3) := by decide +kernel
theorem dX5_addBox_99 : decode cX5_addBox 99 = .ok (.return_, 1) := by decide +kernel
theorem dX5_setStart_0 : decode cX5_setStart 0 = .ok (.iload_n 1, 1) := by decide +kernel
theorem dX5_setStart_1 : decode cX5_setStart 1 = .ok (.bipush 10, 2) := by decide +kernel
theorem dX5_setStart_3 : decode cX5_setStart 3 = .ok (.imul, 1) := by decide +kernel
theorem dX5_setStart_4 : decode cX5_setStart 4 = .ok (.iload_n 2, 1) := by decide +kernel
theorem dX5_setStart_5 : decode cX5_setStart 5 = .ok (.iadd, 1) := by decide +kernel
theorem dX5_setStart_6 : decode cX5_setStart 6 = .ok (.istore 4, 2) := by decide +kernel
theorem dX5_setStart_8 : decode cX5_setStart 8 = .ok (.aload_n 0, 1) := by decide +kernel
theorem dX5_setStart_9 : decode cX5_setStart 9 = .ok (.iload_n 1, 1) := by decide +kernel
theorem dX5_setStart_10 : decode cX5_setStart 10 = .ok (.invokevirtual 83, 3) := by decide +kernel
theorem dX5_setStart_13 : decode cX5_setStart 13 = .ok (.ifCond .eq 26, 3) := by decide +kernel
theorem dX5_setStart_16 : decode cX5_setStart 16 = .ok (.iload 4, 2) := by decide +kernel
theorem dX5_setStart_18 : decode cX5_setStart 18 = .ok (.ifCond .lt 21, 3) := by decide +kernel
theorem dX5_setStart_21 : decode cX5_setStart 21 = .ok (.iload 4, 2) := by decide +kernel
theorem dX5_setStart_23 : decode cX5_setStart 23 = .ok (.aload_n 0, 1) := by decide +kernel
theorem dX5_setStart_24 : decode cX5_setStart 24 = .ok (.getfield 20, 3) := by decide +kernel
theorem dX5_setStart_27 : decode cX5_setStart 27 = .ok (.arraylength, 1) := by decide +kernel
theorem dX5_setStart_28 : decode cX5_setStart 28 = .ok (.if_icmp .ge 11, 3) := by decide +kernel
theorem dX5_setStart_31 : decode cX5_setStart 31 = .ok (.aload_n 0, 1) := by decide +kernel
theorem dX5_setStart_32 : decode cX5_setStart 32 = .ok (.getfield 20, 3) := by decide +kernel
theorem dX5_setStart_35 : decode cX5_setStart 35 = .ok (.iload 4, 2) := by decide +kernel
theorem dX5_setStart_37 : decode cX5_setStart 37 = .ok (.iload_n 3, 1) := by decide +kernel
theorem dX5_setStart_38 : decode cX5_setStart 38 = .ok (.iastore, 1) := by decide +kernel
theorem dX5_setStart_39 : decode cX5_setStart 39 = .ok (.return_, 1) := by decide +kernel
theorem dX5_emit_0 : decode cX5_emit 0 = .ok (.aload_n 0, 1) := by decide +kernel
theorem dX5_emit_1 : decode cX5_emit 1 = .ok (.getfield 37, 3) := by decide +kernel
theorem dX5_emit_4 : decode cX5_emit 4 = .ok (.ifCond .lt 40, 3) := by decide +kernel
theorem dX5_emit_7 : decode cX5_emit 7 = .ok (.aload_n 0, 1) := by decide +kernel
theorem dX5_emit_8 : decode cX5_emit 8 = .ok (.getfield 37, 3) := by decide +kernel
theorem dX5_emit_11 : decode cX5_emit 11 = .ok (.aload_n 0, 1) := by decide +kernel
theorem dX5_emit_12 : decode cX5_emit 12 = .ok (.getfield 25, 3) := by decide +kernel
theorem dX5_emit_15 : decode cX5_emit 15 = .ok (.arraylength, 1) := by decide +kernel
theorem dX5_emit_16 : decode cX5_emit 16 = .ok (.if_icmp .ge 28, 3) := by decide +kernel
theorem dX5_emit_19 : decode cX5_emit 19 = .ok (.aload_n 0, 1) := by decide +kernel
theorem dX5_emit_20 : decode cX5_emit 20 = .ok (.getfield 25, 3) := by decide +kernel
theorem dX5_emit_23 : decode cX5_emit 23 = .ok (.aload_n 0, 1) := by decide +kernel
theorem dX5_emit_24 : decode cX5_emit 24 = .ok (.getfield 37, 3) := by decide +kernel
theorem dX5_emit_27 : decode cX5_emit 27 = .ok (.iload_n 2, 1) := by decide +kernel
theorem dX5_emit_28 : decode cX5_emit 28 = .ok (.bipush 16, 2) := by decide +kernel
theorem dX5_emit_30 : decode cX5_emit 30 = .ok (.imul, 1) := by decide +kernel
theorem dX5_emit_31 : decode cX5_emit 31 = .ok (.iload_n 1, 1) := by decide +kernel
theorem dX5_emit_32 : decode cX5_emit 32 = .ok (.iadd, 1) := by decide +kernel
theorem dX5_emit_33 : decode cX5_emit 33 = .ok (.iastore, 1) := by decide +kernel
theorem dX5_emit_34 : decode cX5_emit 34 = .ok (.aload_n 0, 1) := by decide +kernel
theorem dX5_emit_35 : decode cX5_emit 35 = .ok (.dup, 1) := by decide +kernel
theorem dX5_emit_36 : decode cX5_emit 36 = .ok (.getfield 37, 3) := by decide +kernel
theorem dX5_emit_39 : decode cX5_emit 39 = .ok (.iconst 1, 1) := by decide +kernel
theorem dX5_emit_40 : decode cX5_emit 40 = .ok (.iadd, 1) := by decide +kernel
theorem dX5_emit_41 : decode cX5_emit 41 = .ok (.putfield 37, 3) := by decide +kernel
theorem dX5_emit_44 : decode cX5_emit 44 = .ok (.return_, 1) := by decide +kernel
theorem dX6_init_0 : decode cX6_init 0 = .ok (.aload_n 0, 1) := by decide +kernel
theorem dX6_init_1 : decode cX6_init 1 = .ok (.invokespecial 3, 3) := by decide +kernel
theorem dX6_init_4 : decode cX6_init 4 = .ok (.aload_n 0, 1) := by decide +kernel
theorem dX6_init_5 : decode cX6_init 5 = .ok (.new 9, 3) := by decide +kernel
theorem dX6_init_8 : decode cX6_init 8 = .ok (.dup, 1) := by decide +kernel
theorem dX6_init_9 : decode cX6_init 9 = .ok (.aload_n 1, 1) := by decide +kernel
theorem dX6_init_10 : decode cX6_init 10 = .ok (.invokespecial 11, 3) := by decide +kernel
theorem dX6_init_13 : decode cX6_init 13 = .ok (.putfield 14, 3) := by decide +kernel
theorem dX6_init_16 : decode cX6_init 16 = .ok (.aload_n 0, 1) := by decide +kernel
theorem dX6_init_17 : decode cX6_init 17 = .ok (.new 20, 3) := by decide +kernel
theorem dX6_init_20 : decode cX6_init 20 = .ok (.dup, 1) := by decide +kernel
theorem dX6_init_21 : decode cX6_init 21 = .ok (.aload_n 0, 1) := by decide +kernel
theorem dX6_init_22 : decode cX6_init 22 = .ok (.getfield 14, 3) := by decide +kernel
theorem dX6_init_25 : decode cX6_init 25 = .ok (.aload_n 2, 1) := by decide +kernel
theorem dX6_init_26 : decode cX6_init 26 = .ok (.invokespecial 22, 3) := by decide +kernel
theorem dX6_init_29 : decode cX6_init 29 = .ok (.putfield 25, 3) := by decide +kernel
theorem dX6_init_32 : decode cX6_init 32 = .ok (.aload_n 0, 1) := by decide +kernel
theorem dX6_init_33 : decode cX6_init 33 = .ok (.aload_n 2, 1) := by decide +kernel
theorem dX6_init_34 : decode cX6_init 34 = .ok (.putfield 29, 3) := by decide +kernel
theorem dX6_init_37 : decode cX6_init 37 = .ok (.return_, 1) := by decide +kernel
theorem dX6_readInto_0 : decode cX6_readInto 0 = .ok (.aload_n 0, 1) := by decide +kernel
theorem dX6_readInto_1 : decode cX6_readInto 1 = .ok (.aload_n 1, 1) := by decide +kernel
theorem dX6_readInto_2 : decode cX6_readInto 2 = .ok (.putfield 29, 3) := by decide +kernel
theorem dX6_readInto_5 : decode cX6_readInto 5 = .ok (.aload_n 0, 1) := by decide +kernel
theorem dX6_readInto_6 : decode cX6_readInto 6 = .ok (.getfield 29, 3) := by decide +kernel
theorem dX6_readInto_9 : decode cX6_readInto 9 = .ok (.invokevirtual 33, 3) := by decide +kernel
theorem dX6_readInto_12 : decode cX6_readInto 12 = .ok (.aload_n 0, 1) := by decide +kernel
theorem dX6_readInto_13 : decode cX6_readInto 13 = .ok (.getfield 14, 3) := by decide +kernel
theorem dX6_readInto_16 : decode cX6_readInto 16 = .ok (.invokevirtual 38, 3) := by decide +kernel
theorem dX6_readInto_19 : decode cX6_readInto 19 = .ok (.iconst 0, 1) := by decide +kernel
theorem dX6_readInto_20 : decode cX6_readInto 20 = .ok (.istore_n 2, 1) := by decide +kernel
theorem dX6_readInto_21 : decode cX6_readInto 21 = .ok (.aload_n 0, 1) := by decide +kernel
theorem dX6_readInto_22 : decode cX6_readInto 22 = .ok (.iload_n 2, 1) := by decide +kernel
theorem dX6_readInto_23 : decode cX6_readInto 23 = .ok (.ifCond .ne 7, 3) := by decide +kernel
theorem dX6_readInto_26 : decode cX6_readInto 26 = .ok (.iconst 1, 1) := by decide +kernel
theorem dX6_readInto_27 : decode cX6_readInto 27 = .ok (.goto 4, 3) := by decide +kernel
theorem dX6_readInto_30 : decode cX6_readInto 30 = .ok (.iconst 0, 1) := by decide +kernel
theorem dX6_readInto_31 : decode cX6_readInto 31 = .ok (.invokevirtual 41, 3) := by decide +kernel
theorem dX6_readInto_34 : decode cX6_readInto 34 = .ok (.iinc 2 1, 3) := by decide +kernel
theorem dX6_readInto_37 : decode cX6_readInto 37 = .ok (.iload_n 2, 1) := by decide +kernel
theorem dX6_readInto_38 : decode cX6_readInto 38 = .ok (.bipush 80, 2) := by decide +kernel
theorem dX6_readInto_40 : decode cX6_readInto 40 = .ok (.if_icmp .ne 22, 3) := by decide +kernel
theorem dX6_readInto_43 : decode cX6_readInto 43 = .ok (.aload_n 0, 1) := by decide +kernel
theorem dX6_readInto_44 : decode cX6_readInto 44 = .ok (.getfield 14, 3) := by decide +kernel
theorem dX6_readInto_47 : decode cX6_readInto 47 = .ok (.bipush 59, 2) := by decide +kernel
theorem dX6_readInto_49 : decode cX6_readInto 49 = .ok (.invokevirtual 45, 3) := by decide +kernel
theorem dX6_readInto_52 : decode cX6_readInto 52 = .ok (.ifCond .eq 10, 3) := by decide +kernel
theorem dX6_readInto_55 : decode cX6_readInto 55 = .ok (.aload_n 0, 1) := by decide +kernel
theorem dX6_readInto_56 : decode cX6_readInto 56 = .ok (.getfield 14, 3) := by decide +kernel
theorem dX6_readInto_59 : decode cX6_readInto 59 = .ok (.invokevirtual 49, 3) := by decide +kernel
theorem dX6_readInto_62 : decode cX6_readInto 62 = .ok (.aload_n 0, 1) := by decide +kernel
theorem dX6_readInto_63 : decode cX6_readInto 63 = .ok (.getfield 14, 3) := by decide +kernel
theorem dX6_readInto_66 : decode cX6_readInto 66 = .ok (.bipush 59, 2) := by decide +kernel
theorem dX6_readInto_68 : decode cX6_readInto 68 = .ok (.invokevirtual 52, 3) := by decide +kernel
theorem dX6_readInto_71 : decode cX6_readInto 71 = .ok (.iload_n 2, 1) := by decide +kernel
theorem dX6_readInto_72 : decode cX6_readInto 72 = .ok (.bipush 80, 2) := by decide +kernel
theorem dX6_readInto_74 : decode cX6_readInto 74 = .ok (.if_icmp .ge 13, 3) := by decide +kernel
theorem dX6_readInto_77 : decode cX6_readInto 77 = .ok (.aload_n 0, 1) := by decide +kernel
theorem dX6_readInto_78 : decode cX6_readInto 78 = .ok (.getfield 14, 3) := by decide +kernel
theorem dX6_readInto_81 : decode cX6_readInto 81 = .ok (.getfield 56, 3) := by decide +kernel
theorem dX6_readInto_84 : decode cX6_readInto 84 = .ok (.ifCond .ne (-63), 3) := by decide +kernel
theorem dX6_readInto_87 : decode cX6_readInto 87 = .ok (.iload_n 2, 1) := by decide +kernel
theorem dX6_readInto_88 : decode cX6_readInto 88 = .ok (.ireturn, 1) := by decide +kernel
theorem dX6_readStatement_0 : decode cX6_readStatement 0 = .ok (.aload_n 0, 1) := by decide +kernel
theorem dX6_readStatement_1 : decode cX6_readStatement 1 = .ok (.getfield 14, 3) := by decide +kernel
theorem dX6_readStatement_4 : decode cX6_readStatement 4 = .ok (.getfield 56, 3) := by decide +kernel
theorem dX6_readStatement_7 : decode cX6_readStatement 7 = .ok (.iconst 2, 1) := by decide +kernel
theorem dX6_readStatement_8 : decode cX6_readStatement 8 = .ok (.if_icmp .ne 13, 3) := by decide +kernel
theorem dX6_readStatement_11 : decode cX6_readStatement 11 = .ok (.aload_n 0, 1) := by decide +kernel
theorem dX6_readStatement_12 : decode cX6_readStatement 12 = .ok (.getfield 14, 3) := by decide +kernel
theorem dX6_readStatement_15 : decode cX6_readStatement 15 = .ok (.getfield 60, 3) := by decide +kernel
theorem dX6_readStatement_18 : decode cX6_readStatement 18 = .ok (.goto 4, 3) := by decide +kernel
theorem dX6_readStatement_21 : decode cX6_readStatement 21 = .ok (.iconst (-1), 1) := by decide +kernel
theorem dX6_readStatement_22 : decode cX6_readStatement 22 = .ok (.istore_n 2, 1) := by decide +kernel
theorem dX6_readStatement_23 : decode cX6_readStatement 23 = .ok (.iload_n 1, 1) := by decide +kernel
theorem dX6_readStatement_24 : decode cX6_readStatement 24 = .ok (.iload_n 2, 1) := by decide +kernel
theorem dX6_readStatement_25 : decode cX6_readStatement 25 = .ok (.ifCond .ne 7, 3) := by decide +kernel
theorem dX6_readStatement_28 : decode cX6_readStatement 28 = .ok (.iconst 1, 1) := by decide +kernel
theorem dX6_readStatement_29 : decode cX6_readStatement 29 = .ok (.goto 4, 3) := by decide +kernel
theorem dX6_readStatement_32 : decode cX6_readStatement 32 = .ok (.iconst 0, 1) := by decide +kernel
theorem dX6_readStatement_33 : decode cX6_readStatement 33 = .ok (.if_icmp .eq 12, 3) := by decide +kernel
theorem dX6_readStatement_36 : decode cX6_readStatement 36 = .ok (.aload_n 0, 1) := by decide +kernel
theorem dX6_readStatement_37 : decode cX6_readStatement 37 = .ok (.getfield 14, 3) := by decide +kernel
theorem dX6_readStatement_40 : decode cX6_readStatement 40 = .ok (.iconst 1, 1) := by decide +kernel
theorem dX6_readStatement_41 : decode cX6_readStatement 41 = .ok (.invokevirtual 63, 3) := by decide +kernel
theorem dX6_readStatement_44 : decode cX6_readStatement 44 = .ok (.return_, 1) := by decide +kernel
theorem dX6_readStatement_45 : decode cX6_readStatement 45 = .ok (.aload_n 0, 1) := by decide +kernel
theorem dX6_readStatement_46 : decode cX6_readStatement 46 = .ok (.iload_n 2, 1) := by decide +kernel
theorem dX6_readStatement_47 : decode cX6_readStatement 47 = .ok (.invokevirtual 67, 3) := by decide +kernel
theorem dX6_readStatement_50 : decode cX6_readStatement 50 = .ok (.iload_n 2, 1) := by decide +kernel
theorem dX6_readStatement_51 : decode cX6_readStatement 51 = .ok (.tableswitch 124 0 11 #[61, 124, 68, 75, 124, 124, 82, 124, 124, 89, 96, 110], 61) := by decide +kernel
theorem dX6_readStatement_112 : decode cX6_readStatement 112 = .ok (.aload_n 0, 1) := by decide +kernel
theorem dX6_readStatement_113 : decode cX6_readStatement 113 = .ok (.invokevirtual 70, 3) := by decide +kernel
theorem dX6_readStatement_116 : decode cX6_readStatement 116 = .ok (.goto 64, 3) := by decide +kernel
theorem dX6_readStatement_119 : decode cX6_readStatement 119 = .ok (.aload_n 0, 1) := by decide +kernel
theorem dX6_readStatement_120 : decode cX6_readStatement 120 = .ok (.invokevirtual 73, 3) := by decide +kernel
theorem dX6_readStatement_123 : decode cX6_readStatement 123 = .ok (.goto 57, 3) := by decide +kernel
theorem dX6_readStatement_126 : decode cX6_readStatement 126 = .ok (.aload_n 0, 1) := by decide +kernel
theorem dX6_readStatement_127 : decode cX6_readStatement 127 = .ok (.invokevirtual 76, 3) := by decide +kernel
theorem dX6_readStatement_130 : decode cX6_readStatement 130 = .ok (.goto 50, 3) := by decide +kernel
theorem dX6_readStatement_133 : decode cX6_readStatement 133 = .ok (.aload_n 0, 1) := by decide +kernel
theorem dX6_readStatement_134 : decode cX6_readStatement 134 = .ok (.invokevirtual 79, 3) := by decide +kernel
theorem dX6_readStatement_137 : decode cX6_readStatement 137 = .ok (.goto 43, 3) := by decide +kernel
theorem dX6_readStatement_140 : decode cX6_readStatement 140 = .ok (.aload_n 0, 1) := by decide +kernel
theorem dX6_readStatement_141 : decode cX6_readStatement 141 = .ok (.invokevirtual 82, 3) := by decide +kernel
theorem dX6_readStatement_144 : decode cX6_readStatement 144 = .ok (.goto 36, 3) := by decide +kernel
theorem dX6_readStatement_147 : decode cX6_readStatement 147 = .ok (.aload_n 0, 1) := by decide +kernel
theorem dX6_readStatement_148 : decode cX6_readStatement 148 = .ok (.getfield 25, 3) := by decide +kernel
theorem dX6_readStatement_151 : decode cX6_readStatement 151 = .ok (.aload_n 0, 1) := by decide +kernel
theorem dX6_readStatement_152 : decode cX6_readStatement 152 = .ok (.getfield 29, 3) := by decide +kernel
theorem dX6_readStatement_155 : decode cX6_readStatement 155 = .ok (.invokevirtual 85, 3) := by decide +kernel
theorem dX6_readStatement_158 : decode cX6_readStatement 158 = .ok (.goto 22, 3) := by decide +kernel
theorem dX6_readStatement_161 : decode cX6_readStatement 161 = .ok (.aload_n 0, 1) := by decide +kernel
theorem dX6_readStatement_162 : decode cX6_readStatement 162 = .ok (.getfield 25, 3) := by decide +kernel
theorem dX6_readStatement_165 : decode cX6_readStatement 165 = .ok (.aload_n 0, 1) := by decide +kernel
theorem dX6_readStatement_166 : decode cX6_readStatement 166 = .ok (.getfield 29, 3) := by decide +kernel
theorem dX6_readStatement_169 : decode cX6_readStatement 169 = .ok (.invokevirtual 89, 3) := by decide +kernel
theorem dX6_readStatement_172 : decode cX6_readStatement 172 = .ok (.goto 8, 3) := by decide +kernel
theorem dX6_readStatement_175 : decode cX6_readStatement 175 = .ok (.aload_n 0, 1) := by decide +kernel
theorem dX6_readStatement_176 : decode cX6_readStatement 176 = .ok (.iload_n 2, 1) := by decide +kernel
theorem dX6_readStatement_177 : decode cX6_readStatement 177 = .ok (.invokevirtual 92, 3) := by decide +kernel
theorem dX6_readStatement_180 : decode cX6_readStatement 180 = .ok (.return_, 1) := by decide +kernel
theorem dX6_refuseOneTooMany_0 : decode cX6_refuseOneTooMany 0 = .ok (.iload_n 1, 1) := by decide +kernel
theorem dX6_refuseOneTooMany_1 : decode cX6_refuseOneTooMany 1 = .ok (.iconst 3, 1) := by decide +kernel
theorem dX6_refuseOneTooMany_2 : decode cX6_refuseOneTooMany 2 = .ok (.if_icmp .ne 19, 3) := by decide +kernel
theorem dX6_refuseOneTooMany_5 : decode cX6_refuseOneTooMany 5 = .ok (.aload_n 0, 1) := by decide +kernel
theorem dX6_refuseOneTooMany_6 : decode cX6_refuseOneTooMany 6 = .ok (.getfield 29, 3) := by decide +kernel
theorem dX6_refuseOneTooMany_9 : decode cX6_refuseOneTooMany 9 = .ok (.getfield 95, 3) := by decide +kernel
theorem dX6_refuseOneTooMany_12 : decode cX6_refuseOneTooMany 12 = .ok (.bipush 6, 2) := by decide +kernel
theorem dX6_refuseOneTooMany_14 : decode cX6_refuseOneTooMany 14 = .ok (.if_icmp .ne 7, 3) := by decide +kernel
theorem dX6_refuseOneTooMany_17 : decode cX6_refuseOneTooMany 17 = .ok (.iconst 1, 1) := by decide +kernel
theorem dX6_refuseOneTooMany_18 : decode cX6_refuseOneTooMany 18 = .ok (.goto 4, 3) := by decide +kernel
theorem dX6_refuseOneTooMany_21 : decode cX6_refuseOneTooMany 21 = .ok (.iconst 0, 1) := by decide +kernel
theorem dX6_refuseOneTooMany_22 : decode cX6_refuseOneTooMany 22 = .ok (.istore_n 2, 1) := by decide +kernel
theorem dX6_refuseOneTooMany_23 : decode cX6_refuseOneTooMany 23 = .ok (.iload_n 1, 1) := by decide +kernel
theorem dX6_refuseOneTooMany_24 : decode cX6_refuseOneTooMany 24 = .ok (.bipush 10, 2) := by decide +kernel
theorem dX6_refuseOneTooMany_26 : decode cX6_refuseOneTooMany 26 = .ok (.if_icmp .ne 17, 3) := by decide +kernel
theorem dX6_refuseOneTooMany_29 : decode cX6_refuseOneTooMany 29 = .ok (.aload_n 0, 1) := by decide +kernel
theorem dX6_refuseOneTooMany_30 : decode cX6_refuseOneTooMany 30 = .ok (.getfield 29, 3) := by decide +kernel
theorem dX6_refuseOneTooMany_33 : decode cX6_refuseOneTooMany 33 = .ok (.invokevirtual 98, 3) := by decide +kernel
theorem dX6_refuseOneTooMany_36 : decode cX6_refuseOneTooMany 36 = .ok (.ifCond .eq 7, 3) := by decide +kernel
theorem dX6_refuseOneTooMany_39 : decode cX6_refuseOneTooMany 39 = .ok (.iconst 1, 1) := by decide +kernel
theorem dX6_refuseOneTooMany_40 : decode cX6_refuseOneTooMany 40 = .ok (.goto 4, 3) := by decide +kernel
theorem dX6_refuseOneTooMany_43 : decode cX6_refuseOneTooMany 43 = .ok (.iconst 0, 1) := by decide +kernel
theorem dX6_refuseOneTooMany_44 : decode cX6_refuseOneTooMany 44 = .ok (.istore_n 3, 1) := by decide +kernel
theorem dX6_refuseOneTooMany_45 : decode cX6_refuseOneTooMany 45 = .ok (.iload_n 1, 1) := by decide +kernel
theorem dX6_refuseOneTooMany_46 : decode cX6_refuseOneTooMany 46 = .ok (.bipush 11, 2) := by decide +kernel
theorem dX6_refuseOneTooMany_48 : decode cX6_refuseOneTooMany 48 = .ok (.if_icmp .ne 17, 3) := by decide +kernel
theorem dX6_refuseOneTooMany_51 : decode cX6_refuseOneTooMany 51 = .ok (.aload_n 0, 1) := by decide +kernel
theorem dX6_refuseOneTooMany_52 : decode cX6_refuseOneTooMany 52 = .ok (.getfield 29, 3) := by decide +kernel
theorem dX6_refuseOneTooMany_55 : decode cX6_refuseOneTooMany 55 = .ok (.invokevirtual 102, 3) := by decide +kernel
theorem dX6_refuseOneTooMany_58 : decode cX6_refuseOneTooMany 58 = .ok (.ifCond .eq 7, 3) := by decide +kernel
theorem dX6_refuseOneTooMany_61 : decode cX6_refuseOneTooMany 61 = .ok (.iconst 1, 1) := by decide +kernel
theorem dX6_refuseOneTooMany_62 : decode cX6_refuseOneTooMany 62 = .ok (.goto 4, 3) := by decide +kernel
theorem dX6_refuseOneTooMany_65 : decode cX6_refuseOneTooMany 65 = .ok (.iconst 0, 1) := by decide +kernel
theorem dX6_refuseOneTooMany_66 : decode cX6_refuseOneTooMany 66 = .ok (.istore 4, 2) := by decide +kernel
theorem dX6_refuseOneTooMany_68 : decode cX6_refuseOneTooMany 68 = .ok (.iload_n 2, 1) := by decide +kernel
theorem dX6_refuseOneTooMany_69 : decode cX6_refuseOneTooMany 69 = .ok (.ifCond .ne 12, 3) := by decide +kernel
theorem dX6_refuseOneTooMany_72 : decode cX6_refuseOneTooMany 72 = .ok (.iload_n 3, 1) := by decide +kernel
theorem dX6_refuseOneTooMany_73 : decode cX6_refuseOneTooMany 73 = .ok (.ifCond .ne 8, 3) := by decide +kernel
theorem dX6_refuseOneTooMany_76 : decode cX6_refuseOneTooMany 76 = .ok (.iload 4, 2) := by decide +kernel
theorem dX6_refuseOneTooMany_78 : decode cX6_refuseOneTooMany 78 = .ok (.ifCond .eq 12, 3) := by decide +kernel
theorem dX6_refuseOneTooMany_81 : decode cX6_refuseOneTooMany 81 = .ok (.aload_n 0, 1) := by decide +kernel
theorem dX6_refuseOneTooMany_82 : decode cX6_refuseOneTooMany 82 = .ok (.getfield 14, 3) := by decide +kernel
theorem dX6_refuseOneTooMany_85 : decode cX6_refuseOneTooMany 85 = .ok (.bipush 6, 2) := by decide +kernel
theorem dX6_refuseOneTooMany_87 : decode cX6_refuseOneTooMany 87 = .ok (.invokevirtual 63, 3) := by decide +kernel
theorem dX6_refuseOneTooMany_90 : decode cX6_refuseOneTooMany 90 = .ok (.return_, 1) := by decide +kernel
theorem dX6_readFloor_0 : decode cX6_readFloor 0 = .ok (.aload_n 0, 1) := by decide +kernel
theorem dX6_readFloor_1 : decode cX6_readFloor 1 = .ok (.getfield 14, 3) := by decide +kernel
theorem dX6_readFloor_4 : decode cX6_readFloor 4 = .ok (.invokevirtual 105, 3) := by decide +kernel
theorem dX6_readFloor_7 : decode cX6_readFloor 7 = .ok (.aload_n 0, 1) := by decide +kernel
theorem dX6_readFloor_8 : decode cX6_readFloor 8 = .ok (.getfield 29, 3) := by decide +kernel
theorem dX6_readFloor_11 : decode cX6_readFloor 11 = .ok (.aload_n 0, 1) := by decide +kernel
theorem dX6_readFloor_12 : decode cX6_readFloor 12 = .ok (.getfield 14, 3) := by decide +kernel
theorem dX6_readFloor_15 : decode cX6_readFloor 15 = .ok (.iconst 2, 1) := by decide +kernel
theorem dX6_readFloor_16 : decode cX6_readFloor 16 = .ok (.bipush 9, 2) := by decide +kernel
theorem dX6_readFloor_18 : decode cX6_readFloor 18 = .ok (.invokevirtual 108, 3) := by decide +kernel
theorem dX6_readFloor_21 : decode cX6_readFloor 21 = .ok (.putfield 112, 3) := by decide +kernel
theorem dX6_readFloor_24 : decode cX6_readFloor 24 = .ok (.aload_n 0, 1) := by decide +kernel
theorem dX6_readFloor_25 : decode cX6_readFloor 25 = .ok (.getfield 14, 3) := by decide +kernel
theorem dX6_readFloor_28 : decode cX6_readFloor 28 = .ok (.iconst 1, 1) := by decide +kernel
theorem dX6_readFloor_29 : decode cX6_readFloor 29 = .ok (.invokevirtual 115, 3) := by decide +kernel
theorem dX6_readFloor_32 : decode cX6_readFloor 32 = .ok (.aload_n 0, 1) := by decide +kernel
theorem dX6_readFloor_33 : decode cX6_readFloor 33 = .ok (.getfield 29, 3) := by decide +kernel
theorem dX6_readFloor_36 : decode cX6_readFloor 36 = .ok (.aload_n 0, 1) := by decide +kernel
theorem dX6_readFloor_37 : decode cX6_readFloor 37 = .ok (.getfield 14, 3) := by decide +kernel
theorem dX6_readFloor_40 : decode cX6_readFloor 40 = .ok (.iconst 2, 1) := by decide +kernel
theorem dX6_readFloor_41 : decode cX6_readFloor 41 = .ok (.bipush 9, 2) := by decide +kernel
theorem dX6_readFloor_43 : decode cX6_readFloor 43 = .ok (.invokevirtual 108, 3) := by decide +kernel
theorem dX6_readFloor_46 : decode cX6_readFloor 46 = .ok (.putfield 118, 3) := by decide +kernel
theorem dX6_readFloor_49 : decode cX6_readFloor 49 = .ok (.return_, 1) := by decide +kernel
theorem dX6_readGrey_0 : decode cX6_readGrey 0 = .ok (.aload_n 0, 1) := by decide +kernel
theorem dX6_readGrey_1 : decode cX6_readGrey 1 = .ok (.getfield 14, 3) := by decide +kernel
theorem dX6_readGrey_4 : decode cX6_readGrey 4 = .ok (.invokevirtual 105, 3) := by decide +kernel
theorem dX6_readGrey_7 : decode cX6_readGrey 7 = .ok (.aload_n 0, 1) := by decide +kernel
theorem dX6_readGrey_8 : decode cX6_readGrey 8 = .ok (.getfield 14, 3) := by decide +kernel
theorem dX6_readGrey_11 : decode cX6_readGrey 11 = .ok (.iconst 0, 1) := by decide +kernel
theorem dX6_readGrey_12 : decode cX6_readGrey 12 = .ok (.aload_n 0, 1) := by decide +kernel
theorem dX6_readGrey_13 : decode cX6_readGrey 13 = .ok (.getfield 29, 3) := by decide +kernel
theorem dX6_readGrey_16 : decode cX6_readGrey 16 = .ok (.getfield 112, 3) := by decide +kernel
theorem dX6_readGrey_19 : decode cX6_readGrey 19 = .ok (.iconst 1, 1) := by decide +kernel
theorem dX6_readGrey_20 : decode cX6_readGrey 20 = .ok (.isub, 1) := by decide +kernel
theorem dX6_readGrey_21 : decode cX6_readGrey 21 = .ok (.invokevirtual 108, 3) := by decide +kernel
theorem dX6_readGrey_24 : decode cX6_readGrey 24 = .ok (.istore_n 1, 1) := by decide +kernel
theorem dX6_readGrey_25 : decode cX6_readGrey 25 = .ok (.aload_n 0, 1) := by decide +kernel
theorem dX6_readGrey_26 : decode cX6_readGrey 26 = .ok (.getfield 14, 3) := by decide +kernel
theorem dX6_readGrey_29 : decode cX6_readGrey 29 = .ok (.iconst 0, 1) := by decide +kernel
theorem dX6_readGrey_30 : decode cX6_readGrey 30 = .ok (.aload_n 0, 1) := by decide +kernel
theorem dX6_readGrey_31 : decode cX6_readGrey 31 = .ok (.getfield 29, 3) := by decide +kernel
theorem dX6_readGrey_34 : decode cX6_readGrey 34 = .ok (.getfield 118, 3) := by decide +kernel
theorem dX6_readGrey_37 : decode cX6_readGrey 37 = .ok (.iconst 1, 1) := by decide +kernel
theorem dX6_readGrey_38 : decode cX6_readGrey 38 = .ok (.isub, 1) := by decide +kernel
theorem dX6_readGrey_39 : decode cX6_readGrey 39 = .ok (.invokevirtual 108, 3) := by decide +kernel
theorem dX6_readGrey_42 : decode cX6_readGrey 42 = .ok (.istore_n 2, 1) := by decide +kernel
theorem dX6_readGrey_43 : decode cX6_readGrey 43 = .ok (.aload_n 0, 1) := by decide +kernel
theorem dX6_readGrey_44 : decode cX6_readGrey 44 = .ok (.getfield 29, 3) := by decide +kernel
theorem dX6_readGrey_47 : decode cX6_readGrey 47 = .ok (.iload_n 1, 1) := by decide +kernel
theorem dX6_readGrey_48 : decode cX6_readGrey 48 = .ok (.iload_n 2, 1) := by decide +kernel
theorem dX6_readGrey_49 : decode cX6_readGrey 49 = .ok (.aload_n 0, 1) := by decide +kernel
theorem dX6_readGrey_50 : decode cX6_readGrey 50 = .ok (.getfield 14, 3) := by decide +kernel
theorem dX6_readGrey_53 : decode cX6_readGrey 53 = .ok (.iconst 0, 1) := by decide +kernel
theorem dX6_readGrey_54 : decode cX6_readGrey 54 = .ok (.bipush 9, 2) := by decide +kernel
theorem dX6_readGrey_56 : decode cX6_readGrey 56 = .ok (.invokevirtual 108, 3) := by decide +kernel
theorem dX6_readGrey_59 : decode cX6_readGrey 59 = .ok (.invokevirtual 121, 3) := by decide +kernel
theorem dX6_readGrey_62 : decode cX6_readGrey 62 = .ok (.return_, 1) := by decide +kernel
theorem dX6_readBox_0 : decode cX6_readBox 0 = .ok (.aload_n 0, 1) := by decide +kernel
theorem dX6_readBox_1 : decode cX6_readBox 1 = .ok (.getfield 14, 3) := by decide +kernel
theorem dX6_readBox_4 : decode cX6_readBox 4 = .ok (.invokevirtual 105, 3) := by decide +kernel
theorem dX6_readBox_7 : decode cX6_readBox 7 = .ok (.aload_n 0, 1) := by decide +kernel
theorem dX6_readBox_8 : decode cX6_readBox 8 = .ok (.invokevirtual 125, 3) := by decide +kernel
theorem dX6_readBox_11 : decode cX6_readBox 11 = .ok (.istore_n 1, 1) := by decide +kernel
theorem dX6_readBox_12 : decode cX6_readBox 12 = .ok (.aload_n 0, 1) := by decide +kernel
theorem dX6_readBox_13 : decode cX6_readBox 13 = .ok (.getfield 14, 3) := by decide +kernel
theorem dX6_readBox_16 : decode cX6_readBox 16 = .ok (.iconst 4, 1) := by decide +kernel
theorem dX6_readBox_17 : decode cX6_readBox 17 = .ok (.invokevirtual 115, 3) := by decide +kernel
theorem dX6_readBox_20 : decode cX6_readBox 20 = .ok (.aload_n 0, 1) := by decide +kernel
theorem dX6_readBox_21 : decode cX6_readBox 21 = .ok (.getfield 14, 3) := by decide +kernel
theorem dX6_readBox_24 : decode cX6_readBox 24 = .ok (.iconst 0, 1) := by decide +kernel
theorem dX6_readBox_25 : decode cX6_readBox 25 = .ok (.aload_n 0, 1) := by decide +kernel
theorem dX6_readBox_26 : decode cX6_readBox 26 = .ok (.getfield 29, 3) := by decide +kernel
theorem dX6_readBox_29 : decode cX6_readBox 29 = .ok (.getfield 112, 3) := by decide +kernel
theorem dX6_readBox_32 : decode cX6_readBox 32 = .ok (.iconst 1, 1) := by decide +kernel
theorem dX6_readBox_33 : decode cX6_readBox 33 = .ok (.isub, 1) := by decide +kernel
theorem dX6_readBox_34 : decode cX6_readBox 34 = .ok (.invokevirtual 108, 3) := by decide +kernel
theorem dX6_readBox_37 : decode cX6_readBox 37 = .ok (.istore_n 2, 1) := by decide +kernel
theorem dX6_readBox_38 : decode cX6_readBox 38 = .ok (.aload_n 0, 1) := by decide +kernel
theorem dX6_readBox_39 : decode cX6_readBox 39 = .ok (.getfield 14, 3) := by decide +kernel
theorem dX6_readBox_42 : decode cX6_readBox 42 = .ok (.getfield 56, 3) := by decide +kernel
theorem dX6_readBox_45 : decode cX6_readBox 45 = .ok (.iconst 3, 1) := by decide +kernel
theorem dX6_readBox_46 : decode cX6_readBox 46 = .ok (.if_icmp .ne 30, 3) := by decide +kernel
theorem dX6_readBox_49 : decode cX6_readBox 49 = .ok (.aload_n 0, 1) := by decide +kernel
theorem dX6_readBox_50 : decode cX6_readBox 50 = .ok (.getfield 29, 3) := by decide +kernel
theorem dX6_readBox_53 : decode cX6_readBox 53 = .ok (.iload_n 2, 1) := by decide +kernel
theorem dX6_readBox_54 : decode cX6_readBox 54 = .ok (.aload_n 0, 1) := by decide +kernel
theorem dX6_readBox_55 : decode cX6_readBox 55 = .ok (.getfield 14, 3) := by decide +kernel
theorem dX6_readBox_58 : decode cX6_readBox 58 = .ok (.getfield 60, 3) := by decide +kernel
theorem dX6_readBox_61 : decode cX6_readBox 61 = .ok (.invokevirtual 129, 3) := by decide +kernel
theorem dX6_readBox_64 : decode cX6_readBox 64 = .ok (.iconst (-1), 1) := by decide +kernel
theorem dX6_readBox_65 : decode cX6_readBox 65 = .ok (.if_icmp .eq 11, 3) := by decide +kernel
theorem dX6_readBox_68 : decode cX6_readBox 68 = .ok (.aload_n 0, 1) := by decide +kernel
theorem dX6_readBox_69 : decode cX6_readBox 69 = .ok (.getfield 14, 3) := by decide +kernel
theorem dX6_readBox_72 : decode cX6_readBox 72 = .ok (.iconst 4, 1) := by decide +kernel
theorem dX6_readBox_73 : decode cX6_readBox 73 = .ok (.invokevirtual 63, 3) := by decide +kernel
theorem dX6_readBox_76 : decode cX6_readBox 76 = .ok (.aload_n 0, 1) := by decide +kernel
theorem dX6_readBox_77 : decode cX6_readBox 77 = .ok (.getfield 14, 3) := by decide +kernel
theorem dX6_readBox_80 : decode cX6_readBox 80 = .ok (.iconst 0, 1) := by decide +kernel
theorem dX6_readBox_81 : decode cX6_readBox 81 = .ok (.aload_n 0, 1) := by decide +kernel
theorem dX6_readBox_82 : decode cX6_readBox 82 = .ok (.getfield 29, 3) := by decide +kernel
theorem dX6_readBox_85 : decode cX6_readBox 85 = .ok (.getfield 118, 3) := by decide +kernel
theorem dX6_readBox_88 : decode cX6_readBox 88 = .ok (.iconst 1, 1) := by decide +kernel
theorem dX6_readBox_89 : decode cX6_readBox 89 = .ok (.isub, 1) := by decide +kernel
theorem dX6_readBox_90 : decode cX6_readBox 90 = .ok (.invokevirtual 108, 3) := by decide +kernel
theorem dX6_readBox_93 : decode cX6_readBox 93 = .ok (.istore_n 3, 1) := by decide +kernel
theorem dX6_readBox_94 : decode cX6_readBox 94 = .ok (.aload_n 0, 1) := by decide +kernel
theorem dX6_readBox_95 : decode cX6_readBox 95 = .ok (.getfield 14, 3) := by decide +kernel
theorem dX6_readBox_98 : decode cX6_readBox 98 = .ok (.iconst 5, 1) := by decide +kernel
theorem dX6_readBox_99 : decode cX6_readBox 99 = .ok (.invokevirtual 115, 3) := by decide +kernel
theorem dX6_readBox_102 : decode cX6_readBox 102 = .ok (.aload_n 0, 1) := by decide +kernel
theorem dX6_readBox_103 : decode cX6_readBox 103 = .ok (.getfield 29, 3) := by decide +kernel
theorem dX6_readBox_106 : decode cX6_readBox 106 = .ok (.iload_n 1, 1) := by decide +kernel
theorem dX6_readBox_107 : decode cX6_readBox 107 = .ok (.iload_n 2, 1) := by decide +kernel
theorem dX6_readBox_108 : decode cX6_readBox 108 = .ok (.iload_n 3, 1) := by decide +kernel
theorem dX6_readBox_109 : decode cX6_readBox 109 = .ok (.aload_n 0, 1) := by decide +kernel
theorem dX6_readBox_110 : decode cX6_readBox 110 = .ok (.getfield 14, 3) := by decide +kernel
theorem dX6_readBox_113 : decode cX6_readBox 113 = .ok (.iconst 0, 1) := by decide +kernel
theorem dX6_readBox_114 : decode cX6_readBox 114 = .ok (.iconst 3, 1) := by decide +kernel
theorem dX6_readBox_115 : decode cX6_readBox 115 = .ok (.invokevirtual 108, 3) := by decide +kernel
theorem dX6_readBox_118 : decode cX6_readBox 118 = .ok (.invokevirtual 132, 3) := by decide +kernel
theorem dX6_readBox_121 : decode cX6_readBox 121 = .ok (.return_, 1) := by decide +kernel
theorem dX6_readEyes_0 : decode cX6_readEyes 0 = .ok (.aload_n 0, 1) := by decide +kernel
theorem dX6_readEyes_1 : decode cX6_readEyes 1 = .ok (.getfield 14, 3) := by decide +kernel
theorem dX6_readEyes_4 : decode cX6_readEyes 4 = .ok (.invokevirtual 105, 3) := by decide +kernel
theorem dX6_readEyes_7 : decode cX6_readEyes 7 = .ok (.aload_n 0, 1) := by decide +kernel
theorem dX6_readEyes_8 : decode cX6_readEyes 8 = .ok (.invokevirtual 136, 3) := by decide +kernel
theorem dX6_readEyes_11 : decode cX6_readEyes 11 = .ok (.istore_n 1, 1) := by decide +kernel
theorem dX6_readEyes_12 : decode cX6_readEyes 12 = .ok (.aload_n 0, 1) := by decide +kernel
theorem dX6_readEyes_13 : decode cX6_readEyes 13 = .ok (.getfield 14, 3) := by decide +kernel
theorem dX6_readEyes_16 : decode cX6_readEyes 16 = .ok (.bipush 7, 2) := by decide +kernel
theorem dX6_readEyes_18 : decode cX6_readEyes 18 = .ok (.invokevirtual 115, 3) := by decide +kernel
theorem dX6_readEyes_21 : decode cX6_readEyes 21 = .ok (.aload_n 0, 1) := by decide +kernel
theorem dX6_readEyes_22 : decode cX6_readEyes 22 = .ok (.getfield 29, 3) := by decide +kernel
theorem dX6_readEyes_25 : decode cX6_readEyes 25 = .ok (.iload_n 1, 1) := by decide +kernel
theorem dX6_readEyes_26 : decode cX6_readEyes 26 = .ok (.iconst 5, 1) := by decide +kernel
theorem dX6_readEyes_27 : decode cX6_readEyes 27 = .ok (.aload_n 0, 1) := by decide +kernel
theorem dX6_readEyes_28 : decode cX6_readEyes 28 = .ok (.getfield 14, 3) := by decide +kernel
theorem dX6_readEyes_31 : decode cX6_readEyes 31 = .ok (.iconst 0, 1) := by decide +kernel
theorem dX6_readEyes_32 : decode cX6_readEyes 32 = .ok (.iconst 2, 1) := by decide +kernel
theorem dX6_readEyes_33 : decode cX6_readEyes 33 = .ok (.invokevirtual 108, 3) := by decide +kernel
theorem dX6_readEyes_36 : decode cX6_readEyes 36 = .ok (.invokevirtual 141, 3) := by decide +kernel
theorem dX6_readEyes_39 : decode cX6_readEyes 39 = .ok (.aload_n 0, 1) := by decide +kernel
theorem dX6_readEyes_40 : decode cX6_readEyes 40 = .ok (.getfield 14, 3) := by decide +kernel
theorem dX6_readEyes_43 : decode cX6_readEyes 43 = .ok (.bipush 8, 2) := by decide +kernel
theorem dX6_readEyes_45 : decode cX6_readEyes 45 = .ok (.invokevirtual 115, 3) := by decide +kernel
theorem dX6_readEyes_48 : decode cX6_readEyes 48 = .ok (.aload_n 0, 1) := by decide +kernel
theorem dX6_readEyes_49 : decode cX6_readEyes 49 = .ok (.getfield 29, 3) := by decide +kernel
theorem dX6_readEyes_52 : decode cX6_readEyes 52 = .ok (.iload_n 1, 1) := by decide +kernel
theorem dX6_readEyes_53 : decode cX6_readEyes 53 = .ok (.bipush 6, 2) := by decide +kernel
theorem dX6_readEyes_55 : decode cX6_readEyes 55 = .ok (.aload_n 0, 1) := by decide +kernel
theorem dX6_readEyes_56 : decode cX6_readEyes 56 = .ok (.getfield 14, 3) := by decide +kernel
theorem dX6_readEyes_59 : decode cX6_readEyes 59 = .ok (.iconst 0, 1) := by decide +kernel
theorem dX6_readEyes_60 : decode cX6_readEyes 60 = .ok (.iconst 3, 1) := by decide +kernel
theorem dX6_readEyes_61 : decode cX6_readEyes 61 = .ok (.invokevirtual 108, 3) := by decide +kernel
theorem dX6_readEyes_64 : decode cX6_readEyes 64 = .ok (.invokevirtual 141, 3) := by decide +kernel
theorem dX6_readEyes_67 : decode cX6_readEyes 67 = .ok (.return_, 1) := by decide +kernel
theorem dX6_readBias_0 : decode cX6_readBias 0 = .ok (.aload_n 0, 1) := by decide +kernel
theorem dX6_readBias_1 : decode cX6_readBias 1 = .ok (.getfield 14, 3) := by decide +kernel
theorem dX6_readBias_4 : decode cX6_readBias 4 = .ok (.invokevirtual 105, 3) := by decide +kernel
theorem dX6_readBias_7 : decode cX6_readBias 7 = .ok (.aload_n 0, 1) := by decide +kernel
theorem dX6_readBias_8 : decode cX6_readBias 8 = .ok (.invokevirtual 136, 3) := by decide +kernel
theorem dX6_readBias_11 : decode cX6_readBias 11 = .ok (.istore_n 1, 1) := by decide +kernel
theorem dX6_readBias_12 : decode cX6_readBias 12 = .ok (.aload_n 0, 1) := by decide +kernel
theorem dX6_readBias_13 : decode cX6_readBias 13 = .ok (.getfield 29, 3) := by decide +kernel
theorem dX6_readBias_16 : decode cX6_readBias 16 = .ok (.iload_n 1, 1) := by decide +kernel
theorem dX6_readBias_17 : decode cX6_readBias 17 = .ok (.bipush 7, 2) := by decide +kernel
theorem dX6_readBias_19 : decode cX6_readBias 19 = .ok (.aload_n 0, 1) := by decide +kernel
theorem dX6_readBias_20 : decode cX6_readBias 20 = .ok (.getfield 14, 3) := by decide +kernel
theorem dX6_readBias_23 : decode cX6_readBias 23 = .ok (.iconst 0, 1) := by decide +kernel
theorem dX6_readBias_24 : decode cX6_readBias 24 = .ok (.bipush 9, 2) := by decide +kernel
theorem dX6_readBias_26 : decode cX6_readBias 26 = .ok (.invokevirtual 108, 3) := by decide +kernel
theorem dX6_readBias_29 : decode cX6_readBias 29 = .ok (.invokevirtual 141, 3) := by decide +kernel
theorem dX6_readBias_32 : decode cX6_readBias 32 = .ok (.return_, 1) := by decide +kernel
theorem dX6_readSetting_0 : decode cX6_readSetting 0 = .ok (.iload_n 1, 1) := by decide +kernel
theorem dX6_readSetting_1 : decode cX6_readSetting 1 = .ok (.bipush 12, 2) := by decide +kernel
theorem dX6_readSetting_3 : decode cX6_readSetting 3 = .ok (.if_icmp .ne 31, 3) := by decide +kernel
theorem dX6_readSetting_6 : decode cX6_readSetting 6 = .ok (.aload_n 0, 1) := by decide +kernel
theorem dX6_readSetting_7 : decode cX6_readSetting 7 = .ok (.getfield 14, 3) := by decide +kernel
theorem dX6_readSetting_10 : decode cX6_readSetting 10 = .ok (.invokevirtual 105, 3) := by decide +kernel
theorem dX6_readSetting_13 : decode cX6_readSetting 13 = .ok (.aload_n 0, 1) := by decide +kernel
theorem dX6_readSetting_14 : decode cX6_readSetting 14 = .ok (.getfield 29, 3) := by decide +kernel
theorem dX6_readSetting_17 : decode cX6_readSetting 17 = .ok (.aload_n 0, 1) := by decide +kernel
theorem dX6_readSetting_18 : decode cX6_readSetting 18 = .ok (.getfield 14, 3) := by decide +kernel
theorem dX6_readSetting_21 : decode cX6_readSetting 21 = .ok (.iconst 0, 1) := by decide +kernel
theorem dX6_readSetting_22 : decode cX6_readSetting 22 = .ok (.sipush 999, 3) := by decide +kernel
theorem dX6_readSetting_25 : decode cX6_readSetting 25 = .ok (.invokevirtual 108, 3) := by decide +kernel
theorem dX6_readSetting_28 : decode cX6_readSetting 28 = .ok (.putfield 144, 3) := by decide +kernel
theorem dX6_readSetting_31 : decode cX6_readSetting 31 = .ok (.goto 77, 3) := by decide +kernel
theorem dX6_readSetting_34 : decode cX6_readSetting 34 = .ok (.iload_n 1, 1) := by decide +kernel
theorem dX6_readSetting_35 : decode cX6_readSetting 35 = .ok (.bipush 13, 2) := by decide +kernel
theorem dX6_readSetting_37 : decode cX6_readSetting 37 = .ok (.if_icmp .ne 30, 3) := by decide +kernel
theorem dX6_readSetting_40 : decode cX6_readSetting 40 = .ok (.aload_n 0, 1) := by decide +kernel
theorem dX6_readSetting_41 : decode cX6_readSetting 41 = .ok (.getfield 14, 3) := by decide +kernel
theorem dX6_readSetting_44 : decode cX6_readSetting 44 = .ok (.invokevirtual 105, 3) := by decide +kernel
theorem dX6_readSetting_47 : decode cX6_readSetting 47 = .ok (.aload_n 0, 1) := by decide +kernel
theorem dX6_readSetting_48 : decode cX6_readSetting 48 = .ok (.getfield 29, 3) := by decide +kernel
theorem dX6_readSetting_51 : decode cX6_readSetting 51 = .ok (.aload_n 0, 1) := by decide +kernel
theorem dX6_readSetting_52 : decode cX6_readSetting 52 = .ok (.getfield 14, 3) := by decide +kernel
theorem dX6_readSetting_55 : decode cX6_readSetting 55 = .ok (.iconst 0, 1) := by decide +kernel
theorem dX6_readSetting_56 : decode cX6_readSetting 56 = .ok (.bipush 9, 2) := by decide +kernel
theorem dX6_readSetting_58 : decode cX6_readSetting 58 = .ok (.invokevirtual 108, 3) := by decide +kernel
theorem dX6_readSetting_61 : decode cX6_readSetting 61 = .ok (.putfield 147, 3) := by decide +kernel
theorem dX6_readSetting_64 : decode cX6_readSetting 64 = .ok (.goto 44, 3) := by decide +kernel
theorem dX6_readSetting_67 : decode cX6_readSetting 67 = .ok (.iload_n 1, 1) := by decide +kernel
theorem dX6_readSetting_68 : decode cX6_readSetting 68 = .ok (.bipush 14, 2) := by decide +kernel
theorem dX6_readSetting_70 : decode cX6_readSetting 70 = .ok (.if_icmp .ne 30, 3) := by decide +kernel
theorem dX6_readSetting_73 : decode cX6_readSetting 73 = .ok (.aload_n 0, 1) := by decide +kernel
theorem dX6_readSetting_74 : decode cX6_readSetting 74 = .ok (.getfield 14, 3) := by decide +kernel
theorem dX6_readSetting_77 : decode cX6_readSetting 77 = .ok (.invokevirtual 105, 3) := by decide +kernel
theorem dX6_readSetting_80 : decode cX6_readSetting 80 = .ok (.aload_n 0, 1) := by decide +kernel
theorem dX6_readSetting_81 : decode cX6_readSetting 81 = .ok (.getfield 29, 3) := by decide +kernel
theorem dX6_readSetting_84 : decode cX6_readSetting 84 = .ok (.aload_n 0, 1) := by decide +kernel
theorem dX6_readSetting_85 : decode cX6_readSetting 85 = .ok (.getfield 14, 3) := by decide +kernel
theorem dX6_readSetting_88 : decode cX6_readSetting 88 = .ok (.iconst 0, 1) := by decide +kernel
theorem dX6_readSetting_89 : decode cX6_readSetting 89 = .ok (.bipush 100, 2) := by decide +kernel
theorem dX6_readSetting_91 : decode cX6_readSetting 91 = .ok (.invokevirtual 108, 3) := by decide +kernel
theorem dX6_readSetting_94 : decode cX6_readSetting 94 = .ok (.putfield 150, 3) := by decide +kernel
theorem dX6_readSetting_97 : decode cX6_readSetting 97 = .ok (.goto 11, 3) := by decide +kernel
theorem dX6_readSetting_100 : decode cX6_readSetting 100 = .ok (.aload_n 0, 1) := by decide +kernel
theorem dX6_readSetting_101 : decode cX6_readSetting 101 = .ok (.getfield 14, 3) := by decide +kernel
theorem dX6_readSetting_104 : decode cX6_readSetting 104 = .ok (.iconst 1, 1) := by decide +kernel
theorem dX6_readSetting_105 : decode cX6_readSetting 105 = .ok (.invokevirtual 63, 3) := by decide +kernel
theorem dX6_readSetting_108 : decode cX6_readSetting 108 = .ok (.return_, 1) := by decide +kernel
theorem dX6_takeNewName_0 : decode cX6_takeNewName 0 = .ok (.aload_n 0, 1) := by decide +kernel
theorem dX6_takeNewName_1 : decode cX6_takeNewName 1 = .ok (.getfield 14, 3) := by decide +kernel
theorem dX6_takeNewName_4 : decode cX6_takeNewName 4 = .ok (.getfield 56, 3) := by decide +kernel
theorem dX6_takeNewName_7 : decode cX6_takeNewName 7 = .ok (.iconst 1, 1) := by decide +kernel
theorem dX6_takeNewName_8 : decode cX6_takeNewName 8 = .ok (.if_icmp .eq 14, 3) := by decide +kernel
theorem dX6_takeNewName_11 : decode cX6_takeNewName 11 = .ok (.aload_n 0, 1) := by decide +kernel
theorem dX6_takeNewName_12 : decode cX6_takeNewName 12 = .ok (.getfield 14, 3) := by decide +kernel
theorem dX6_takeNewName_15 : decode cX6_takeNewName 15 = .ok (.iconst 1, 1) := by decide +kernel
theorem dX6_takeNewName_16 : decode cX6_takeNewName 16 = .ok (.invokevirtual 63, 3) := by decide +kernel
theorem dX6_takeNewName_19 : decode cX6_takeNewName 19 = .ok (.goto 29, 3) := by decide +kernel
theorem dX6_takeNewName_22 : decode cX6_takeNewName 22 = .ok (.aload_n 0, 1) := by decide +kernel
theorem dX6_takeNewName_23 : decode cX6_takeNewName 23 = .ok (.getfield 29, 3) := by decide +kernel
theorem dX6_takeNewName_26 : decode cX6_takeNewName 26 = .ok (.aload_n 0, 1) := by decide +kernel
theorem dX6_takeNewName_27 : decode cX6_takeNewName 27 = .ok (.getfield 14, 3) := by decide +kernel
theorem dX6_takeNewName_30 : decode cX6_takeNewName 30 = .ok (.getfield 60, 3) := by decide +kernel
theorem dX6_takeNewName_33 : decode cX6_takeNewName 33 = .ok (.invokevirtual 153, 3) := by decide +kernel
theorem dX6_takeNewName_36 : decode cX6_takeNewName 36 = .ok (.iconst (-1), 1) := by decide +kernel
theorem dX6_takeNewName_37 : decode cX6_takeNewName 37 = .ok (.if_icmp .eq 11, 3) := by decide +kernel
theorem dX6_takeNewName_40 : decode cX6_takeNewName 40 = .ok (.aload_n 0, 1) := by decide +kernel
theorem dX6_takeNewName_41 : decode cX6_takeNewName 41 = .ok (.getfield 14, 3) := by decide +kernel
theorem dX6_takeNewName_44 : decode cX6_takeNewName 44 = .ok (.iconst 2, 1) := by decide +kernel
theorem dX6_takeNewName_45 : decode cX6_takeNewName 45 = .ok (.invokevirtual 63, 3) := by decide +kernel
theorem dX6_takeNewName_48 : decode cX6_takeNewName 48 = .ok (.aload_n 0, 1) := by decide +kernel
theorem dX6_takeNewName_49 : decode cX6_takeNewName 49 = .ok (.getfield 14, 3) := by decide +kernel
theorem dX6_takeNewName_52 : decode cX6_takeNewName 52 = .ok (.getfield 60, 3) := by decide +kernel
theorem dX6_takeNewName_55 : decode cX6_takeNewName 55 = .ok (.istore_n 1, 1) := by decide +kernel
theorem dX6_takeNewName_56 : decode cX6_takeNewName 56 = .ok (.aload_n 0, 1) := by decide +kernel
theorem dX6_takeNewName_57 : decode cX6_takeNewName 57 = .ok (.getfield 14, 3) := by decide +kernel
theorem dX6_takeNewName_60 : decode cX6_takeNewName 60 = .ok (.invokevirtual 105, 3) := by decide +kernel
theorem dX6_takeNewName_63 : decode cX6_takeNewName 63 = .ok (.iload_n 1, 1) := by decide +kernel
theorem dX6_takeNewName_64 : decode cX6_takeNewName 64 = .ok (.ireturn, 1) := by decide +kernel
theorem dX6_takeBoxName_0 : decode cX6_takeBoxName 0 = .ok (.aload_n 0, 1) := by decide +kernel
theorem dX6_takeBoxName_1 : decode cX6_takeBoxName 1 = .ok (.getfield 29, 3) := by decide +kernel
theorem dX6_takeBoxName_4 : decode cX6_takeBoxName 4 = .ok (.aload_n 0, 1) := by decide +kernel
theorem dX6_takeBoxName_5 : decode cX6_takeBoxName 5 = .ok (.getfield 14, 3) := by decide +kernel
theorem dX6_takeBoxName_8 : decode cX6_takeBoxName 8 = .ok (.getfield 60, 3) := by decide +kernel
theorem dX6_takeBoxName_11 : decode cX6_takeBoxName 11 = .ok (.invokevirtual 153, 3) := by decide +kernel
theorem dX6_takeBoxName_14 : decode cX6_takeBoxName 14 = .ok (.istore_n 1, 1) := by decide +kernel
theorem dX6_takeBoxName_15 : decode cX6_takeBoxName 15 = .ok (.aload_n 0, 1) := by decide +kernel
theorem dX6_takeBoxName_16 : decode cX6_takeBoxName 16 = .ok (.getfield 14, 3) := by decide +kernel
theorem dX6_takeBoxName_19 : decode cX6_takeBoxName 19 = .ok (.getfield 56, 3) := by decide +kernel
theorem dX6_takeBoxName_22 : decode cX6_takeBoxName 22 = .ok (.iconst 1, 1) := by decide +kernel
theorem dX6_takeBoxName_23 : decode cX6_takeBoxName 23 = .ok (.if_icmp .eq 14, 3) := by decide +kernel
theorem dX6_takeBoxName_26 : decode cX6_takeBoxName 26 = .ok (.aload_n 0, 1) := by decide +kernel
theorem dX6_takeBoxName_27 : decode cX6_takeBoxName 27 = .ok (.getfield 14, 3) := by decide +kernel
theorem dX6_takeBoxName_30 : decode cX6_takeBoxName 30 = .ok (.iconst 1, 1) := by decide +kernel
theorem dX6_takeBoxName_31 : decode cX6_takeBoxName 31 = .ok (.invokevirtual 63, 3) := by decide +kernel
theorem dX6_takeBoxName_34 : decode cX6_takeBoxName 34 = .ok (.goto 16, 3) := by decide +kernel
theorem dX6_takeBoxName_37 : decode cX6_takeBoxName 37 = .ok (.iload_n 1, 1) := by decide +kernel
theorem dX6_takeBoxName_38 : decode cX6_takeBoxName 38 = .ok (.iconst (-1), 1) := by decide +kernel
theorem dX6_takeBoxName_39 : decode cX6_takeBoxName 39 = .ok (.if_icmp .ne 11, 3) := by decide +kernel
theorem dX6_takeBoxName_42 : decode cX6_takeBoxName 42 = .ok (.aload_n 0, 1) := by decide +kernel
theorem dX6_takeBoxName_43 : decode cX6_takeBoxName 43 = .ok (.getfield 14, 3) := by decide +kernel
theorem dX6_takeBoxName_46 : decode cX6_takeBoxName 46 = .ok (.iconst 3, 1) := by decide +kernel
theorem dX6_takeBoxName_47 : decode cX6_takeBoxName 47 = .ok (.invokevirtual 63, 3) := by decide +kernel
theorem dX6_takeBoxName_50 : decode cX6_takeBoxName 50 = .ok (.aload_n 0, 1) := by decide +kernel
theorem dX6_takeBoxName_51 : decode cX6_takeBoxName 51 = .ok (.getfield 14, 3) := by decide +kernel
theorem dX6_takeBoxName_54 : decode cX6_takeBoxName 54 = .ok (.invokevirtual 105, 3) := by decide +kernel
theorem dX6_takeBoxName_57 : decode cX6_takeBoxName 57 = .ok (.iload_n 1, 1) := by decide +kernel
theorem dX6_takeBoxName_58 : decode cX6_takeBoxName 58 = .ok (.ireturn, 1) := by decide +kernel
theorem dX7_init_0 : decode cX7_init 0 = .ok (.aload_n 0, 1) := by decide +kernel
theorem dX7_init_1 : decode cX7_init 1 = .ok (.invokespecial 3, 3) := by decide +kernel
theorem dX7_init_4 : decode cX7_init 4 = .ok (.aload_n 0, 1) := by decide +kernel
theorem dX7_init_5 : decode cX7_init 5 = .ok (.sipush 1600, 3) := by decide +kernel
theorem dX7_init_8 : decode cX7_init 8 = .ok (.newarray .int, 2) := by decide +kernel
theorem dX7_init_10 : decode cX7_init 10 = .ok (.putfield 11, 3) := by decide +kernel
theorem dX7_init_13 : decode cX7_init 13 = .ok (.aload_n 0, 1) := by decide +kernel
theorem dX7_init_14 : decode cX7_init 14 = .ok (.iconst 0, 1) := by decide +kernel
theorem dX7_init_15 : decode cX7_init 15 = .ok (.putfield 15, 3) := by decide +kernel
theorem dX7_init_18 : decode cX7_init 18 = .ok (.return_, 1) := by decide +kernel
theorem dX7_hasSpaceFor_0 : decode cX7_hasSpaceFor 0 = .ok (.aload_n 0, 1) := by decide +kernel
theorem dX7_hasSpaceFor_1 : decode cX7_hasSpaceFor 1 = .ok (.getfield 15, 3) := by decide +kernel
theorem dX7_hasSpaceFor_4 : decode cX7_hasSpaceFor 4 = .ok (.iload_n 1, 1) := by decide +kernel
theorem dX7_hasSpaceFor_5 : decode cX7_hasSpaceFor 5 = .ok (.iadd, 1) := by decide +kernel
theorem dX7_hasSpaceFor_6 : decode cX7_hasSpaceFor 6 = .ok (.sipush 1600, 3) := by decide +kernel
theorem dX7_hasSpaceFor_9 : decode cX7_hasSpaceFor 9 = .ok (.if_icmp .gt 7, 3) := by decide +kernel
theorem dX7_hasSpaceFor_12 : decode cX7_hasSpaceFor 12 = .ok (.iconst 1, 1) := by decide +kernel
theorem dX7_hasSpaceFor_13 : decode cX7_hasSpaceFor 13 = .ok (.goto 4, 3) := by decide +kernel
theorem dX7_hasSpaceFor_16 : decode cX7_hasSpaceFor 16 = .ok (.iconst 0, 1) := by decide +kernel
theorem dX7_hasSpaceFor_17 : decode cX7_hasSpaceFor 17 = .ok (.ireturn, 1) := by decide +kernel
theorem dX7_add_0 : decode cX7_add 0 = .ok (.bipush 24, 2) := by decide +kernel
theorem dX7_add_2 : decode cX7_add 2 = .ok (.istore_n 2, 1) := by decide +kernel
theorem dX7_add_3 : decode cX7_add 3 = .ok (.iload_n 2, 1) := by decide +kernel
theorem dX7_add_4 : decode cX7_add 4 = .ok (.ifCond .lt 52, 3) := by decide +kernel
theorem dX7_add_7 : decode cX7_add 7 = .ok (.aload_n 0, 1) := by decide +kernel
theorem dX7_add_8 : decode cX7_add 8 = .ok (.getfield 15, 3) := by decide +kernel
theorem dX7_add_11 : decode cX7_add 11 = .ok (.ifCond .lt 39, 3) := by decide +kernel
theorem dX7_add_14 : decode cX7_add 14 = .ok (.aload_n 0, 1) := by decide +kernel
theorem dX7_add_15 : decode cX7_add 15 = .ok (.getfield 15, 3) := by decide +kernel
theorem dX7_add_18 : decode cX7_add 18 = .ok (.sipush 1600, 3) := by decide +kernel
theorem dX7_add_21 : decode cX7_add 21 = .ok (.if_icmp .ge 29, 3) := by decide +kernel
theorem dX7_add_24 : decode cX7_add 24 = .ok (.aload_n 0, 1) := by decide +kernel
theorem dX7_add_25 : decode cX7_add 25 = .ok (.getfield 11, 3) := by decide +kernel
theorem dX7_add_28 : decode cX7_add 28 = .ok (.aload_n 0, 1) := by decide +kernel
theorem dX7_add_29 : decode cX7_add 29 = .ok (.getfield 15, 3) := by decide +kernel
theorem dX7_add_32 : decode cX7_add 32 = .ok (.iload_n 1, 1) := by decide +kernel
theorem dX7_add_33 : decode cX7_add 33 = .ok (.iload_n 2, 1) := by decide +kernel
theorem dX7_add_34 : decode cX7_add 34 = .ok (.ishr, 1) := by decide +kernel
theorem dX7_add_35 : decode cX7_add 35 = .ok (.sipush 255, 3) := by decide +kernel
theorem dX7_add_38 : decode cX7_add 38 = .ok (.iand, 1) := by decide +kernel
theorem dX7_add_39 : decode cX7_add 39 = .ok (.iastore, 1) := by decide +kernel
theorem dX7_add_40 : decode cX7_add 40 = .ok (.aload_n 0, 1) := by decide +kernel
theorem dX7_add_41 : decode cX7_add 41 = .ok (.dup, 1) := by decide +kernel
theorem dX7_add_42 : decode cX7_add 42 = .ok (.getfield 15, 3) := by decide +kernel
theorem dX7_add_45 : decode cX7_add 45 = .ok (.iconst 1, 1) := by decide +kernel
theorem dX7_add_46 : decode cX7_add 46 = .ok (.iadd, 1) := by decide +kernel
theorem dX7_add_47 : decode cX7_add 47 = .ok (.putfield 15, 3) := by decide +kernel
theorem dX7_add_50 : decode cX7_add 50 = .ok (.iinc 2 (-8), 3) := by decide +kernel
theorem dX7_add_53 : decode cX7_add 53 = .ok (.goto (-50), 3) := by decide +kernel
theorem dX7_add_56 : decode cX7_add 56 = .ok (.return_, 1) := by decide +kernel
theorem dX7_at_0 : decode cX7_at 0 = .ok (.iload_n 1, 1) := by decide +kernel
theorem dX7_at_1 : decode cX7_at 1 = .ok (.ifCond .lt 18, 3) := by decide +kernel
theorem dX7_at_4 : decode cX7_at 4 = .ok (.iload_n 1, 1) := by decide +kernel
theorem dX7_at_5 : decode cX7_at 5 = .ok (.aload_n 0, 1) := by decide +kernel
theorem dX7_at_6 : decode cX7_at 6 = .ok (.getfield 15, 3) := by decide +kernel
theorem dX7_at_9 : decode cX7_at 9 = .ok (.if_icmp .ge 10, 3) := by decide +kernel
theorem dX7_at_12 : decode cX7_at 12 = .ok (.iload_n 1, 1) := by decide +kernel
theorem dX7_at_13 : decode cX7_at 13 = .ok (.sipush 1600, 3) := by decide +kernel
theorem dX7_at_16 : decode cX7_at 16 = .ok (.if_icmp .lt 7, 3) := by decide +kernel
theorem dX7_at_19 : decode cX7_at 19 = .ok (.iconst (-1), 1) := by decide +kernel
theorem dX7_at_20 : decode cX7_at 20 = .ok (.goto 9, 3) := by decide +kernel
theorem dX7_at_23 : decode cX7_at 23 = .ok (.aload_n 0, 1) := by decide +kernel
theorem dX7_at_24 : decode cX7_at 24 = .ok (.getfield 11, 3) := by decide +kernel
theorem dX7_at_27 : decode cX7_at 27 = .ok (.iload_n 1, 1) := by decide +kernel
theorem dX7_at_28 : decode cX7_at 28 = .ok (.iaload, 1) := by decide +kernel
theorem dX7_at_29 : decode cX7_at 29 = .ok (.ireturn, 1) := by decide +kernel
theorem dX7_pairAt_0 : decode cX7_pairAt 0 = .ok (.sipush 256, 3) := by decide +kernel
theorem dX7_pairAt_3 : decode cX7_pairAt 3 = .ok (.aload_n 0, 1) := by decide +kernel
theorem dX7_pairAt_4 : decode cX7_pairAt 4 = .ok (.iload_n 1, 1) := by decide +kernel
theorem dX7_pairAt_5 : decode cX7_pairAt 5 = .ok (.invokevirtual 19, 3) := by decide +kernel
theorem dX7_pairAt_8 : decode cX7_pairAt 8 = .ok (.imul, 1) := by decide +kernel
theorem dX7_pairAt_9 : decode cX7_pairAt 9 = .ok (.aload_n 0, 1) := by decide +kernel
theorem dX7_pairAt_10 : decode cX7_pairAt 10 = .ok (.iload_n 1, 1) := by decide +kernel
theorem dX7_pairAt_11 : decode cX7_pairAt 11 = .ok (.iconst 1, 1) := by decide +kernel
theorem dX7_pairAt_12 : decode cX7_pairAt 12 = .ok (.iadd, 1) := by decide +kernel
theorem dX7_pairAt_13 : decode cX7_pairAt 13 = .ok (.invokevirtual 19, 3) := by decide +kernel
theorem dX7_pairAt_16 : decode cX7_pairAt 16 = .ok (.iadd, 1) := by decide +kernel
theorem dX7_pairAt_17 : decode cX7_pairAt 17 = .ok (.ireturn, 1) := by decide +kernel
theorem dX8_init_0 : decode cX8_init 0 = .ok (.aload_n 0, 1) := by decide +kernel
theorem dX8_init_1 : decode cX8_init 1 = .ok (.invokespecial 3, 3) := by decide +kernel
theorem dX8_init_4 : decode cX8_init 4 = .ok (.aload_n 0, 1) := by decide +kernel
theorem dX8_init_5 : decode cX8_init 5 = .ok (.bipush 28, 2) := by decide +kernel
theorem dX8_init_7 : decode cX8_init 7 = .ok (.newarray .int, 2) := by decide +kernel
theorem dX8_init_9 : decode cX8_init 9 = .ok (.putfield 11, 3) := by decide +kernel
theorem dX8_init_12 : decode cX8_init 12 = .ok (.aload_n 0, 1) := by decide +kernel
theorem dX8_init_13 : decode cX8_init 13 = .ok (.sipush 1600, 3) := by decide +kernel
theorem dX8_init_16 : decode cX8_init 16 = .ok (.newarray .int, 2) := by decide +kernel
theorem dX8_init_18 : decode cX8_init 18 = .ok (.putfield 17, 3) := by decide +kernel
theorem dX8_init_21 : decode cX8_init 21 = .ok (.aload_n 0, 1) := by decide +kernel
theorem dX8_init_22 : decode cX8_init 22 = .ok (.sipush 1600, 3) := by decide +kernel
theorem dX8_init_25 : decode cX8_init 25 = .ok (.newarray .int, 2) := by decide +kernel
theorem dX8_init_27 : decode cX8_init 27 = .ok (.putfield 20, 3) := by decide +kernel
theorem dX8_init_30 : decode cX8_init 30 = .ok (.aload_n 0, 1) := by decide +kernel
theorem dX8_init_31 : decode cX8_init 31 = .ok (.sipush 1600, 3) := by decide +kernel
theorem dX8_init_34 : decode cX8_init 34 = .ok (.newarray .int, 2) := by decide +kernel
theorem dX8_init_36 : decode cX8_init 36 = .ok (.putfield 23, 3) := by decide +kernel
theorem dX8_init_39 : decode cX8_init 39 = .ok (.aload_n 0, 1) := by decide +kernel
theorem dX8_init_40 : decode cX8_init 40 = .ok (.aload_n 1, 1) := by decide +kernel
theorem dX8_init_41 : decode cX8_init 41 = .ok (.putfield 26, 3) := by decide +kernel
theorem dX8_init_44 : decode cX8_init 44 = .ok (.iconst 0, 1) := by decide +kernel
theorem dX8_init_45 : decode cX8_init 45 = .ok (.istore_n 2, 1) := by decide +kernel
theorem dX8_init_46 : decode cX8_init 46 = .ok (.iconst 0, 1) := by decide +kernel
theorem dX8_init_47 : decode cX8_init 47 = .ok (.istore_n 3, 1) := by decide +kernel
theorem dX8_init_48 : decode cX8_init 48 = .ok (.iconst 0, 1) := by decide +kernel
theorem dX8_init_49 : decode cX8_init 49 = .ok (.istore 4, 2) := by decide +kernel
theorem dX8_init_51 : decode cX8_init 51 = .ok (.iload 4, 2) := by decide +kernel
theorem dX8_init_53 : decode cX8_init 53 = .ok (.ldc 30, 2) := by decide +kernel
theorem dX8_init_55 : decode cX8_init 55 = .ok (.invokevirtual 32, 3) := by decide +kernel
theorem dX8_init_58 : decode cX8_init 58 = .ok (.if_icmp .ge 63, 3) := by decide +kernel
theorem dX8_init_61 : decode cX8_init 61 = .ok (.ldc 30, 2) := by decide +kernel
theorem dX8_init_63 : decode cX8_init 63 = .ok (.iload 4, 2) := by decide +kernel
theorem dX8_init_65 : decode cX8_init 65 = .ok (.invokevirtual 38, 3) := by decide +kernel
theorem dX8_init_68 : decode cX8_init 68 = .ok (.istore 5, 2) := by decide +kernel
theorem dX8_init_70 : decode cX8_init 70 = .ok (.iload 5, 2) := by decide +kernel
theorem dX8_init_72 : decode cX8_init 72 = .ok (.bipush 32, 2) := by decide +kernel
theorem dX8_init_74 : decode cX8_init 74 = .ok (.if_icmp .ne 11, 3) := by decide +kernel
theorem dX8_init_77 : decode cX8_init 77 = .ok (.iinc 2 1, 3) := by decide +kernel
theorem dX8_init_80 : decode cX8_init 80 = .ok (.iconst 0, 1) := by decide +kernel
theorem dX8_init_81 : decode cX8_init 81 = .ok (.istore_n 3, 1) := by decide +kernel
theorem dX8_init_82 : decode cX8_init 82 = .ok (.goto 33, 3) := by decide +kernel
theorem dX8_init_85 : decode cX8_init 85 = .ok (.iload_n 2, 1) := by decide +kernel
theorem dX8_init_86 : decode cX8_init 86 = .ok (.bipush 28, 2) := by decide +kernel
theorem dX8_init_88 : decode cX8_init 88 = .ok (.if_icmp .ge 27, 3) := by decide +kernel
theorem dX8_init_91 : decode cX8_init 91 = .ok (.aload_n 0, 1) := by decide +kernel
theorem dX8_init_92 : decode cX8_init 92 = .ok (.getfield 11, 3) := by decide +kernel
theorem dX8_init_95 : decode cX8_init 95 = .ok (.iload_n 2, 1) := by decide +kernel
theorem dX8_init_96 : decode cX8_init 96 = .ok (.dup2, 1) := by decide +kernel
theorem dX8_init_97 : decode cX8_init 97 = .ok (.iaload, 1) := by decide +kernel
theorem dX8_init_98 : decode cX8_init 98 = .ok (.iload 5, 2) := by decide +kernel
theorem dX8_init_100 : decode cX8_init 100 = .ok (.bipush 97, 2) := by decide +kernel
theorem dX8_init_102 : decode cX8_init 102 = .ok (.isub, 1) := by decide +kernel
theorem dX8_init_103 : decode cX8_init 103 = .ok (.iconst 1, 1) := by decide +kernel
theorem dX8_init_104 : decode cX8_init 104 = .ok (.iadd, 1) := by decide +kernel
theorem dX8_init_105 : decode cX8_init 105 = .ok (.iload_n 3, 1) := by decide +kernel
theorem dX8_init_106 : decode cX8_init 106 = .ok (.invokestatic 42, 3) := by decide +kernel
theorem dX8_init_109 : decode cX8_init 109 = .ok (.ishl, 1) := by decide +kernel
theorem dX8_init_110 : decode cX8_init 110 = .ok (.ior, 1) := by decide +kernel
theorem dX8_init_111 : decode cX8_init 111 = .ok (.iastore, 1) := by decide +kernel
theorem dX8_init_112 : decode cX8_init 112 = .ok (.iinc 3 1, 3) := by decide +kernel
theorem dX8_init_115 : decode cX8_init 115 = .ok (.iinc 4 1, 3) := by decide +kernel
theorem dX8_init_118 : decode cX8_init 118 = .ok (.goto (-67), 3) := by decide +kernel
theorem dX8_init_121 : decode cX8_init 121 = .ok (.return_, 1) := by decide +kernel
theorem dX8_open_0 : decode cX8_open 0 = .ok (.aload_n 0, 1) := by decide +kernel
theorem dX8_open_1 : decode cX8_open 1 = .ok (.iconst 0, 1) := by decide +kernel
theorem dX8_open_2 : decode cX8_open 2 = .ok (.putfield 48, 3) := by decide +kernel
theorem dX8_open_5 : decode cX8_open 5 = .ok (.iconst 1, 1) := by decide +kernel
theorem dX8_open_6 : decode cX8_open 6 = .ok (.istore_n 1, 1) := by decide +kernel
theorem dX8_open_7 : decode cX8_open 7 = .ok (.iconst 0, 1) := by decide +kernel
theorem dX8_open_8 : decode cX8_open 8 = .ok (.istore_n 2, 1) := by decide +kernel
theorem dX8_open_9 : decode cX8_open 9 = .ok (.iload_n 2, 1) := by decide +kernel
theorem dX8_open_10 : decode cX8_open 10 = .ok (.aload_n 0, 1) := by decide +kernel
theorem dX8_open_11 : decode cX8_open 11 = .ok (.getfield 26, 3) := by decide +kernel
theorem dX8_open_14 : decode cX8_open 14 = .ok (.getfield 52, 3) := by decide +kernel
theorem dX8_open_17 : decode cX8_open 17 = .ok (.if_icmp .ge 19, 3) := by decide +kernel
theorem dX8_open_20 : decode cX8_open 20 = .ok (.iload_n 1, 1) := by decide +kernel
theorem dX8_open_21 : decode cX8_open 21 = .ok (.ifCond .eq 15, 3) := by decide +kernel
theorem dX8_open_24 : decode cX8_open 24 = .ok (.aload_n 0, 1) := by decide +kernel
theorem dX8_open_25 : decode cX8_open 25 = .ok (.iload_n 2, 1) := by decide +kernel
theorem dX8_open_26 : decode cX8_open 26 = .ok (.invokevirtual 54, 3) := by decide +kernel
theorem dX8_open_29 : decode cX8_open 29 = .ok (.istore_n 1, 1) := by decide +kernel
theorem dX8_open_30 : decode cX8_open 30 = .ok (.iinc 2 1, 3) := by decide +kernel
theorem dX8_open_33 : decode cX8_open 33 = .ok (.goto (-24), 3) := by decide +kernel
theorem dX8_open_36 : decode cX8_open 36 = .ok (.iconst 0, 1) := by decide +kernel
theorem dX8_open_37 : decode cX8_open 37 = .ok (.istore_n 2, 1) := by decide +kernel
theorem dX8_open_38 : decode cX8_open 38 = .ok (.iload_n 2, 1) := by decide +kernel
theorem dX8_open_39 : decode cX8_open 39 = .ok (.aload_n 0, 1) := by decide +kernel
theorem dX8_open_40 : decode cX8_open 40 = .ok (.getfield 48, 3) := by decide +kernel
theorem dX8_open_43 : decode cX8_open 43 = .ok (.if_icmp .ge 14, 3) := by decide +kernel
theorem dX8_open_46 : decode cX8_open 46 = .ok (.aload_n 0, 1) := by decide +kernel
theorem dX8_open_47 : decode cX8_open 47 = .ok (.iload_n 2, 1) := by decide +kernel
theorem dX8_open_48 : decode cX8_open 48 = .ok (.invokevirtual 58, 3) := by decide +kernel
theorem dX8_open_51 : decode cX8_open 51 = .ok (.iinc 2 1, 3) := by decide +kernel
theorem dX8_open_54 : decode cX8_open 54 = .ok (.goto (-16), 3) := by decide +kernel
theorem dX8_open_57 : decode cX8_open 57 = .ok (.aload_n 0, 1) := by decide +kernel
theorem dX8_open_58 : decode cX8_open 58 = .ok (.iconst 0, 1) := by decide +kernel
theorem dX8_open_59 : decode cX8_open 59 = .ok (.putfield 62, 3) := by decide +kernel
theorem dX8_open_62 : decode cX8_open 62 = .ok (.aload_n 0, 1) := by decide +kernel
theorem dX8_open_63 : decode cX8_open 63 = .ok (.iconst (-1), 1) := by decide +kernel
theorem dX8_open_64 : decode cX8_open 64 = .ok (.putfield 65, 3) := by decide +kernel
theorem dX8_open_67 : decode cX8_open 67 = .ok (.aload_n 0, 1) := by decide +kernel
theorem dX8_open_68 : decode cX8_open 68 = .ok (.iconst (-1), 1) := by decide +kernel
theorem dX8_open_69 : decode cX8_open 69 = .ok (.putfield 68, 3) := by decide +kernel
theorem dX8_open_72 : decode cX8_open 72 = .ok (.aload_n 0, 1) := by decide +kernel
theorem dX8_open_73 : decode cX8_open 73 = .ok (.invokevirtual 71, 3) := by decide +kernel
theorem dX8_open_76 : decode cX8_open 76 = .ok (.return_, 1) := by decide +kernel
theorem dX8_scan_0 : decode cX8_scan 0 = .ok (.aload_n 0, 1) := by decide +kernel
theorem dX8_scan_1 : decode cX8_scan 1 = .ok (.getfield 26, 3) := by decide +kernel
theorem dX8_scan_4 : decode cX8_scan 4 = .ok (.iload_n 1, 1) := by decide +kernel
theorem dX8_scan_5 : decode cX8_scan 5 = .ok (.invokevirtual 74, 3) := by decide +kernel
theorem dX8_scan_8 : decode cX8_scan 8 = .ok (.istore_n 2, 1) := by decide +kernel
theorem dX8_scan_9 : decode cX8_scan 9 = .ok (.aload_n 0, 1) := by decide +kernel
theorem dX8_scan_10 : decode cX8_scan 10 = .ok (.getfield 26, 3) := by decide +kernel
theorem dX8_scan_13 : decode cX8_scan 13 = .ok (.iload_n 1, 1) := by decide +kernel
theorem dX8_scan_14 : decode cX8_scan 14 = .ok (.iconst 1, 1) := by decide +kernel
theorem dX8_scan_15 : decode cX8_scan 15 = .ok (.isub, 1) := by decide +kernel
theorem dX8_scan_16 : decode cX8_scan 16 = .ok (.invokevirtual 74, 3) := by decide +kernel
theorem dX8_scan_19 : decode cX8_scan 19 = .ok (.istore_n 3, 1) := by decide +kernel
theorem dX8_scan_20 : decode cX8_scan 20 = .ok (.iload_n 2, 1) := by decide +kernel
theorem dX8_scan_21 : decode cX8_scan 21 = .ok (.invokestatic 77, 3) := by decide +kernel
theorem dX8_scan_24 : decode cX8_scan 24 = .ok (.ifCond .eq 5, 3) := by decide +kernel
theorem dX8_scan_27 : decode cX8_scan 27 = .ok (.iconst 1, 1) := by decide +kernel
theorem dX8_scan_28 : decode cX8_scan 28 = .ok (.ireturn, 1) := by decide +kernel
theorem dX8_scan_29 : decode cX8_scan 29 = .ok (.iload_n 2, 1) := by decide +kernel
theorem dX8_scan_30 : decode cX8_scan 30 = .ok (.invokestatic 80, 3) := by decide +kernel
theorem dX8_scan_33 : decode cX8_scan 33 = .ok (.ifCond .eq 44, 3) := by decide +kernel
theorem dX8_scan_36 : decode cX8_scan 36 = .ok (.iload_n 3, 1) := by decide +kernel
theorem dX8_scan_37 : decode cX8_scan 37 = .ok (.invokestatic 80, 3) := by decide +kernel
theorem dX8_scan_40 : decode cX8_scan 40 = .ok (.ifCond .eq 12, 3) := by decide +kernel
theorem dX8_scan_43 : decode cX8_scan 43 = .ok (.aload_n 0, 1) := by decide +kernel
theorem dX8_scan_44 : decode cX8_scan 44 = .ok (.iload_n 1, 1) := by decide +kernel
theorem dX8_scan_45 : decode cX8_scan 45 = .ok (.iload_n 2, 1) := by decide +kernel
theorem dX8_scan_46 : decode cX8_scan 46 = .ok (.invokevirtual 83, 3) := by decide +kernel
theorem dX8_scan_49 : decode cX8_scan 49 = .ok (.goto 27, 3) := by decide +kernel
theorem dX8_scan_52 : decode cX8_scan 52 = .ok (.aload_n 0, 1) := by decide +kernel
theorem dX8_scan_53 : decode cX8_scan 53 = .ok (.iconst 1, 1) := by decide +kernel
theorem dX8_scan_54 : decode cX8_scan 54 = .ok (.iload_n 1, 1) := by decide +kernel
theorem dX8_scan_55 : decode cX8_scan 55 = .ok (.iload_n 3, 1) := by decide +kernel
theorem dX8_scan_56 : decode cX8_scan 56 = .ok (.invokevirtual 87, 3) := by decide +kernel
theorem dX8_scan_59 : decode cX8_scan 59 = .ok (.ifCond .eq 16, 3) := by decide +kernel
theorem dX8_scan_62 : decode cX8_scan 62 = .ok (.aload_n 0, 1) := by decide +kernel
theorem dX8_scan_63 : decode cX8_scan 63 = .ok (.iload_n 1, 1) := by decide +kernel
theorem dX8_scan_64 : decode cX8_scan 64 = .ok (.iload_n 2, 1) := by decide +kernel
theorem dX8_scan_65 : decode cX8_scan 65 = .ok (.invokevirtual 83, 3) := by decide +kernel
theorem dX8_scan_68 : decode cX8_scan 68 = .ok (.ifCond .eq 7, 3) := by decide +kernel
theorem dX8_scan_71 : decode cX8_scan 71 = .ok (.iconst 1, 1) := by decide +kernel
theorem dX8_scan_72 : decode cX8_scan 72 = .ok (.goto 4, 3) := by decide +kernel
theorem dX8_scan_75 : decode cX8_scan 75 = .ok (.iconst 0, 1) := by decide +kernel
theorem dX8_scan_76 : decode cX8_scan 76 = .ok (.ireturn, 1) := by decide +kernel
theorem dX8_scan_77 : decode cX8_scan 77 = .ok (.iload_n 2, 1) := by decide +kernel
theorem dX8_scan_78 : decode cX8_scan 78 = .ok (.invokestatic 91, 3) := by decide +kernel
theorem dX8_scan_81 : decode cX8_scan 81 = .ok (.ifCond .eq 44, 3) := by decide +kernel
theorem dX8_scan_84 : decode cX8_scan 84 = .ok (.iload_n 3, 1) := by decide +kernel
theorem dX8_scan_85 : decode cX8_scan 85 = .ok (.invokestatic 91, 3) := by decide +kernel
theorem dX8_scan_88 : decode cX8_scan 88 = .ok (.ifCond .eq 12, 3) := by decide +kernel
theorem dX8_scan_91 : decode cX8_scan 91 = .ok (.aload_n 0, 1) := by decide +kernel
theorem dX8_scan_92 : decode cX8_scan 92 = .ok (.iload_n 1, 1) := by decide +kernel
theorem dX8_scan_93 : decode cX8_scan 93 = .ok (.iload_n 2, 1) := by decide +kernel
theorem dX8_scan_94 : decode cX8_scan 94 = .ok (.invokevirtual 94, 3) := by decide +kernel
theorem dX8_scan_97 : decode cX8_scan 97 = .ok (.goto 27, 3) := by decide +kernel
theorem dX8_scan_100 : decode cX8_scan 100 = .ok (.aload_n 0, 1) := by decide +kernel
theorem dX8_scan_101 : decode cX8_scan 101 = .ok (.iconst 3, 1) := by decide +kernel
theorem dX8_scan_102 : decode cX8_scan 102 = .ok (.iload_n 1, 1) := by decide +kernel
theorem dX8_scan_103 : decode cX8_scan 103 = .ok (.iload_n 3, 1) := by decide +kernel
theorem dX8_scan_104 : decode cX8_scan 104 = .ok (.invokevirtual 87, 3) := by decide +kernel
theorem dX8_scan_107 : decode cX8_scan 107 = .ok (.ifCond .eq 16, 3) := by decide +kernel
theorem dX8_scan_110 : decode cX8_scan 110 = .ok (.aload_n 0, 1) := by decide +kernel
theorem dX8_scan_111 : decode cX8_scan 111 = .ok (.iload_n 1, 1) := by decide +kernel
theorem dX8_scan_112 : decode cX8_scan 112 = .ok (.iload_n 2, 1) := by decide +kernel
theorem dX8_scan_113 : decode cX8_scan 113 = .ok (.invokevirtual 94, 3) := by decide +kernel
theorem dX8_scan_116 : decode cX8_scan 116 = .ok (.ifCond .eq 7, 3) := by decide +kernel
theorem dX8_scan_119 : decode cX8_scan 119 = .ok (.iconst 1, 1) := by decide +kernel
theorem dX8_scan_120 : decode cX8_scan 120 = .ok (.goto 4, 3) := by decide +kernel
theorem dX8_scan_123 : decode cX8_scan 123 = .ok (.iconst 0, 1) := by decide +kernel
theorem dX8_scan_124 : decode cX8_scan 124 = .ok (.ireturn, 1) := by decide +kernel
theorem dX8_scan_125 : decode cX8_scan 125 = .ok (.aload_n 0, 1) := by decide +kernel
theorem dX8_scan_126 : decode cX8_scan 126 = .ok (.iconst 4, 1) := by decide +kernel
theorem dX8_scan_127 : decode cX8_scan 127 = .ok (.iload_n 1, 1) := by decide +kernel
theorem dX8_scan_128 : decode cX8_scan 128 = .ok (.iload_n 2, 1) := by decide +kernel
theorem dX8_scan_129 : decode cX8_scan 129 = .ok (.invokevirtual 97, 3) := by decide +kernel
theorem dX8_scan_132 : decode cX8_scan 132 = .ok (.iconst 1, 1) := by decide +kernel
theorem dX8_scan_133 : decode cX8_scan 133 = .ok (.ireturn, 1) := by decide +kernel
theorem dX8_startSolid_0 : decode cX8_startSolid 0 = .ok (.iload_n 3, 1) := by decide +kernel
theorem dX8_startSolid_1 : decode cX8_startSolid 1 = .ok (.invokestatic 80, 3) := by decide +kernel
theorem dX8_startSolid_4 : decode cX8_startSolid 4 = .ok (.ifCond .ne 10, 3) := by decide +kernel
theorem dX8_startSolid_7 : decode cX8_startSolid 7 = .ok (.iload_n 3, 1) := by decide +kernel
theorem dX8_startSolid_8 : decode cX8_startSolid 8 = .ok (.invokestatic 91, 3) := by decide +kernel
theorem dX8_startSolid_11 : decode cX8_startSolid 11 = .ok (.ifCond .eq 7, 3) := by decide +kernel
theorem dX8_startSolid_14 : decode cX8_startSolid 14 = .ok (.iconst 1, 1) := by decide +kernel
theorem dX8_startSolid_15 : decode cX8_startSolid 15 = .ok (.goto 4, 3) := by decide +kernel
theorem dX8_startSolid_18 : decode cX8_startSolid 18 = .ok (.iconst 0, 1) := by decide +kernel
theorem dX8_startSolid_19 : decode cX8_startSolid 19 = .ok (.istore 4, 2) := by decide +kernel
theorem dX8_startSolid_21 : decode cX8_startSolid 21 = .ok (.aload_n 0, 1) := by decide +kernel
theorem dX8_startSolid_22 : decode cX8_startSolid 22 = .ok (.iload 4, 2) := by decide +kernel
theorem dX8_startSolid_24 : decode cX8_startSolid 24 = .ok (.ifCond .eq 7, 3) := by decide +kernel
theorem dX8_startSolid_27 : decode cX8_startSolid 27 = .ok (.iconst 5, 1) := by decide +kernel
theorem dX8_startSolid_28 : decode cX8_startSolid 28 = .ok (.goto 4, 3) := by decide +kernel
theorem dX8_startSolid_31 : decode cX8_startSolid 31 = .ok (.iload_n 1, 1) := by decide +kernel
theorem dX8_startSolid_32 : decode cX8_startSolid 32 = .ok (.iload_n 2, 1) := by decide +kernel
theorem dX8_startSolid_33 : decode cX8_startSolid 33 = .ok (.iload 4, 2) := by decide +kernel
theorem dX8_startSolid_35 : decode cX8_startSolid 35 = .ok (.ifCond .eq 7, 3) := by decide +kernel
theorem dX8_startSolid_38 : decode cX8_startSolid 38 = .ok (.iload_n 2, 1) := by decide +kernel
theorem dX8_startSolid_39 : decode cX8_startSolid 39 = .ok (.goto 4, 3) := by decide +kernel
theorem dX8_startSolid_42 : decode cX8_startSolid 42 = .ok (.iconst 0, 1) := by decide +kernel
theorem dX8_startSolid_43 : decode cX8_startSolid 43 = .ok (.invokevirtual 97, 3) := by decide +kernel
theorem dX8_startSolid_46 : decode cX8_startSolid 46 = .ok (.iload 4, 2) := by decide +kernel
theorem dX8_startSolid_48 : decode cX8_startSolid 48 = .ok (.ifCond .ne 7, 3) := by decide +kernel
theorem dX8_startSolid_51 : decode cX8_startSolid 51 = .ok (.iconst 1, 1) := by decide +kernel
theorem dX8_startSolid_52 : decode cX8_startSolid 52 = .ok (.goto 4, 3) := by decide +kernel
theorem dX8_startSolid_55 : decode cX8_startSolid 55 = .ok (.iconst 0, 1) := by decide +kernel
theorem dX8_startSolid_56 : decode cX8_startSolid 56 = .ok (.ireturn, 1) := by decide +kernel
theorem dX8_add_0 : decode cX8_add 0 = .ok (.aload_n 0, 1) := by decide +kernel
theorem dX8_add_1 : decode cX8_add 1 = .ok (.getfield 48, 3) := by decide +kernel
theorem dX8_add_4 : decode cX8_add 4 = .ok (.ifCond .lt 55, 3) := by decide +kernel
theorem dX8_add_7 : decode cX8_add 7 = .ok (.aload_n 0, 1) := by decide +kernel
theorem dX8_add_8 : decode cX8_add 8 = .ok (.getfield 48, 3) := by decide +kernel
theorem dX8_add_11 : decode cX8_add 11 = .ok (.aload_n 0, 1) := by decide +kernel
theorem dX8_add_12 : decode cX8_add 12 = .ok (.getfield 17, 3) := by decide +kernel
theorem dX8_add_15 : decode cX8_add 15 = .ok (.arraylength, 1) := by decide +kernel
theorem dX8_add_16 : decode cX8_add 16 = .ok (.if_icmp .ge 43, 3) := by decide +kernel
theorem dX8_add_19 : decode cX8_add 19 = .ok (.aload_n 0, 1) := by decide +kernel
theorem dX8_add_20 : decode cX8_add 20 = .ok (.getfield 17, 3) := by decide +kernel
theorem dX8_add_23 : decode cX8_add 23 = .ok (.aload_n 0, 1) := by decide +kernel
theorem dX8_add_24 : decode cX8_add 24 = .ok (.getfield 48, 3) := by decide +kernel
theorem dX8_add_27 : decode cX8_add 27 = .ok (.iload_n 1, 1) := by decide +kernel
theorem dX8_add_28 : decode cX8_add 28 = .ok (.iastore, 1) := by decide +kernel
theorem dX8_add_29 : decode cX8_add 29 = .ok (.aload_n 0, 1) := by decide +kernel
theorem dX8_add_30 : decode cX8_add 30 = .ok (.getfield 20, 3) := by decide +kernel
theorem dX8_add_33 : decode cX8_add 33 = .ok (.aload_n 0, 1) := by decide +kernel
theorem dX8_add_34 : decode cX8_add 34 = .ok (.getfield 48, 3) := by decide +kernel
theorem dX8_add_37 : decode cX8_add 37 = .ok (.iload_n 2, 1) := by decide +kernel
theorem dX8_add_38 : decode cX8_add 38 = .ok (.iastore, 1) := by decide +kernel
theorem dX8_add_39 : decode cX8_add 39 = .ok (.aload_n 0, 1) := by decide +kernel
theorem dX8_add_40 : decode cX8_add 40 = .ok (.getfield 23, 3) := by decide +kernel
theorem dX8_add_43 : decode cX8_add 43 = .ok (.aload_n 0, 1) := by decide +kernel
theorem dX8_add_44 : decode cX8_add 44 = .ok (.getfield 48, 3) := by decide +kernel
theorem dX8_add_47 : decode cX8_add 47 = .ok (.iload_n 3, 1) := by decide +kernel
theorem dX8_add_48 : decode cX8_add 48 = .ok (.iastore, 1) := by decide +kernel
theorem dX8_add_49 : decode cX8_add 49 = .ok (.aload_n 0, 1) := by decide +kernel
theorem dX8_add_50 : decode cX8_add 50 = .ok (.dup, 1) := by decide +kernel
theorem dX8_add_51 : decode cX8_add 51 = .ok (.getfield 48, 3) := by decide +kernel
theorem dX8_add_54 : decode cX8_add 54 = .ok (.iconst 1, 1) := by decide +kernel
theorem dX8_add_55 : decode cX8_add 55 = .ok (.iadd, 1) := by decide +kernel
theorem dX8_add_56 : decode cX8_add 56 = .ok (.putfield 48, 3) := by decide +kernel
theorem dX8_add_59 : decode cX8_add 59 = .ok (.return_, 1) := by decide +kernel
theorem dX8_addLetter_0 : decode cX8_addLetter 0 = .ok (.aload_n 0, 1) := by decide +kernel
theorem dX8_addLetter_1 : decode cX8_addLetter 1 = .ok (.getfield 48, 3) := by decide +kernel
theorem dX8_addLetter_4 : decode cX8_addLetter 4 = .ok (.iconst 1, 1) := by decide +kernel
theorem dX8_addLetter_5 : decode cX8_addLetter 5 = .ok (.isub, 1) := by decide +kernel
theorem dX8_addLetter_6 : decode cX8_addLetter 6 = .ok (.istore_n 3, 1) := by decide +kernel
theorem dX8_addLetter_7 : decode cX8_addLetter 7 = .ok (.iload_n 3, 1) := by decide +kernel
theorem dX8_addLetter_8 : decode cX8_addLetter 8 = .ok (.ifCond .lt 12, 3) := by decide +kernel
theorem dX8_addLetter_11 : decode cX8_addLetter 11 = .ok (.iload_n 3, 1) := by decide +kernel
theorem dX8_addLetter_12 : decode cX8_addLetter 12 = .ok (.aload_n 0, 1) := by decide +kernel
theorem dX8_addLetter_13 : decode cX8_addLetter 13 = .ok (.getfield 17, 3) := by decide +kernel
theorem dX8_addLetter_16 : decode cX8_addLetter 16 = .ok (.arraylength, 1) := by decide +kernel
theorem dX8_addLetter_17 : decode cX8_addLetter 17 = .ok (.if_icmp .lt 5, 3) := by decide +kernel
theorem dX8_addLetter_20 : decode cX8_addLetter 20 = .ok (.iconst 0, 1) := by decide +kernel
theorem dX8_addLetter_21 : decode cX8_addLetter 21 = .ok (.ireturn, 1) := by decide +kernel
theorem dX8_addLetter_22 : decode cX8_addLetter 22 = .ok (.iload_n 1, 1) := by decide +kernel
theorem dX8_addLetter_23 : decode cX8_addLetter 23 = .ok (.aload_n 0, 1) := by decide +kernel
theorem dX8_addLetter_24 : decode cX8_addLetter 24 = .ok (.getfield 20, 3) := by decide +kernel
theorem dX8_addLetter_27 : decode cX8_addLetter 27 = .ok (.iload_n 3, 1) := by decide +kernel
theorem dX8_addLetter_28 : decode cX8_addLetter 28 = .ok (.iaload, 1) := by decide +kernel
theorem dX8_addLetter_29 : decode cX8_addLetter 29 = .ok (.isub, 1) := by decide +kernel
theorem dX8_addLetter_30 : decode cX8_addLetter 30 = .ok (.istore 4, 2) := by decide +kernel
theorem dX8_addLetter_32 : decode cX8_addLetter 32 = .ok (.iload 4, 2) := by decide +kernel
theorem dX8_addLetter_34 : decode cX8_addLetter 34 = .ok (.bipush 6, 2) := by decide +kernel
theorem dX8_addLetter_36 : decode cX8_addLetter 36 = .ok (.if_icmp .ge 7, 3) := by decide +kernel
theorem dX8_addLetter_39 : decode cX8_addLetter 39 = .ok (.iconst 1, 1) := by decide +kernel
theorem dX8_addLetter_40 : decode cX8_addLetter 40 = .ok (.goto 4, 3) := by decide +kernel
theorem dX8_addLetter_43 : decode cX8_addLetter 43 = .ok (.iconst 0, 1) := by decide +kernel
theorem dX8_addLetter_44 : decode cX8_addLetter 44 = .ok (.istore 5, 2) := by decide +kernel
theorem dX8_addLetter_46 : decode cX8_addLetter 46 = .ok (.aload_n 0, 1) := by decide +kernel
theorem dX8_addLetter_47 : decode cX8_addLetter 47 = .ok (.getfield 17, 3) := by decide +kernel
theorem dX8_addLetter_50 : decode cX8_addLetter 50 = .ok (.iload_n 3, 1) := by decide +kernel
theorem dX8_addLetter_51 : decode cX8_addLetter 51 = .ok (.iload 5, 2) := by decide +kernel
theorem dX8_addLetter_53 : decode cX8_addLetter 53 = .ok (.ifCond .eq 7, 3) := by decide +kernel
theorem dX8_addLetter_56 : decode cX8_addLetter 56 = .ok (.iconst 1, 1) := by decide +kernel
theorem dX8_addLetter_57 : decode cX8_addLetter 57 = .ok (.goto 4, 3) := by decide +kernel
theorem dX8_addLetter_60 : decode cX8_addLetter 60 = .ok (.iconst 5, 1) := by decide +kernel
theorem dX8_addLetter_61 : decode cX8_addLetter 61 = .ok (.iastore, 1) := by decide +kernel
theorem dX8_addLetter_62 : decode cX8_addLetter 62 = .ok (.aload_n 0, 1) := by decide +kernel
theorem dX8_addLetter_63 : decode cX8_addLetter 63 = .ok (.getfield 23, 3) := by decide +kernel
theorem dX8_addLetter_66 : decode cX8_addLetter 66 = .ok (.iload_n 3, 1) := by decide +kernel
theorem dX8_addLetter_67 : decode cX8_addLetter 67 = .ok (.iload 5, 2) := by decide +kernel
theorem dX8_addLetter_69 : decode cX8_addLetter 69 = .ok (.ifCond .eq 25, 3) := by decide +kernel
theorem dX8_addLetter_72 : decode cX8_addLetter 72 = .ok (.aload_n 0, 1) := by decide +kernel
theorem dX8_addLetter_73 : decode cX8_addLetter 73 = .ok (.getfield 23, 3) := by decide +kernel
theorem dX8_addLetter_76 : decode cX8_addLetter 76 = .ok (.iload_n 3, 1) := by decide +kernel
theorem dX8_addLetter_77 : decode cX8_addLetter 77 = .ok (.iaload, 1) := by decide +kernel
theorem dX8_addLetter_78 : decode cX8_addLetter 78 = .ok (.iload_n 2, 1) := by decide +kernel
theorem dX8_addLetter_79 : decode cX8_addLetter 79 = .ok (.bipush 97, 2) := by decide +kernel
theorem dX8_addLetter_81 : decode cX8_addLetter 81 = .ok (.isub, 1) := by decide +kernel
theorem dX8_addLetter_82 : decode cX8_addLetter 82 = .ok (.iconst 1, 1) := by decide +kernel
theorem dX8_addLetter_83 : decode cX8_addLetter 83 = .ok (.iadd, 1) := by decide +kernel
theorem dX8_addLetter_84 : decode cX8_addLetter 84 = .ok (.iload 4, 2) := by decide +kernel
theorem dX8_addLetter_86 : decode cX8_addLetter 86 = .ok (.invokestatic 42, 3) := by decide +kernel
theorem dX8_addLetter_89 : decode cX8_addLetter 89 = .ok (.ishl, 1) := by decide +kernel
theorem dX8_addLetter_90 : decode cX8_addLetter 90 = .ok (.ior, 1) := by decide +kernel
theorem dX8_addLetter_91 : decode cX8_addLetter 91 = .ok (.goto 4, 3) := by decide +kernel
theorem dX8_addLetter_94 : decode cX8_addLetter 94 = .ok (.iload_n 1, 1) := by decide +kernel
theorem dX8_addLetter_95 : decode cX8_addLetter 95 = .ok (.iastore, 1) := by decide +kernel
theorem dX8_addLetter_96 : decode cX8_addLetter 96 = .ok (.iload 5, 2) := by decide +kernel
theorem dX8_addLetter_98 : decode cX8_addLetter 98 = .ok (.ireturn, 1) := by decide +kernel
theorem dX8_addDigit_0 : decode cX8_addDigit 0 = .ok (.aload_n 0, 1) := by decide +kernel
theorem dX8_addDigit_1 : decode cX8_addDigit 1 = .ok (.getfield 48, 3) := by decide +kernel
theorem dX8_addDigit_4 : decode cX8_addDigit 4 = .ok (.iconst 1, 1) := by decide +kernel
theorem dX8_addDigit_5 : decode cX8_addDigit 5 = .ok (.isub, 1) := by decide +kernel
theorem dX8_addDigit_6 : decode cX8_addDigit 6 = .ok (.istore_n 3, 1) := by decide +kernel
theorem dX8_addDigit_7 : decode cX8_addDigit 7 = .ok (.iload_n 3, 1) := by decide +kernel
theorem dX8_addDigit_8 : decode cX8_addDigit 8 = .ok (.ifCond .lt 12, 3) := by decide +kernel
theorem dX8_addDigit_11 : decode cX8_addDigit 11 = .ok (.iload_n 3, 1) := by decide +kernel
theorem dX8_addDigit_12 : decode cX8_addDigit 12 = .ok (.aload_n 0, 1) := by decide +kernel
theorem dX8_addDigit_13 : decode cX8_addDigit 13 = .ok (.getfield 17, 3) := by decide +kernel
theorem dX8_addDigit_16 : decode cX8_addDigit 16 = .ok (.arraylength, 1) := by decide +kernel
theorem dX8_addDigit_17 : decode cX8_addDigit 17 = .ok (.if_icmp .lt 5, 3) := by decide +kernel
theorem dX8_addDigit_20 : decode cX8_addDigit 20 = .ok (.iconst 0, 1) := by decide +kernel
theorem dX8_addDigit_21 : decode cX8_addDigit 21 = .ok (.ireturn, 1) := by decide +kernel
theorem dX8_addDigit_22 : decode cX8_addDigit 22 = .ok (.iload_n 1, 1) := by decide +kernel
theorem dX8_addDigit_23 : decode cX8_addDigit 23 = .ok (.aload_n 0, 1) := by decide +kernel
theorem dX8_addDigit_24 : decode cX8_addDigit 24 = .ok (.getfield 20, 3) := by decide +kernel
theorem dX8_addDigit_27 : decode cX8_addDigit 27 = .ok (.iload_n 3, 1) := by decide +kernel
theorem dX8_addDigit_28 : decode cX8_addDigit 28 = .ok (.iaload, 1) := by decide +kernel
theorem dX8_addDigit_29 : decode cX8_addDigit 29 = .ok (.isub, 1) := by decide +kernel
theorem dX8_addDigit_30 : decode cX8_addDigit 30 = .ok (.iconst 4, 1) := by decide +kernel
theorem dX8_addDigit_31 : decode cX8_addDigit 31 = .ok (.if_icmp .ge 7, 3) := by decide +kernel
theorem dX8_addDigit_34 : decode cX8_addDigit 34 = .ok (.iconst 1, 1) := by decide +kernel
theorem dX8_addDigit_35 : decode cX8_addDigit 35 = .ok (.goto 4, 3) := by decide +kernel
theorem dX8_addDigit_38 : decode cX8_addDigit 38 = .ok (.iconst 0, 1) := by decide +kernel
theorem dX8_addDigit_39 : decode cX8_addDigit 39 = .ok (.istore 4, 2) := by decide +kernel
theorem dX8_addDigit_41 : decode cX8_addDigit 41 = .ok (.aload_n 0, 1) := by decide +kernel
theorem dX8_addDigit_42 : decode cX8_addDigit 42 = .ok (.getfield 17, 3) := by decide +kernel
theorem dX8_addDigit_45 : decode cX8_addDigit 45 = .ok (.iload_n 3, 1) := by decide +kernel
theorem dX8_addDigit_46 : decode cX8_addDigit 46 = .ok (.iload 4, 2) := by decide +kernel
theorem dX8_addDigit_48 : decode cX8_addDigit 48 = .ok (.ifCond .eq 7, 3) := by decide +kernel
theorem dX8_addDigit_51 : decode cX8_addDigit 51 = .ok (.iconst 3, 1) := by decide +kernel
theorem dX8_addDigit_52 : decode cX8_addDigit 52 = .ok (.goto 4, 3) := by decide +kernel
theorem dX8_addDigit_55 : decode cX8_addDigit 55 = .ok (.iconst 5, 1) := by decide +kernel
theorem dX8_addDigit_56 : decode cX8_addDigit 56 = .ok (.iastore, 1) := by decide +kernel
theorem dX8_addDigit_57 : decode cX8_addDigit 57 = .ok (.aload_n 0, 1) := by decide +kernel
theorem dX8_addDigit_58 : decode cX8_addDigit 58 = .ok (.getfield 23, 3) := by decide +kernel
theorem dX8_addDigit_61 : decode cX8_addDigit 61 = .ok (.iload_n 3, 1) := by decide +kernel
theorem dX8_addDigit_62 : decode cX8_addDigit 62 = .ok (.iload 4, 2) := by decide +kernel
theorem dX8_addDigit_64 : decode cX8_addDigit 64 = .ok (.ifCond .eq 20, 3) := by decide +kernel
theorem dX8_addDigit_67 : decode cX8_addDigit 67 = .ok (.bipush 10, 2) := by decide +kernel
theorem dX8_addDigit_69 : decode cX8_addDigit 69 = .ok (.aload_n 0, 1) := by decide +kernel
theorem dX8_addDigit_70 : decode cX8_addDigit 70 = .ok (.getfield 23, 3) := by decide +kernel
