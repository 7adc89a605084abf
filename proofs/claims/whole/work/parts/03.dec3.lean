theorem dX12_letter_73 : decode cX12_letter 73 = .ok (.iload 5, 2) := by decide +kernel
theorem dX12_letter_75 : decode cX12_letter 75 = .ok (.iconst 1, 1) := by decide +kernel
theorem dX12_letter_76 : decode cX12_letter 76 = .ok (.isub, 1) := by decide +kernel
theorem dX12_letter_77 : decode cX12_letter 77 = .ok (.iload_n 2, 1) := by decide +kernel
theorem dX12_letter_78 : decode cX12_letter 78 = .ok (.isub, 1) := by decide +kernel
theorem dX12_letter_79 : decode cX12_letter 79 = .ok (.imul, 1) := by decide +kernel
theorem dX12_letter_80 : decode cX12_letter 80 = .ok (.lshr, 1) := by decide +kernel
theorem dX12_letter_81 : decode cX12_letter 81 = .ok (.ldc2_w 495, 3) := by decide +kernel
theorem dX12_letter_84 : decode cX12_letter 84 = .ok (.land, 1) := by decide +kernel
theorem dX12_letter_85 : decode cX12_letter 85 = .ok (.l2i, 1) := by decide +kernel
theorem dX12_letter_86 : decode cX12_letter 86 = .ok (.bipush 97, 2) := by decide +kernel
theorem dX12_letter_88 : decode cX12_letter 88 = .ok (.isub, 1) := by decide +kernel
theorem dX12_letter_89 : decode cX12_letter 89 = .ok (.iconst 1, 1) := by decide +kernel
theorem dX12_letter_90 : decode cX12_letter 90 = .ok (.iadd, 1) := by decide +kernel
theorem dX12_letter_91 : decode cX12_letter 91 = .ok (.ireturn, 1) := by decide +kernel
theorem dX12_cell_0 : decode cX12_cell 0 = .ok (.aload_n 0, 1) := by decide +kernel
theorem dX12_cell_1 : decode cX12_cell 1 = .ok (.iload_n 1, 1) := by decide +kernel
theorem dX12_cell_2 : decode cX12_cell 2 = .ok (.iload_n 2, 1) := by decide +kernel
theorem dX12_cell_3 : decode cX12_cell 3 = .ok (.invokevirtual 446, 3) := by decide +kernel
theorem dX12_cell_6 : decode cX12_cell 6 = .ok (.ifCond .ne 5, 3) := by decide +kernel
theorem dX12_cell_9 : decode cX12_cell 9 = .ok (.iconst (-1), 1) := by decide +kernel
theorem dX12_cell_10 : decode cX12_cell 10 = .ok (.ireturn, 1) := by decide +kernel
theorem dX12_cell_11 : decode cX12_cell 11 = .ok (.bipush 9, 2) := by decide +kernel
theorem dX12_cell_13 : decode cX12_cell 13 = .ok (.iload_n 2, 1) := by decide +kernel
theorem dX12_cell_14 : decode cX12_cell 14 = .ok (.imul, 1) := by decide +kernel
theorem dX12_cell_15 : decode cX12_cell 15 = .ok (.iload_n 1, 1) := by decide +kernel
theorem dX12_cell_16 : decode cX12_cell 16 = .ok (.iadd, 1) := by decide +kernel
theorem dX12_cell_17 : decode cX12_cell 17 = .ok (.istore 4, 2) := by decide +kernel
theorem dX12_cell_19 : decode cX12_cell 19 = .ok (.iload_n 3, 1) := by decide +kernel
theorem dX12_cell_20 : decode cX12_cell 20 = .ok (.ifCond .ne 21, 3) := by decide +kernel
theorem dX12_cell_23 : decode cX12_cell 23 = .ok (.aload_n 0, 1) := by decide +kernel
theorem dX12_cell_24 : decode cX12_cell 24 = .ok (.getfield 60, 3) := by decide +kernel
theorem dX12_cell_27 : decode cX12_cell 27 = .ok (.bipush 81, 2) := by decide +kernel
theorem dX12_cell_29 : decode cX12_cell 29 = .ok (.aload_n 0, 1) := by decide +kernel
theorem dX12_cell_30 : decode cX12_cell 30 = .ok (.getfield 51, 3) := by decide +kernel
theorem dX12_cell_33 : decode cX12_cell 33 = .ok (.imul, 1) := by decide +kernel
theorem dX12_cell_34 : decode cX12_cell 34 = .ok (.iload 4, 2) := by decide +kernel
theorem dX12_cell_36 : decode cX12_cell 36 = .ok (.iadd, 1) := by decide +kernel
theorem dX12_cell_37 : decode cX12_cell 37 = .ok (.iaload, 1) := by decide +kernel
theorem dX12_cell_38 : decode cX12_cell 38 = .ok (.goto 42, 3) := by decide +kernel
theorem dX12_cell_41 : decode cX12_cell 41 = .ok (.iload_n 3, 1) := by decide +kernel
theorem dX12_cell_42 : decode cX12_cell 42 = .ok (.iconst 1, 1) := by decide +kernel
theorem dX12_cell_43 : decode cX12_cell 43 = .ok (.if_icmp .ne 21, 3) := by decide +kernel
theorem dX12_cell_46 : decode cX12_cell 46 = .ok (.aload_n 0, 1) := by decide +kernel
theorem dX12_cell_47 : decode cX12_cell 47 = .ok (.iconst 0, 1) := by decide +kernel
theorem dX12_cell_48 : decode cX12_cell 48 = .ok (.iload 4, 2) := by decide +kernel
theorem dX12_cell_50 : decode cX12_cell 50 = .ok (.invokevirtual 489, 3) := by decide +kernel
theorem dX12_cell_53 : decode cX12_cell 53 = .ok (.ifCond .eq 7, 3) := by decide +kernel
theorem dX12_cell_56 : decode cX12_cell 56 = .ok (.iconst 1, 1) := by decide +kernel
theorem dX12_cell_57 : decode cX12_cell 57 = .ok (.goto 23, 3) := by decide +kernel
theorem dX12_cell_60 : decode cX12_cell 60 = .ok (.iconst 0, 1) := by decide +kernel
theorem dX12_cell_61 : decode cX12_cell 61 = .ok (.goto 19, 3) := by decide +kernel
theorem dX12_cell_64 : decode cX12_cell 64 = .ok (.iload_n 3, 1) := by decide +kernel
theorem dX12_cell_65 : decode cX12_cell 65 = .ok (.iconst 2, 1) := by decide +kernel
theorem dX12_cell_66 : decode cX12_cell 66 = .ok (.if_icmp .ne 13, 3) := by decide +kernel
theorem dX12_cell_69 : decode cX12_cell 69 = .ok (.aload_n 0, 1) := by decide +kernel
theorem dX12_cell_70 : decode cX12_cell 70 = .ok (.iconst 0, 1) := by decide +kernel
theorem dX12_cell_71 : decode cX12_cell 71 = .ok (.iload 4, 2) := by decide +kernel
theorem dX12_cell_73 : decode cX12_cell 73 = .ok (.invokevirtual 477, 3) := by decide +kernel
theorem dX12_cell_76 : decode cX12_cell 76 = .ok (.goto 4, 3) := by decide +kernel
theorem dX12_cell_79 : decode cX12_cell 79 = .ok (.iconst (-1), 1) := by decide +kernel
theorem dX12_cell_80 : decode cX12_cell 80 = .ok (.ireturn, 1) := by decide +kernel
theorem dX12_box_0 : decode cX12_box 0 = .ok (.aload_n 0, 1) := by decide +kernel
theorem dX12_box_1 : decode cX12_box 1 = .ok (.iload_n 1, 1) := by decide +kernel
theorem dX12_box_2 : decode cX12_box 2 = .ok (.invokevirtual 492, 3) := by decide +kernel
theorem dX12_box_5 : decode cX12_box 5 = .ok (.ifCond .ne 5, 3) := by decide +kernel
theorem dX12_box_8 : decode cX12_box 8 = .ok (.iconst (-1), 1) := by decide +kernel
theorem dX12_box_9 : decode cX12_box 9 = .ok (.ireturn, 1) := by decide +kernel
theorem dX12_box_10 : decode cX12_box 10 = .ok (.iload_n 2, 1) := by decide +kernel
theorem dX12_box_11 : decode cX12_box 11 = .ok (.tableswitch 131 0 7 #[45, 55, 65, 72, 79, 86, 101, 116], 45) := by decide +kernel
theorem dX12_box_56 : decode cX12_box 56 = .ok (.aload_n 0, 1) := by decide +kernel
theorem dX12_box_57 : decode cX12_box 57 = .ok (.getfield 150, 3) := by decide +kernel
theorem dX12_box_60 : decode cX12_box 60 = .ok (.iload_n 1, 1) := by decide +kernel
theorem dX12_box_61 : decode cX12_box 61 = .ok (.iaload, 1) := by decide +kernel
theorem dX12_box_62 : decode cX12_box 62 = .ok (.bipush 9, 2) := by decide +kernel
theorem dX12_box_64 : decode cX12_box 64 = .ok (.irem, 1) := by decide +kernel
theorem dX12_box_65 : decode cX12_box 65 = .ok (.ireturn, 1) := by decide +kernel
theorem dX12_box_66 : decode cX12_box 66 = .ok (.aload_n 0, 1) := by decide +kernel
theorem dX12_box_67 : decode cX12_box 67 = .ok (.getfield 150, 3) := by decide +kernel
theorem dX12_box_70 : decode cX12_box 70 = .ok (.iload_n 1, 1) := by decide +kernel
theorem dX12_box_71 : decode cX12_box 71 = .ok (.iaload, 1) := by decide +kernel
theorem dX12_box_72 : decode cX12_box 72 = .ok (.bipush 9, 2) := by decide +kernel
theorem dX12_box_74 : decode cX12_box 74 = .ok (.idiv, 1) := by decide +kernel
theorem dX12_box_75 : decode cX12_box 75 = .ok (.ireturn, 1) := by decide +kernel
theorem dX12_box_76 : decode cX12_box 76 = .ok (.aload_n 0, 1) := by decide +kernel
theorem dX12_box_77 : decode cX12_box 77 = .ok (.getfield 153, 3) := by decide +kernel
theorem dX12_box_80 : decode cX12_box 80 = .ok (.iload_n 1, 1) := by decide +kernel
theorem dX12_box_81 : decode cX12_box 81 = .ok (.iaload, 1) := by decide +kernel
theorem dX12_box_82 : decode cX12_box 82 = .ok (.ireturn, 1) := by decide +kernel
theorem dX12_box_83 : decode cX12_box 83 = .ok (.aload_n 0, 1) := by decide +kernel
theorem dX12_box_84 : decode cX12_box 84 = .ok (.getfield 156, 3) := by decide +kernel
theorem dX12_box_87 : decode cX12_box 87 = .ok (.iload_n 1, 1) := by decide +kernel
theorem dX12_box_88 : decode cX12_box 88 = .ok (.iaload, 1) := by decide +kernel
theorem dX12_box_89 : decode cX12_box 89 = .ok (.ireturn, 1) := by decide +kernel
theorem dX12_box_90 : decode cX12_box 90 = .ok (.aload_n 0, 1) := by decide +kernel
theorem dX12_box_91 : decode cX12_box 91 = .ok (.getfield 159, 3) := by decide +kernel
theorem dX12_box_94 : decode cX12_box 94 = .ok (.iload_n 1, 1) := by decide +kernel
theorem dX12_box_95 : decode cX12_box 95 = .ok (.iaload, 1) := by decide +kernel
theorem dX12_box_96 : decode cX12_box 96 = .ok (.ireturn, 1) := by decide +kernel
theorem dX12_box_97 : decode cX12_box 97 = .ok (.aload_n 0, 1) := by decide +kernel
theorem dX12_box_98 : decode cX12_box 98 = .ok (.getfield 72, 3) := by decide +kernel
theorem dX12_box_101 : decode cX12_box 101 = .ok (.bipush 6, 2) := by decide +kernel
theorem dX12_box_103 : decode cX12_box 103 = .ok (.aload_n 0, 1) := by decide +kernel
theorem dX12_box_104 : decode cX12_box 104 = .ok (.getfield 51, 3) := by decide +kernel
theorem dX12_box_107 : decode cX12_box 107 = .ok (.imul, 1) := by decide +kernel
theorem dX12_box_108 : decode cX12_box 108 = .ok (.iload_n 1, 1) := by decide +kernel
theorem dX12_box_109 : decode cX12_box 109 = .ok (.iadd, 1) := by decide +kernel
theorem dX12_box_110 : decode cX12_box 110 = .ok (.iaload, 1) := by decide +kernel
theorem dX12_box_111 : decode cX12_box 111 = .ok (.ireturn, 1) := by decide +kernel
theorem dX12_box_112 : decode cX12_box 112 = .ok (.aload_n 0, 1) := by decide +kernel
theorem dX12_box_113 : decode cX12_box 113 = .ok (.getfield 75, 3) := by decide +kernel
theorem dX12_box_116 : decode cX12_box 116 = .ok (.bipush 6, 2) := by decide +kernel
theorem dX12_box_118 : decode cX12_box 118 = .ok (.aload_n 0, 1) := by decide +kernel
theorem dX12_box_119 : decode cX12_box 119 = .ok (.getfield 51, 3) := by decide +kernel
theorem dX12_box_122 : decode cX12_box 122 = .ok (.imul, 1) := by decide +kernel
theorem dX12_box_123 : decode cX12_box 123 = .ok (.iload_n 1, 1) := by decide +kernel
theorem dX12_box_124 : decode cX12_box 124 = .ok (.iadd, 1) := by decide +kernel
theorem dX12_box_125 : decode cX12_box 125 = .ok (.iaload, 1) := by decide +kernel
theorem dX12_box_126 : decode cX12_box 126 = .ok (.ireturn, 1) := by decide +kernel
theorem dX12_box_127 : decode cX12_box 127 = .ok (.aload_n 0, 1) := by decide +kernel
theorem dX12_box_128 : decode cX12_box 128 = .ok (.getfield 78, 3) := by decide +kernel
theorem dX12_box_131 : decode cX12_box 131 = .ok (.bipush 6, 2) := by decide +kernel
theorem dX12_box_133 : decode cX12_box 133 = .ok (.aload_n 0, 1) := by decide +kernel
theorem dX12_box_134 : decode cX12_box 134 = .ok (.getfield 51, 3) := by decide +kernel
theorem dX12_box_137 : decode cX12_box 137 = .ok (.imul, 1) := by decide +kernel
theorem dX12_box_138 : decode cX12_box 138 = .ok (.iload_n 1, 1) := by decide +kernel
theorem dX12_box_139 : decode cX12_box 139 = .ok (.iadd, 1) := by decide +kernel
theorem dX12_box_140 : decode cX12_box 140 = .ok (.iaload, 1) := by decide +kernel
theorem dX12_box_141 : decode cX12_box 141 = .ok (.ireturn, 1) := by decide +kernel
theorem dX12_box_142 : decode cX12_box 142 = .ok (.iconst (-1), 1) := by decide +kernel
theorem dX12_box_143 : decode cX12_box 143 = .ok (.ireturn, 1) := by decide +kernel
theorem dX12_sees_0 : decode cX12_sees 0 = .ok (.aload_n 0, 1) := by decide +kernel
theorem dX12_sees_1 : decode cX12_sees 1 = .ok (.iload_n 1, 1) := by decide +kernel
theorem dX12_sees_2 : decode cX12_sees 2 = .ok (.invokevirtual 492, 3) := by decide +kernel
theorem dX12_sees_5 : decode cX12_sees 5 = .ok (.ifCond .eq 22, 3) := by decide +kernel
theorem dX12_sees_8 : decode cX12_sees 8 = .ok (.iload_n 2, 1) := by decide +kernel
theorem dX12_sees_9 : decode cX12_sees 9 = .ok (.iconst 0, 1) := by decide +kernel
theorem dX12_sees_10 : decode cX12_sees 10 = .ok (.iconst 2, 1) := by decide +kernel
theorem dX12_sees_11 : decode cX12_sees 11 = .ok (.invokestatic 318, 3) := by decide +kernel
theorem dX12_sees_14 : decode cX12_sees 14 = .ok (.ifCond .eq 13, 3) := by decide +kernel
theorem dX12_sees_17 : decode cX12_sees 17 = .ok (.aload_n 0, 1) := by decide +kernel
theorem dX12_sees_18 : decode cX12_sees 18 = .ok (.iconst 0, 1) := by decide +kernel
theorem dX12_sees_19 : decode cX12_sees 19 = .ok (.iload_n 1, 1) := by decide +kernel
theorem dX12_sees_20 : decode cX12_sees 20 = .ok (.iload_n 2, 1) := by decide +kernel
theorem dX12_sees_21 : decode cX12_sees 21 = .ok (.invokevirtual 463, 3) := by decide +kernel
theorem dX12_sees_24 : decode cX12_sees 24 = .ok (.goto 4, 3) := by decide +kernel
theorem dX12_sees_27 : decode cX12_sees 27 = .ok (.iconst (-1), 1) := by decide +kernel
theorem dX12_sees_28 : decode cX12_sees 28 = .ok (.ireturn, 1) := by decide +kernel
theorem dX12_isAhead_0 : decode cX12_isAhead 0 = .ok (.iload_n 1, 1) := by decide +kernel
theorem dX12_isAhead_1 : decode cX12_isAhead 1 = .ok (.iload_n 2, 1) := by decide +kernel
theorem dX12_isAhead_2 : decode cX12_isAhead 2 = .ok (.iload_n 3, 1) := by decide +kernel
theorem dX12_isAhead_3 : decode cX12_isAhead 3 = .ok (.invokestatic 318, 3) := by decide +kernel
theorem dX12_isAhead_6 : decode cX12_isAhead 6 = .ok (.ifCond .eq 21, 3) := by decide +kernel
theorem dX12_isAhead_9 : decode cX12_isAhead 9 = .ok (.aload_n 0, 1) := by decide +kernel
theorem dX12_isAhead_10 : decode cX12_isAhead 10 = .ok (.getfield 144, 3) := by decide +kernel
theorem dX12_isAhead_13 : decode cX12_isAhead 13 = .ok (.iconst 0, 1) := by decide +kernel
theorem dX12_isAhead_14 : decode cX12_isAhead 14 = .ok (.iaload, 1) := by decide +kernel
theorem dX12_isAhead_15 : decode cX12_isAhead 15 = .ok (.sipush 999, 3) := by decide +kernel
theorem dX12_isAhead_18 : decode cX12_isAhead 18 = .ok (.iload_n 1, 1) := by decide +kernel
theorem dX12_isAhead_19 : decode cX12_isAhead 19 = .ok (.isub, 1) := by decide +kernel
theorem dX12_isAhead_20 : decode cX12_isAhead 20 = .ok (.if_icmp .gt 7, 3) := by decide +kernel
theorem dX12_isAhead_23 : decode cX12_isAhead 23 = .ok (.iconst 1, 1) := by decide +kernel
theorem dX12_isAhead_24 : decode cX12_isAhead 24 = .ok (.goto 4, 3) := by decide +kernel
theorem dX12_isAhead_27 : decode cX12_isAhead 27 = .ok (.iconst 0, 1) := by decide +kernel
theorem dX12_isAhead_28 : decode cX12_isAhead 28 = .ok (.ireturn, 1) := by decide +kernel
theorem dX12_later_0 : decode cX12_later 0 = .ok (.aload_n 0, 1) := by decide +kernel
theorem dX12_later_1 : decode cX12_later 1 = .ok (.iload_n 1, 1) := by decide +kernel
theorem dX12_later_2 : decode cX12_later 2 = .ok (.invokevirtual 492, 3) := by decide +kernel
theorem dX12_later_5 : decode cX12_later 5 = .ok (.ifCond .eq 23, 3) := by decide +kernel
theorem dX12_later_8 : decode cX12_later 8 = .ok (.aload_n 0, 1) := by decide +kernel
theorem dX12_later_9 : decode cX12_later 9 = .ok (.iload_n 2, 1) := by decide +kernel
theorem dX12_later_10 : decode cX12_later 10 = .ok (.iconst 0, 1) := by decide +kernel
theorem dX12_later_11 : decode cX12_later 11 = .ok (.bipush 80, 2) := by decide +kernel
theorem dX12_later_13 : decode cX12_later 13 = .ok (.invokevirtual 497, 3) := by decide +kernel
theorem dX12_later_16 : decode cX12_later 16 = .ok (.ifCond .eq 12, 3) := by decide +kernel
theorem dX12_later_19 : decode cX12_later 19 = .ok (.iload_n 3, 1) := by decide +kernel
theorem dX12_later_20 : decode cX12_later 20 = .ok (.iconst 0, 1) := by decide +kernel
theorem dX12_later_21 : decode cX12_later 21 = .ok (.iconst 4, 1) := by decide +kernel
theorem dX12_later_22 : decode cX12_later 22 = .ok (.invokestatic 318, 3) := by decide +kernel
theorem dX12_later_25 : decode cX12_later 25 = .ok (.ifCond .ne 5, 3) := by decide +kernel
theorem dX12_later_28 : decode cX12_later 28 = .ok (.iconst (-1), 1) := by decide +kernel
theorem dX12_later_29 : decode cX12_later 29 = .ok (.ireturn, 1) := by decide +kernel
theorem dX12_later_30 : decode cX12_later 30 = .ok (.aload_n 0, 1) := by decide +kernel
theorem dX12_later_31 : decode cX12_later 31 = .ok (.iconst 1, 1) := by decide +kernel
theorem dX12_later_32 : decode cX12_later 32 = .ok (.iconst 0, 1) := by decide +kernel
theorem dX12_later_33 : decode cX12_later 33 = .ok (.invokevirtual 421, 3) := by decide +kernel
theorem dX12_later_36 : decode cX12_later 36 = .ok (.iconst 0, 1) := by decide +kernel
theorem dX12_later_37 : decode cX12_later 37 = .ok (.istore 4, 2) := by decide +kernel
theorem dX12_later_39 : decode cX12_later 39 = .ok (.iconst 0, 1) := by decide +kernel
theorem dX12_later_40 : decode cX12_later 40 = .ok (.istore 5, 2) := by decide +kernel
theorem dX12_later_42 : decode cX12_later 42 = .ok (.iload 5, 2) := by decide +kernel
theorem dX12_later_44 : decode cX12_later 44 = .ok (.iload_n 2, 1) := by decide +kernel
theorem dX12_later_45 : decode cX12_later 45 = .ok (.if_icmp .ge 29, 3) := by decide +kernel
theorem dX12_later_48 : decode cX12_later 48 = .ok (.aload_n 0, 1) := by decide +kernel
theorem dX12_later_49 : decode cX12_later 49 = .ok (.iconst 1, 1) := by decide +kernel
theorem dX12_later_50 : decode cX12_later 50 = .ok (.iload 5, 2) := by decide +kernel
theorem dX12_later_52 : decode cX12_later 52 = .ok (.invokevirtual 500, 3) := by decide +kernel
theorem dX12_later_55 : decode cX12_later 55 = .ok (.iload 4, 2) := by decide +kernel
theorem dX12_later_57 : decode cX12_later 57 = .ok (.aload_n 0, 1) := by decide +kernel
theorem dX12_later_58 : decode cX12_later 58 = .ok (.getfield 207, 3) := by decide +kernel
theorem dX12_later_61 : decode cX12_later 61 = .ok (.iload_n 1, 1) := by decide +kernel
theorem dX12_later_62 : decode cX12_later 62 = .ok (.ishr, 1) := by decide +kernel
theorem dX12_later_63 : decode cX12_later 63 = .ok (.iconst 1, 1) := by decide +kernel
theorem dX12_later_64 : decode cX12_later 64 = .ok (.iand, 1) := by decide +kernel
theorem dX12_later_65 : decode cX12_later 65 = .ok (.iadd, 1) := by decide +kernel
theorem dX12_later_66 : decode cX12_later 66 = .ok (.istore 4, 2) := by decide +kernel
theorem dX12_later_68 : decode cX12_later 68 = .ok (.iinc 5 1, 3) := by decide +kernel
theorem dX12_later_71 : decode cX12_later 71 = .ok (.goto (-29), 3) := by decide +kernel
theorem dX12_later_74 : decode cX12_later 74 = .ok (.bipush 6, 2) := by decide +kernel
theorem dX12_later_76 : decode cX12_later 76 = .ok (.iload_n 1, 1) := by decide +kernel
theorem dX12_later_77 : decode cX12_later 77 = .ok (.iadd, 1) := by decide +kernel
theorem dX12_later_78 : decode cX12_later 78 = .ok (.istore 5, 2) := by decide +kernel
theorem dX12_later_80 : decode cX12_later 80 = .ok (.iload_n 3, 1) := by decide +kernel
theorem dX12_later_81 : decode cX12_later 81 = .ok (.ifCond .ne 16, 3) := by decide +kernel
theorem dX12_later_84 : decode cX12_later 84 = .ok (.aload_n 0, 1) := by decide +kernel
theorem dX12_later_85 : decode cX12_later 85 = .ok (.getfield 150, 3) := by decide +kernel
theorem dX12_later_88 : decode cX12_later 88 = .ok (.iload 5, 2) := by decide +kernel
theorem dX12_later_90 : decode cX12_later 90 = .ok (.iaload, 1) := by decide +kernel
theorem dX12_later_91 : decode cX12_later 91 = .ok (.bipush 9, 2) := by decide +kernel
theorem dX12_later_93 : decode cX12_later 93 = .ok (.irem, 1) := by decide +kernel
theorem dX12_later_94 : decode cX12_later 94 = .ok (.goto 53, 3) := by decide +kernel
theorem dX12_later_97 : decode cX12_later 97 = .ok (.iload_n 3, 1) := by decide +kernel
theorem dX12_later_98 : decode cX12_later 98 = .ok (.iconst 1, 1) := by decide +kernel
theorem dX12_later_99 : decode cX12_later 99 = .ok (.if_icmp .ne 16, 3) := by decide +kernel
theorem dX12_later_102 : decode cX12_later 102 = .ok (.aload_n 0, 1) := by decide +kernel
theorem dX12_later_103 : decode cX12_later 103 = .ok (.getfield 150, 3) := by decide +kernel
theorem dX12_later_106 : decode cX12_later 106 = .ok (.iload 5, 2) := by decide +kernel
theorem dX12_later_108 : decode cX12_later 108 = .ok (.iaload, 1) := by decide +kernel
theorem dX12_later_109 : decode cX12_later 109 = .ok (.bipush 9, 2) := by decide +kernel
theorem dX12_later_111 : decode cX12_later 111 = .ok (.idiv, 1) := by decide +kernel
theorem dX12_later_112 : decode cX12_later 112 = .ok (.goto 35, 3) := by decide +kernel
theorem dX12_later_115 : decode cX12_later 115 = .ok (.iload_n 3, 1) := by decide +kernel
theorem dX12_later_116 : decode cX12_later 116 = .ok (.iconst 2, 1) := by decide +kernel
theorem dX12_later_117 : decode cX12_later 117 = .ok (.if_icmp .ne 13, 3) := by decide +kernel
theorem dX12_later_120 : decode cX12_later 120 = .ok (.aload_n 0, 1) := by decide +kernel
theorem dX12_later_121 : decode cX12_later 121 = .ok (.getfield 153, 3) := by decide +kernel
theorem dX12_later_124 : decode cX12_later 124 = .ok (.iload 5, 2) := by decide +kernel
theorem dX12_later_126 : decode cX12_later 126 = .ok (.iaload, 1) := by decide +kernel
theorem dX12_later_127 : decode cX12_later 127 = .ok (.goto 20, 3) := by decide +kernel
theorem dX12_later_130 : decode cX12_later 130 = .ok (.iload_n 3, 1) := by decide +kernel
theorem dX12_later_131 : decode cX12_later 131 = .ok (.iconst 3, 1) := by decide +kernel
theorem dX12_later_132 : decode cX12_later 132 = .ok (.if_icmp .ne 13, 3) := by decide +kernel
theorem dX12_later_135 : decode cX12_later 135 = .ok (.aload_n 0, 1) := by decide +kernel
theorem dX12_later_136 : decode cX12_later 136 = .ok (.getfield 159, 3) := by decide +kernel
theorem dX12_later_139 : decode cX12_later 139 = .ok (.iload 5, 2) := by decide +kernel
theorem dX12_later_141 : decode cX12_later 141 = .ok (.iaload, 1) := by decide +kernel
theorem dX12_later_142 : decode cX12_later 142 = .ok (.goto 5, 3) := by decide +kernel
theorem dX12_later_145 : decode cX12_later 145 = .ok (.iload 4, 2) := by decide +kernel
theorem dX12_later_147 : decode cX12_later 147 = .ok (.ireturn, 1) := by decide +kernel
theorem dX12_round_0 : decode cX12_round 0 = .ok (.aload_n 0, 1) := by decide +kernel
theorem dX12_round_1 : decode cX12_round 1 = .ok (.iload_n 1, 1) := by decide +kernel
theorem dX12_round_2 : decode cX12_round 2 = .ok (.invokevirtual 492, 3) := by decide +kernel
theorem dX12_round_5 : decode cX12_round 5 = .ok (.ifCond .ne 5, 3) := by decide +kernel
theorem dX12_round_8 : decode cX12_round 8 = .ok (.iconst (-1), 1) := by decide +kernel
theorem dX12_round_9 : decode cX12_round 9 = .ok (.ireturn, 1) := by decide +kernel
theorem dX12_round_10 : decode cX12_round 10 = .ok (.aload_n 0, 1) := by decide +kernel
theorem dX12_round_11 : decode cX12_round 11 = .ok (.iconst 1, 1) := by decide +kernel
theorem dX12_round_12 : decode cX12_round 12 = .ok (.iconst 0, 1) := by decide +kernel
theorem dX12_round_13 : decode cX12_round 13 = .ok (.invokevirtual 421, 3) := by decide +kernel
theorem dX12_round_16 : decode cX12_round 16 = .ok (.iconst 1, 1) := by decide +kernel
theorem dX12_round_17 : decode cX12_round 17 = .ok (.istore_n 2, 1) := by decide +kernel
theorem dX12_round_18 : decode cX12_round 18 = .ok (.aload_n 0, 1) := by decide +kernel
theorem dX12_round_19 : decode cX12_round 19 = .ok (.iload_n 2, 1) := by decide +kernel
theorem dX12_round_20 : decode cX12_round 20 = .ok (.iconst 1, 1) := by decide +kernel
theorem dX12_round_21 : decode cX12_round 21 = .ok (.bipush 80, 2) := by decide +kernel
theorem dX12_round_23 : decode cX12_round 23 = .ok (.invokevirtual 497, 3) := by decide +kernel
theorem dX12_round_26 : decode cX12_round 26 = .ok (.ifCond .eq 55, 3) := by decide +kernel
theorem dX12_round_29 : decode cX12_round 29 = .ok (.aload_n 0, 1) := by decide +kernel
theorem dX12_round_30 : decode cX12_round 30 = .ok (.iconst 1, 1) := by decide +kernel
theorem dX12_round_31 : decode cX12_round 31 = .ok (.iload_n 2, 1) := by decide +kernel
theorem dX12_round_32 : decode cX12_round 32 = .ok (.iconst 1, 1) := by decide +kernel
theorem dX12_round_33 : decode cX12_round 33 = .ok (.isub, 1) := by decide +kernel
theorem dX12_round_34 : decode cX12_round 34 = .ok (.invokevirtual 500, 3) := by decide +kernel
theorem dX12_round_37 : decode cX12_round 37 = .ok (.aload_n 0, 1) := by decide +kernel
theorem dX12_round_38 : decode cX12_round 38 = .ok (.getfield 150, 3) := by decide +kernel
theorem dX12_round_41 : decode cX12_round 41 = .ok (.bipush 6, 2) := by decide +kernel
theorem dX12_round_43 : decode cX12_round 43 = .ok (.iload_n 1, 1) := by decide +kernel
theorem dX12_round_44 : decode cX12_round 44 = .ok (.iadd, 1) := by decide +kernel
theorem dX12_round_45 : decode cX12_round 45 = .ok (.iaload, 1) := by decide +kernel
theorem dX12_round_46 : decode cX12_round 46 = .ok (.aload_n 0, 1) := by decide +kernel
theorem dX12_round_47 : decode cX12_round 47 = .ok (.getfield 150, 3) := by decide +kernel
theorem dX12_round_50 : decode cX12_round 50 = .ok (.iload_n 1, 1) := by decide +kernel
theorem dX12_round_51 : decode cX12_round 51 = .ok (.iaload, 1) := by decide +kernel
theorem dX12_round_52 : decode cX12_round 52 = .ok (.if_icmp .ne 23, 3) := by decide +kernel
theorem dX12_round_55 : decode cX12_round 55 = .ok (.aload_n 0, 1) := by decide +kernel
theorem dX12_round_56 : decode cX12_round 56 = .ok (.getfield 153, 3) := by decide +kernel
theorem dX12_round_59 : decode cX12_round 59 = .ok (.bipush 6, 2) := by decide +kernel
theorem dX12_round_61 : decode cX12_round 61 = .ok (.iload_n 1, 1) := by decide +kernel
theorem dX12_round_62 : decode cX12_round 62 = .ok (.iadd, 1) := by decide +kernel
theorem dX12_round_63 : decode cX12_round 63 = .ok (.iaload, 1) := by decide +kernel
theorem dX12_round_64 : decode cX12_round 64 = .ok (.aload_n 0, 1) := by decide +kernel
theorem dX12_round_65 : decode cX12_round 65 = .ok (.getfield 153, 3) := by decide +kernel
theorem dX12_round_68 : decode cX12_round 68 = .ok (.iload_n 1, 1) := by decide +kernel
theorem dX12_round_69 : decode cX12_round 69 = .ok (.iaload, 1) := by decide +kernel
theorem dX12_round_70 : decode cX12_round 70 = .ok (.if_icmp .ne 5, 3) := by decide +kernel
theorem dX12_round_73 : decode cX12_round 73 = .ok (.iload_n 2, 1) := by decide +kernel
theorem dX12_round_74 : decode cX12_round 74 = .ok (.ireturn, 1) := by decide +kernel
theorem dX12_round_75 : decode cX12_round 75 = .ok (.iinc 2 1, 3) := by decide +kernel
theorem dX12_round_78 : decode cX12_round 78 = .ok (.goto (-60), 3) := by decide +kernel
theorem dX12_round_81 : decode cX12_round 81 = .ok (.iconst (-1), 1) := by decide +kernel
theorem dX12_round_82 : decode cX12_round 82 = .ok (.ireturn, 1) := by decide +kernel
theorem dX12_loses_0 : decode cX12_loses 0 = .ok (.aload_n 0, 1) := by decide +kernel
theorem dX12_loses_1 : decode cX12_loses 1 = .ok (.iload_n 1, 1) := by decide +kernel
theorem dX12_loses_2 : decode cX12_loses 2 = .ok (.invokevirtual 492, 3) := by decide +kernel
theorem dX12_loses_5 : decode cX12_loses 5 = .ok (.ifCond .eq 13, 3) := by decide +kernel
theorem dX12_loses_8 : decode cX12_loses 8 = .ok (.iload_n 2, 1) := by decide +kernel
theorem dX12_loses_9 : decode cX12_loses 9 = .ok (.iconst 1, 1) := by decide +kernel
theorem dX12_loses_10 : decode cX12_loses 10 = .ok (.bipush 99, 2) := by decide +kernel
theorem dX12_loses_12 : decode cX12_loses 12 = .ok (.invokestatic 318, 3) := by decide +kernel
theorem dX12_loses_15 : decode cX12_loses 15 = .ok (.ifCond .ne 5, 3) := by decide +kernel
theorem dX12_loses_18 : decode cX12_loses 18 = .ok (.iconst (-1), 1) := by decide +kernel
theorem dX12_loses_19 : decode cX12_loses 19 = .ok (.ireturn, 1) := by decide +kernel
theorem dX12_loses_20 : decode cX12_loses 20 = .ok (.aload_n 0, 1) := by decide +kernel
theorem dX12_loses_21 : decode cX12_loses 21 = .ok (.iconst 1, 1) := by decide +kernel
theorem dX12_loses_22 : decode cX12_loses 22 = .ok (.iconst 0, 1) := by decide +kernel
theorem dX12_loses_23 : decode cX12_loses 23 = .ok (.invokevirtual 421, 3) := by decide +kernel
theorem dX12_loses_26 : decode cX12_loses 26 = .ok (.iconst 0, 1) := by decide +kernel
theorem dX12_loses_27 : decode cX12_loses 27 = .ok (.istore_n 3, 1) := by decide +kernel
theorem dX12_loses_28 : decode cX12_loses 28 = .ok (.aload_n 0, 1) := by decide +kernel
theorem dX12_loses_29 : decode cX12_loses 29 = .ok (.iload_n 3, 1) := by decide +kernel
theorem dX12_loses_30 : decode cX12_loses 30 = .ok (.iconst 0, 1) := by decide +kernel
theorem dX12_loses_31 : decode cX12_loses 31 = .ok (.bipush 80, 2) := by decide +kernel
theorem dX12_loses_33 : decode cX12_loses 33 = .ok (.invokevirtual 497, 3) := by decide +kernel
theorem dX12_loses_36 : decode cX12_loses 36 = .ok (.ifCond .eq 30, 3) := by decide +kernel
theorem dX12_loses_39 : decode cX12_loses 39 = .ok (.aload_n 0, 1) := by decide +kernel
theorem dX12_loses_40 : decode cX12_loses 40 = .ok (.getfield 159, 3) := by decide +kernel
theorem dX12_loses_43 : decode cX12_loses 43 = .ok (.bipush 6, 2) := by decide +kernel
theorem dX12_loses_45 : decode cX12_loses 45 = .ok (.iload_n 1, 1) := by decide +kernel
theorem dX12_loses_46 : decode cX12_loses 46 = .ok (.iadd, 1) := by decide +kernel
theorem dX12_loses_47 : decode cX12_loses 47 = .ok (.iaload, 1) := by decide +kernel
theorem dX12_loses_48 : decode cX12_loses 48 = .ok (.iload_n 2, 1) := by decide +kernel
theorem dX12_loses_49 : decode cX12_loses 49 = .ok (.if_icmp .lt 5, 3) := by decide +kernel
theorem dX12_loses_52 : decode cX12_loses 52 = .ok (.iload_n 3, 1) := by decide +kernel
theorem dX12_loses_53 : decode cX12_loses 53 = .ok (.ireturn, 1) := by decide +kernel
theorem dX12_loses_54 : decode cX12_loses 54 = .ok (.aload_n 0, 1) := by decide +kernel
theorem dX12_loses_55 : decode cX12_loses 55 = .ok (.iconst 1, 1) := by decide +kernel
theorem dX12_loses_56 : decode cX12_loses 56 = .ok (.iload_n 3, 1) := by decide +kernel
theorem dX12_loses_57 : decode cX12_loses 57 = .ok (.invokevirtual 500, 3) := by decide +kernel
theorem dX12_loses_60 : decode cX12_loses 60 = .ok (.iinc 3 1, 3) := by decide +kernel
theorem dX12_loses_63 : decode cX12_loses 63 = .ok (.goto (-35), 3) := by decide +kernel
theorem dX12_loses_66 : decode cX12_loses 66 = .ok (.iconst (-1), 1) := by decide +kernel
theorem dX12_loses_67 : decode cX12_loses 67 = .ok (.ireturn, 1) := by decide +kernel
theorem dX12_jam_0 : decode cX12_jam 0 = .ok (.aload_n 0, 1) := by decide +kernel
theorem dX12_jam_1 : decode cX12_jam 1 = .ok (.iconst 1, 1) := by decide +kernel
theorem dX12_jam_2 : decode cX12_jam 2 = .ok (.iconst 0, 1) := by decide +kernel
theorem dX12_jam_3 : decode cX12_jam 3 = .ok (.invokevirtual 421, 3) := by decide +kernel
theorem dX12_jam_6 : decode cX12_jam 6 = .ok (.iconst 1, 1) := by decide +kernel
theorem dX12_jam_7 : decode cX12_jam 7 = .ok (.istore_n 1, 1) := by decide +kernel
theorem dX12_jam_8 : decode cX12_jam 8 = .ok (.aload_n 0, 1) := by decide +kernel
theorem dX12_jam_9 : decode cX12_jam 9 = .ok (.iload_n 1, 1) := by decide +kernel
theorem dX12_jam_10 : decode cX12_jam 10 = .ok (.iconst 1, 1) := by decide +kernel
theorem dX12_jam_11 : decode cX12_jam 11 = .ok (.bipush 80, 2) := by decide +kernel
theorem dX12_jam_13 : decode cX12_jam 13 = .ok (.invokevirtual 497, 3) := by decide +kernel
theorem dX12_jam_16 : decode cX12_jam 16 = .ok (.ifCond .eq 33, 3) := by decide +kernel
theorem dX12_jam_19 : decode cX12_jam 19 = .ok (.aload_n 0, 1) := by decide +kernel
theorem dX12_jam_20 : decode cX12_jam 20 = .ok (.iconst 1, 1) := by decide +kernel
theorem dX12_jam_21 : decode cX12_jam 21 = .ok (.iload_n 1, 1) := by decide +kernel
theorem dX12_jam_22 : decode cX12_jam 22 = .ok (.iconst 1, 1) := by decide +kernel
theorem dX12_jam_23 : decode cX12_jam 23 = .ok (.isub, 1) := by decide +kernel
theorem dX12_jam_24 : decode cX12_jam 24 = .ok (.invokevirtual 500, 3) := by decide +kernel
theorem dX12_jam_27 : decode cX12_jam 27 = .ok (.aload_n 0, 1) := by decide +kernel
theorem dX12_jam_28 : decode cX12_jam 28 = .ok (.getfield 207, 3) := by decide +kernel
theorem dX12_jam_31 : decode cX12_jam 31 = .ok (.ifCond .eq 12, 3) := by decide +kernel
theorem dX12_jam_34 : decode cX12_jam 34 = .ok (.aload_n 0, 1) := by decide +kernel
theorem dX12_jam_35 : decode cX12_jam 35 = .ok (.getfield 204, 3) := by decide +kernel
theorem dX12_jam_38 : decode cX12_jam 38 = .ok (.ifCond .ne 5, 3) := by decide +kernel
theorem dX12_jam_41 : decode cX12_jam 41 = .ok (.iload_n 1, 1) := by decide +kernel
theorem dX12_jam_42 : decode cX12_jam 42 = .ok (.ireturn, 1) := by decide +kernel
theorem dX12_jam_43 : decode cX12_jam 43 = .ok (.iinc 1 1, 3) := by decide +kernel
theorem dX12_jam_46 : decode cX12_jam 46 = .ok (.goto (-38), 3) := by decide +kernel
theorem dX12_jam_49 : decode cX12_jam 49 = .ok (.iconst (-1), 1) := by decide +kernel
theorem dX12_jam_50 : decode cX12_jam 50 = .ok (.ireturn, 1) := by decide +kernel
theorem dX12_away_0 : decode cX12_away 0 = .ok (.iload_n 0, 1) := by decide +kernel
theorem dX12_away_1 : decode cX12_away 1 = .ok (.bipush 9, 2) := by decide +kernel
theorem dX12_away_3 : decode cX12_away 3 = .ok (.irem, 1) := by decide +kernel
theorem dX12_away_4 : decode cX12_away 4 = .ok (.iload_n 1, 1) := by decide +kernel
theorem dX12_away_5 : decode cX12_away 5 = .ok (.bipush 9, 2) := by decide +kernel
theorem dX12_away_7 : decode cX12_away 7 = .ok (.irem, 1) := by decide +kernel
theorem dX12_away_8 : decode cX12_away 8 = .ok (.isub, 1) := by decide +kernel
theorem dX12_away_9 : decode cX12_away 9 = .ok (.istore_n 2, 1) := by decide +kernel
theorem dX12_away_10 : decode cX12_away 10 = .ok (.iload_n 0, 1) := by decide +kernel
theorem dX12_away_11 : decode cX12_away 11 = .ok (.bipush 9, 2) := by decide +kernel
theorem dX12_away_13 : decode cX12_away 13 = .ok (.idiv, 1) := by decide +kernel
theorem dX12_away_14 : decode cX12_away 14 = .ok (.iload_n 1, 1) := by decide +kernel
theorem dX12_away_15 : decode cX12_away 15 = .ok (.bipush 9, 2) := by decide +kernel
theorem dX12_away_17 : decode cX12_away 17 = .ok (.idiv, 1) := by decide +kernel
theorem dX12_away_18 : decode cX12_away 18 = .ok (.isub, 1) := by decide +kernel
theorem dX12_away_19 : decode cX12_away 19 = .ok (.istore_n 3, 1) := by decide +kernel
theorem dX12_away_20 : decode cX12_away 20 = .ok (.iload_n 2, 1) := by decide +kernel
theorem dX12_away_21 : decode cX12_away 21 = .ok (.ifCond .ge 8, 3) := by decide +kernel
theorem dX12_away_24 : decode cX12_away 24 = .ok (.iload_n 2, 1) := by decide +kernel
theorem dX12_away_25 : decode cX12_away 25 = .ok (.ineg, 1) := by decide +kernel
theorem dX12_away_26 : decode cX12_away 26 = .ok (.goto 4, 3) := by decide +kernel
theorem dX12_away_29 : decode cX12_away 29 = .ok (.iload_n 2, 1) := by decide +kernel
theorem dX12_away_30 : decode cX12_away 30 = .ok (.iload_n 3, 1) := by decide +kernel
theorem dX12_away_31 : decode cX12_away 31 = .ok (.ifCond .ge 8, 3) := by decide +kernel
theorem dX12_away_34 : decode cX12_away 34 = .ok (.iload_n 3, 1) := by decide +kernel
theorem dX12_away_35 : decode cX12_away 35 = .ok (.ineg, 1) := by decide +kernel
theorem dX12_away_36 : decode cX12_away 36 = .ok (.goto 4, 3) := by decide +kernel
theorem dX12_away_39 : decode cX12_away 39 = .ok (.iload_n 3, 1) := by decide +kernel
theorem dX12_away_40 : decode cX12_away 40 = .ok (.iadd, 1) := by decide +kernel
theorem dX12_away_41 : decode cX12_away 41 = .ok (.ireturn, 1) := by decide +kernel
theorem dX12_gap_0 : decode cX12_gap 0 = .ok (.aload_n 0, 1) := by decide +kernel
theorem dX12_gap_1 : decode cX12_gap 1 = .ok (.iload_n 1, 1) := by decide +kernel
theorem dX12_gap_2 : decode cX12_gap 2 = .ok (.invokevirtual 492, 3) := by decide +kernel
theorem dX12_gap_5 : decode cX12_gap 5 = .ok (.ifCond .eq 27, 3) := by decide +kernel
theorem dX12_gap_8 : decode cX12_gap 8 = .ok (.aload_n 0, 1) := by decide +kernel
theorem dX12_gap_9 : decode cX12_gap 9 = .ok (.iload_n 2, 1) := by decide +kernel
theorem dX12_gap_10 : decode cX12_gap 10 = .ok (.invokevirtual 492, 3) := by decide +kernel
theorem dX12_gap_13 : decode cX12_gap 13 = .ok (.ifCond .eq 19, 3) := by decide +kernel
theorem dX12_gap_16 : decode cX12_gap 16 = .ok (.iload_n 1, 1) := by decide +kernel
theorem dX12_gap_17 : decode cX12_gap 17 = .ok (.iload_n 2, 1) := by decide +kernel
theorem dX12_gap_18 : decode cX12_gap 18 = .ok (.if_icmp .eq 14, 3) := by decide +kernel
theorem dX12_gap_21 : decode cX12_gap 21 = .ok (.aload_n 0, 1) := by decide +kernel
theorem dX12_gap_22 : decode cX12_gap 22 = .ok (.iload_n 3, 1) := by decide +kernel
theorem dX12_gap_23 : decode cX12_gap 23 = .ok (.iconst 0, 1) := by decide +kernel
theorem dX12_gap_24 : decode cX12_gap 24 = .ok (.bipush 80, 2) := by decide +kernel
theorem dX12_gap_26 : decode cX12_gap 26 = .ok (.invokevirtual 497, 3) := by decide +kernel
theorem dX12_gap_29 : decode cX12_gap 29 = .ok (.ifCond .ne 5, 3) := by decide +kernel
theorem dX12_gap_32 : decode cX12_gap 32 = .ok (.iconst (-1), 1) := by decide +kernel
theorem dX12_gap_33 : decode cX12_gap 33 = .ok (.ireturn, 1) := by decide +kernel
theorem dX12_gap_34 : decode cX12_gap 34 = .ok (.aload_n 0, 1) := by decide +kernel
theorem dX12_gap_35 : decode cX12_gap 35 = .ok (.iconst 1, 1) := by decide +kernel
theorem dX12_gap_36 : decode cX12_gap 36 = .ok (.iconst 0, 1) := by decide +kernel
theorem dX12_gap_37 : decode cX12_gap 37 = .ok (.invokevirtual 421, 3) := by decide +kernel
theorem dX12_gap_40 : decode cX12_gap 40 = .ok (.aload_n 0, 1) := by decide +kernel
theorem dX12_gap_41 : decode cX12_gap 41 = .ok (.getfield 150, 3) := by decide +kernel
theorem dX12_gap_44 : decode cX12_gap 44 = .ok (.iload_n 1, 1) := by decide +kernel
theorem dX12_gap_45 : decode cX12_gap 45 = .ok (.iaload, 1) := by decide +kernel
theorem dX12_gap_46 : decode cX12_gap 46 = .ok (.aload_n 0, 1) := by decide +kernel
theorem dX12_gap_47 : decode cX12_gap 47 = .ok (.getfield 150, 3) := by decide +kernel
theorem dX12_gap_50 : decode cX12_gap 50 = .ok (.iload_n 2, 1) := by decide +kernel
theorem dX12_gap_51 : decode cX12_gap 51 = .ok (.iaload, 1) := by decide +kernel
theorem dX12_gap_52 : decode cX12_gap 52 = .ok (.invokestatic 503, 3) := by decide +kernel
theorem dX12_gap_55 : decode cX12_gap 55 = .ok (.istore 4, 2) := by decide +kernel
theorem dX12_gap_57 : decode cX12_gap 57 = .ok (.iconst 0, 1) := by decide +kernel
theorem dX12_gap_58 : decode cX12_gap 58 = .ok (.istore 5, 2) := by decide +kernel
theorem dX12_gap_60 : decode cX12_gap 60 = .ok (.iload 5, 2) := by decide +kernel
theorem dX12_gap_62 : decode cX12_gap 62 = .ok (.iload_n 3, 1) := by decide +kernel
theorem dX12_gap_63 : decode cX12_gap 63 = .ok (.if_icmp .ge 55, 3) := by decide +kernel
theorem dX12_gap_66 : decode cX12_gap 66 = .ok (.aload_n 0, 1) := by decide +kernel
theorem dX12_gap_67 : decode cX12_gap 67 = .ok (.iconst 1, 1) := by decide +kernel
theorem dX12_gap_68 : decode cX12_gap 68 = .ok (.iload 5, 2) := by decide +kernel
theorem dX12_gap_70 : decode cX12_gap 70 = .ok (.invokevirtual 500, 3) := by decide +kernel
theorem dX12_gap_73 : decode cX12_gap 73 = .ok (.aload_n 0, 1) := by decide +kernel
theorem dX12_gap_74 : decode cX12_gap 74 = .ok (.getfield 150, 3) := by decide +kernel
theorem dX12_gap_77 : decode cX12_gap 77 = .ok (.bipush 6, 2) := by decide +kernel
theorem dX12_gap_79 : decode cX12_gap 79 = .ok (.iload_n 1, 1) := by decide +kernel
theorem dX12_gap_80 : decode cX12_gap 80 = .ok (.iadd, 1) := by decide +kernel
theorem dX12_gap_81 : decode cX12_gap 81 = .ok (.iaload, 1) := by decide +kernel
theorem dX12_gap_82 : decode cX12_gap 82 = .ok (.aload_n 0, 1) := by decide +kernel
theorem dX12_gap_83 : decode cX12_gap 83 = .ok (.getfield 150, 3) := by decide +kernel
theorem dX12_gap_86 : decode cX12_gap 86 = .ok (.bipush 6, 2) := by decide +kernel
theorem dX12_gap_88 : decode cX12_gap 88 = .ok (.iload_n 2, 1) := by decide +kernel
theorem dX12_gap_89 : decode cX12_gap 89 = .ok (.iadd, 1) := by decide +kernel
theorem dX12_gap_90 : decode cX12_gap 90 = .ok (.iaload, 1) := by decide +kernel
theorem dX12_gap_91 : decode cX12_gap 91 = .ok (.invokestatic 503, 3) := by decide +kernel
theorem dX12_gap_94 : decode cX12_gap 94 = .ok (.istore 6, 2) := by decide +kernel
theorem dX12_gap_96 : decode cX12_gap 96 = .ok (.iload 6, 2) := by decide +kernel
theorem dX12_gap_98 : decode cX12_gap 98 = .ok (.iload 4, 2) := by decide +kernel
theorem dX12_gap_100 : decode cX12_gap 100 = .ok (.if_icmp .ge 8, 3) := by decide +kernel
theorem dX12_gap_103 : decode cX12_gap 103 = .ok (.iload 6, 2) := by decide +kernel
theorem dX12_gap_105 : decode cX12_gap 105 = .ok (.goto 5, 3) := by decide +kernel
theorem dX12_gap_108 : decode cX12_gap 108 = .ok (.iload 4, 2) := by decide +kernel
theorem dX12_gap_110 : decode cX12_gap 110 = .ok (.istore 4, 2) := by decide +kernel
theorem dX12_gap_112 : decode cX12_gap 112 = .ok (.iinc 5 1, 3) := by decide +kernel
theorem dX12_gap_115 : decode cX12_gap 115 = .ok (.goto (-55), 3) := by decide +kernel
theorem dX12_gap_118 : decode cX12_gap 118 = .ok (.iload 4, 2) := by decide +kernel
theorem dX12_gap_120 : decode cX12_gap 120 = .ok (.ireturn, 1) := by decide +kernel
theorem dX12_tuned_0 : decode cX12_tuned 0 = .ok (.aload_n 0, 1) := by decide +kernel
theorem dX12_tuned_1 : decode cX12_tuned 1 = .ok (.iload_n 1, 1) := by decide +kernel
theorem dX12_tuned_2 : decode cX12_tuned 2 = .ok (.invokevirtual 492, 3) := by decide +kernel
theorem dX12_tuned_5 : decode cX12_tuned 5 = .ok (.ifCond .eq 23, 3) := by decide +kernel
theorem dX12_tuned_8 : decode cX12_tuned 8 = .ok (.aload_n 0, 1) := by decide +kernel
theorem dX12_tuned_9 : decode cX12_tuned 9 = .ok (.iload_n 2, 1) := by decide +kernel
theorem dX12_tuned_10 : decode cX12_tuned 10 = .ok (.iconst 1, 1) := by decide +kernel
theorem dX12_tuned_11 : decode cX12_tuned 11 = .ok (.bipush 60, 2) := by decide +kernel
theorem dX12_tuned_13 : decode cX12_tuned 13 = .ok (.invokevirtual 497, 3) := by decide +kernel
theorem dX12_tuned_16 : decode cX12_tuned 16 = .ok (.ifCond .eq 12, 3) := by decide +kernel
theorem dX12_tuned_19 : decode cX12_tuned 19 = .ok (.iload_n 3, 1) := by decide +kernel
theorem dX12_tuned_20 : decode cX12_tuned 20 = .ok (.iconst 0, 1) := by decide +kernel
theorem dX12_tuned_21 : decode cX12_tuned 21 = .ok (.iconst 2, 1) := by decide +kernel
theorem dX12_tuned_22 : decode cX12_tuned 22 = .ok (.invokestatic 318, 3) := by decide +kernel
theorem dX12_tuned_25 : decode cX12_tuned 25 = .ok (.ifCond .ne 5, 3) := by decide +kernel
theorem dX12_tuned_28 : decode cX12_tuned 28 = .ok (.iconst (-1), 1) := by decide +kernel
theorem dX12_tuned_29 : decode cX12_tuned 29 = .ok (.ireturn, 1) := by decide +kernel
theorem dX12_tuned_30 : decode cX12_tuned 30 = .ok (.iconst (-1), 1) := by decide +kernel
theorem dX12_tuned_31 : decode cX12_tuned 31 = .ok (.istore 4, 2) := by decide +kernel
theorem dX12_tuned_33 : decode cX12_tuned 33 = .ok (.iconst (-1), 1) := by decide +kernel
theorem dX12_tuned_34 : decode cX12_tuned 34 = .ok (.istore 5, 2) := by decide +kernel
theorem dX12_tuned_36 : decode cX12_tuned 36 = .ok (.aload_n 0, 1) := by decide +kernel
theorem dX12_tuned_37 : decode cX12_tuned 37 = .ok (.iload_n 1, 1) := by decide +kernel
theorem dX12_tuned_38 : decode cX12_tuned 38 = .ok (.putfield 186, 3) := by decide +kernel
theorem dX12_tuned_41 : decode cX12_tuned 41 = .ok (.iconst 0, 1) := by decide +kernel
theorem dX12_tuned_42 : decode cX12_tuned 42 = .ok (.istore 6, 2) := by decide +kernel
theorem dX12_tuned_44 : decode cX12_tuned 44 = .ok (.iload 6, 2) := by decide +kernel
theorem dX12_tuned_46 : decode cX12_tuned 46 = .ok (.bipush 12, 2) := by decide +kernel
theorem dX12_tuned_48 : decode cX12_tuned 48 = .ok (.if_icmp .ge 101, 3) := by decide +kernel
theorem dX12_tuned_51 : decode cX12_tuned 51 = .ok (.aload_n 0, 1) := by decide +kernel
theorem dX12_tuned_52 : decode cX12_tuned 52 = .ok (.iload 6, 2) := by decide +kernel
theorem dX12_tuned_54 : decode cX12_tuned 54 = .ok (.iconst 4, 1) := by decide +kernel
theorem dX12_tuned_55 : decode cX12_tuned 55 = .ok (.idiv, 1) := by decide +kernel
theorem dX12_tuned_56 : decode cX12_tuned 56 = .ok (.putfield 189, 3) := by decide +kernel
theorem dX12_tuned_59 : decode cX12_tuned 59 = .ok (.aload_n 0, 1) := by decide +kernel
theorem dX12_tuned_60 : decode cX12_tuned 60 = .ok (.iload 6, 2) := by decide +kernel
theorem dX12_tuned_62 : decode cX12_tuned 62 = .ok (.iconst 4, 1) := by decide +kernel
theorem dX12_tuned_63 : decode cX12_tuned 63 = .ok (.irem, 1) := by decide +kernel
theorem dX12_tuned_64 : decode cX12_tuned 64 = .ok (.putfield 192, 3) := by decide +kernel
theorem dX12_tuned_67 : decode cX12_tuned 67 = .ok (.aload_n 0, 1) := by decide +kernel
theorem dX12_tuned_68 : decode cX12_tuned 68 = .ok (.iconst 1, 1) := by decide +kernel
theorem dX12_tuned_69 : decode cX12_tuned 69 = .ok (.iconst 0, 1) := by decide +kernel
theorem dX12_tuned_70 : decode cX12_tuned 70 = .ok (.invokevirtual 421, 3) := by decide +kernel
theorem dX12_tuned_73 : decode cX12_tuned 73 = .ok (.iconst 0, 1) := by decide +kernel
theorem dX12_tuned_74 : decode cX12_tuned 74 = .ok (.istore 7, 2) := by decide +kernel
theorem dX12_tuned_76 : decode cX12_tuned 76 = .ok (.iconst 0, 1) := by decide +kernel
theorem dX12_tuned_77 : decode cX12_tuned 77 = .ok (.istore 8, 2) := by decide +kernel
theorem dX12_tuned_79 : decode cX12_tuned 79 = .ok (.iload 8, 2) := by decide +kernel
theorem dX12_tuned_81 : decode cX12_tuned 81 = .ok (.iload_n 2, 1) := by decide +kernel
theorem dX12_tuned_82 : decode cX12_tuned 82 = .ok (.if_icmp .ge 43, 3) := by decide +kernel
theorem dX12_tuned_85 : decode cX12_tuned 85 = .ok (.aload_n 0, 1) := by decide +kernel
theorem dX12_tuned_86 : decode cX12_tuned 86 = .ok (.iconst 1, 1) := by decide +kernel
theorem dX12_tuned_87 : decode cX12_tuned 87 = .ok (.iload 8, 2) := by decide +kernel
theorem dX12_tuned_89 : decode cX12_tuned 89 = .ok (.invokevirtual 500, 3) := by decide +kernel
theorem dX12_tuned_92 : decode cX12_tuned 92 = .ok (.iload 7, 2) := by decide +kernel
theorem dX12_tuned_94 : decode cX12_tuned 94 = .ok (.aload_n 0, 1) := by decide +kernel
theorem dX12_tuned_95 : decode cX12_tuned 95 = .ok (.iconst 1, 1) := by decide +kernel
theorem dX12_tuned_96 : decode cX12_tuned 96 = .ok (.aload_n 0, 1) := by decide +kernel
theorem dX12_tuned_97 : decode cX12_tuned 97 = .ok (.getfield 150, 3) := by decide +kernel
theorem dX12_tuned_100 : decode cX12_tuned 100 = .ok (.bipush 6, 2) := by decide +kernel
theorem dX12_tuned_102 : decode cX12_tuned 102 = .ok (.iload_n 1, 1) := by decide +kernel
theorem dX12_tuned_103 : decode cX12_tuned 103 = .ok (.iadd, 1) := by decide +kernel
theorem dX12_tuned_104 : decode cX12_tuned 104 = .ok (.iaload, 1) := by decide +kernel
theorem dX12_tuned_105 : decode cX12_tuned 105 = .ok (.invokevirtual 489, 3) := by decide +kernel
theorem dX12_tuned_108 : decode cX12_tuned 108 = .ok (.ifCond .eq 7, 3) := by decide +kernel
theorem dX12_tuned_111 : decode cX12_tuned 111 = .ok (.iconst 1, 1) := by decide +kernel
theorem dX12_tuned_112 : decode cX12_tuned 112 = .ok (.goto 4, 3) := by decide +kernel
theorem dX12_tuned_115 : decode cX12_tuned 115 = .ok (.iconst 0, 1) := by decide +kernel
theorem dX12_tuned_116 : decode cX12_tuned 116 = .ok (.iadd, 1) := by decide +kernel
theorem dX12_tuned_117 : decode cX12_tuned 117 = .ok (.istore 7, 2) := by decide +kernel
theorem dX12_tuned_119 : decode cX12_tuned 119 = .ok (.iinc 8 1, 3) := by decide +kernel
theorem dX12_tuned_122 : decode cX12_tuned 122 = .ok (.goto (-43), 3) := by decide +kernel
theorem dX12_tuned_125 : decode cX12_tuned 125 = .ok (.iload 7, 2) := by decide +kernel
theorem dX12_tuned_127 : decode cX12_tuned 127 = .ok (.iload 5, 2) := by decide +kernel
theorem dX12_tuned_129 : decode cX12_tuned 129 = .ok (.if_icmp .gt 6, 3) := by decide +kernel
theorem dX12_tuned_132 : decode cX12_tuned 132 = .ok (.goto 11, 3) := by decide +kernel
theorem dX12_tuned_135 : decode cX12_tuned 135 = .ok (.iload 7, 2) := by decide +kernel
theorem dX12_tuned_137 : decode cX12_tuned 137 = .ok (.istore 5, 2) := by decide +kernel
theorem dX12_tuned_139 : decode cX12_tuned 139 = .ok (.iload 6, 2) := by decide +kernel
theorem dX12_tuned_141 : decode cX12_tuned 141 = .ok (.istore 4, 2) := by decide +kernel
theorem dX12_tuned_143 : decode cX12_tuned 143 = .ok (.iinc 6 1, 3) := by decide +kernel
theorem dX12_tuned_146 : decode cX12_tuned 146 = .ok (.goto (-102), 3) := by decide +kernel
theorem dX12_tuned_149 : decode cX12_tuned 149 = .ok (.aload_n 0, 1) := by decide +kernel
theorem dX12_tuned_150 : decode cX12_tuned 150 = .ok (.iconst (-1), 1) := by decide +kernel
theorem dX12_tuned_151 : decode cX12_tuned 151 = .ok (.putfield 186, 3) := by decide +kernel
theorem dX12_tuned_154 : decode cX12_tuned 154 = .ok (.iload_n 3, 1) := by decide +kernel
theorem dX12_tuned_155 : decode cX12_tuned 155 = .ok (.ifCond .ne 10, 3) := by decide +kernel
theorem dX12_tuned_158 : decode cX12_tuned 158 = .ok (.iload 4, 2) := by decide +kernel
theorem dX12_tuned_160 : decode cX12_tuned 160 = .ok (.iconst 4, 1) := by decide +kernel
theorem dX12_tuned_161 : decode cX12_tuned 161 = .ok (.idiv, 1) := by decide +kernel
theorem dX12_tuned_162 : decode cX12_tuned 162 = .ok (.goto 17, 3) := by decide +kernel
theorem dX12_tuned_165 : decode cX12_tuned 165 = .ok (.iload_n 3, 1) := by decide +kernel
theorem dX12_tuned_166 : decode cX12_tuned 166 = .ok (.iconst 1, 1) := by decide +kernel
theorem dX12_tuned_167 : decode cX12_tuned 167 = .ok (.if_icmp .ne 10, 3) := by decide +kernel
theorem dX12_tuned_170 : decode cX12_tuned 170 = .ok (.iload 4, 2) := by decide +kernel
theorem dX12_tuned_172 : decode cX12_tuned 172 = .ok (.iconst 4, 1) := by decide +kernel
theorem dX12_tuned_173 : decode cX12_tuned 173 = .ok (.irem, 1) := by decide +kernel
theorem dX12_tuned_174 : decode cX12_tuned 174 = .ok (.goto 5, 3) := by decide +kernel
theorem dX12_tuned_177 : decode cX12_tuned 177 = .ok (.iload 5, 2) := by decide +kernel
theorem dX12_tuned_179 : decode cX12_tuned 179 = .ok (.ireturn, 1) := by decide +kernel
theorem dX12_moves_0 : decode cX12_moves 0 = .ok (.aload_n 0, 1) := by decide +kernel
theorem dX12_moves_1 : decode cX12_moves 1 = .ok (.getfield 210, 3) := by decide +kernel
theorem dX12_moves_4 : decode cX12_moves 4 = .ok (.iconst 4, 1) := by decide +kernel
theorem dX12_moves_5 : decode cX12_moves 5 = .ok (.iload_n 1, 1) := by decide +kernel
theorem dX12_moves_6 : decode cX12_moves 6 = .ok (.imul, 1) := by decide +kernel
theorem dX12_moves_7 : decode cX12_moves 7 = .ok (.iload_n 2, 1) := by decide +kernel
theorem dX12_moves_8 : decode cX12_moves 8 = .ok (.iadd, 1) := by decide +kernel
theorem dX12_moves_9 : decode cX12_moves 9 = .ok (.iaload, 1) := by decide +kernel
theorem dX12_moves_10 : decode cX12_moves 10 = .ok (.iconst (-1), 1) := by decide +kernel
theorem dX12_moves_11 : decode cX12_moves 11 = .ok (.if_icmp .ne 14, 3) := by decide +kernel
theorem dX12_moves_14 : decode cX12_moves 14 = .ok (.aload_n 0, 1) := by decide +kernel
theorem dX12_moves_15 : decode cX12_moves 15 = .ok (.getfield 210, 3) := by decide +kernel
theorem dX12_moves_18 : decode cX12_moves 18 = .ok (.iconst 4, 1) := by decide +kernel
theorem dX12_moves_19 : decode cX12_moves 19 = .ok (.iload_n 1, 1) := by decide +kernel
theorem dX12_moves_20 : decode cX12_moves 20 = .ok (.imul, 1) := by decide +kernel
theorem dX12_moves_21 : decode cX12_moves 21 = .ok (.iload_n 2, 1) := by decide +kernel
theorem dX12_moves_22 : decode cX12_moves 22 = .ok (.iadd, 1) := by decide +kernel
theorem dX12_moves_23 : decode cX12_moves 23 = .ok (.iload_n 3, 1) := by decide +kernel
theorem dX12_moves_24 : decode cX12_moves 24 = .ok (.iastore, 1) := by decide +kernel
theorem dX12_moves_25 : decode cX12_moves 25 = .ok (.return_, 1) := by decide +kernel
theorem dX12_found_0 : decode cX12_found 0 = .ok (.aload_n 0, 1) := by decide +kernel
theorem dX12_found_1 : decode cX12_found 1 = .ok (.iload_n 1, 1) := by decide +kernel
theorem dX12_found_2 : decode cX12_found 2 = .ok (.invokevirtual 492, 3) := by decide +kernel
theorem dX12_found_5 : decode cX12_found 5 = .ok (.ifCond .ne 5, 3) := by decide +kernel
theorem dX12_found_8 : decode cX12_found 8 = .ok (.iconst (-1), 1) := by decide +kernel
theorem dX12_found_9 : decode cX12_found 9 = .ok (.ireturn, 1) := by decide +kernel
theorem dX12_found_10 : decode cX12_found 10 = .ok (.iconst 0, 1) := by decide +kernel
theorem dX12_found_11 : decode cX12_found 11 = .ok (.istore_n 2, 1) := by decide +kernel
theorem dX12_found_12 : decode cX12_found 12 = .ok (.iload_n 2, 1) := by decide +kernel
theorem dX12_found_13 : decode cX12_found 13 = .ok (.sipush 324, 3) := by decide +kernel
theorem dX12_found_16 : decode cX12_found 16 = .ok (.if_icmp .ge 16, 3) := by decide +kernel
theorem dX12_found_19 : decode cX12_found 19 = .ok (.aload_n 0, 1) := by decide +kernel
theorem dX12_found_20 : decode cX12_found 20 = .ok (.getfield 210, 3) := by decide +kernel
theorem dX12_found_23 : decode cX12_found 23 = .ok (.iload_n 2, 1) := by decide +kernel
theorem dX12_found_24 : decode cX12_found 24 = .ok (.iconst (-1), 1) := by decide +kernel
theorem dX12_found_25 : decode cX12_found 25 = .ok (.iastore, 1) := by decide +kernel
theorem dX12_found_26 : decode cX12_found 26 = .ok (.iinc 2 1, 3) := by decide +kernel
theorem dX12_found_29 : decode cX12_found 29 = .ok (.goto (-17), 3) := by decide +kernel
theorem dX12_found_32 : decode cX12_found 32 = .ok (.aload_n 0, 1) := by decide +kernel
theorem dX12_found_33 : decode cX12_found 33 = .ok (.aload_n 0, 1) := by decide +kernel
theorem dX12_found_34 : decode cX12_found 34 = .ok (.getfield 150, 3) := by decide +kernel
theorem dX12_found_37 : decode cX12_found 37 = .ok (.iload_n 1, 1) := by decide +kernel
theorem dX12_found_38 : decode cX12_found 38 = .ok (.iaload, 1) := by decide +kernel
theorem dX12_found_39 : decode cX12_found 39 = .ok (.aload_n 0, 1) := by decide +kernel
theorem dX12_found_40 : decode cX12_found 40 = .ok (.getfield 153, 3) := by decide +kernel
theorem dX12_found_43 : decode cX12_found 43 = .ok (.iload_n 1, 1) := by decide +kernel
theorem dX12_found_44 : decode cX12_found 44 = .ok (.iaload, 1) := by decide +kernel
theorem dX12_found_45 : decode cX12_found 45 = .ok (.iconst 0, 1) := by decide +kernel
theorem dX12_found_46 : decode cX12_found 46 = .ok (.invokevirtual 506, 3) := by decide +kernel
theorem dX12_found_49 : decode cX12_found 49 = .ok (.iconst 0, 1) := by decide +kernel
theorem dX12_found_50 : decode cX12_found 50 = .ok (.istore_n 2, 1) := by decide +kernel
theorem dX12_found_51 : decode cX12_found 51 = .ok (.iload_n 2, 1) := by decide +kernel
theorem dX12_found_52 : decode cX12_found 52 = .ok (.sipush 324, 3) := by decide +kernel
theorem dX12_found_55 : decode cX12_found 55 = .ok (.if_icmp .ge 163, 3) := by decide +kernel
theorem dX12_found_58 : decode cX12_found 58 = .ok (.iconst 0, 1) := by decide +kernel
theorem dX12_found_59 : decode cX12_found 59 = .ok (.istore_n 3, 1) := by decide +kernel
theorem dX12_found_60 : decode cX12_found 60 = .ok (.iload_n 3, 1) := by decide +kernel
theorem dX12_found_61 : decode cX12_found 61 = .ok (.sipush 324, 3) := by decide +kernel
theorem dX12_found_64 : decode cX12_found 64 = .ok (.if_icmp .ge 32, 3) := by decide +kernel
theorem dX12_found_67 : decode cX12_found 67 = .ok (.aload_n 0, 1) := by decide +kernel
theorem dX12_found_68 : decode cX12_found 68 = .ok (.getfield 210, 3) := by decide +kernel
theorem dX12_found_71 : decode cX12_found 71 = .ok (.iload_n 3, 1) := by decide +kernel
theorem dX12_found_72 : decode cX12_found 72 = .ok (.iaload, 1) := by decide +kernel
theorem dX12_found_73 : decode cX12_found 73 = .ok (.iload_n 2, 1) := by decide +kernel
theorem dX12_found_74 : decode cX12_found 74 = .ok (.if_icmp .ne 16, 3) := by decide +kernel
theorem dX12_found_77 : decode cX12_found 77 = .ok (.aload_n 0, 1) := by decide +kernel
theorem dX12_found_78 : decode cX12_found 78 = .ok (.iconst 0, 1) := by decide +kernel
theorem dX12_found_79 : decode cX12_found 79 = .ok (.iload_n 3, 1) := by decide +kernel
theorem dX12_found_80 : decode cX12_found 80 = .ok (.iconst 4, 1) := by decide +kernel
theorem dX12_found_81 : decode cX12_found 81 = .ok (.idiv, 1) := by decide +kernel
theorem dX12_found_82 : decode cX12_found 82 = .ok (.invokevirtual 489, 3) := by decide +kernel
theorem dX12_found_85 : decode cX12_found 85 = .ok (.ifCond .eq 5, 3) := by decide +kernel
theorem dX12_found_88 : decode cX12_found 88 = .ok (.iload_n 2, 1) := by decide +kernel
theorem dX12_found_89 : decode cX12_found 89 = .ok (.ireturn, 1) := by decide +kernel
theorem dX12_found_90 : decode cX12_found 90 = .ok (.iinc 3 1, 3) := by decide +kernel
theorem dX12_found_93 : decode cX12_found 93 = .ok (.goto (-33), 3) := by decide +kernel
theorem dX12_found_96 : decode cX12_found 96 = .ok (.iconst 0, 1) := by decide +kernel
theorem dX12_found_97 : decode cX12_found 97 = .ok (.istore_n 3, 1) := by decide +kernel
theorem dX12_found_98 : decode cX12_found 98 = .ok (.iload_n 3, 1) := by decide +kernel
theorem dX12_found_99 : decode cX12_found 99 = .ok (.sipush 324, 3) := by decide +kernel
theorem dX12_found_102 : decode cX12_found 102 = .ok (.if_icmp .ge 110, 3) := by decide +kernel
theorem dX12_found_105 : decode cX12_found 105 = .ok (.aload_n 0, 1) := by decide +kernel
theorem dX12_found_106 : decode cX12_found 106 = .ok (.getfield 210, 3) := by decide +kernel
theorem dX12_found_109 : decode cX12_found 109 = .ok (.iload_n 3, 1) := by decide +kernel
theorem dX12_found_110 : decode cX12_found 110 = .ok (.iaload, 1) := by decide +kernel
theorem dX12_found_111 : decode cX12_found 111 = .ok (.iload_n 2, 1) := by decide +kernel
theorem dX12_found_112 : decode cX12_found 112 = .ok (.if_icmp .eq 6, 3) := by decide +kernel
theorem dX12_found_115 : decode cX12_found 115 = .ok (.goto 91, 3) := by decide +kernel
theorem dX12_found_118 : decode cX12_found 118 = .ok (.aload_n 0, 1) := by decide +kernel
theorem dX12_found_119 : decode cX12_found 119 = .ok (.iload_n 3, 1) := by decide +kernel
theorem dX12_found_120 : decode cX12_found 120 = .ok (.iconst 4, 1) := by decide +kernel
theorem dX12_found_121 : decode cX12_found 121 = .ok (.idiv, 1) := by decide +kernel
theorem dX12_found_122 : decode cX12_found 122 = .ok (.iload_n 3, 1) := by decide +kernel
theorem dX12_found_123 : decode cX12_found 123 = .ok (.iconst 4, 1) := by decide +kernel
theorem dX12_found_124 : decode cX12_found 124 = .ok (.irem, 1) := by decide +kernel
theorem dX12_found_125 : decode cX12_found 125 = .ok (.iconst 1, 1) := by decide +kernel
theorem dX12_found_126 : decode cX12_found 126 = .ok (.iconst 0, 1) := by decide +kernel
theorem dX12_found_127 : decode cX12_found 127 = .ok (.invokevirtual 459, 3) := by decide +kernel
theorem dX12_found_130 : decode cX12_found 130 = .ok (.istore 4, 2) := by decide +kernel
theorem dX12_found_132 : decode cX12_found 132 = .ok (.aload_n 0, 1) := by decide +kernel
theorem dX12_found_133 : decode cX12_found 133 = .ok (.iload_n 3, 1) := by decide +kernel
theorem dX12_found_134 : decode cX12_found 134 = .ok (.iconst 4, 1) := by decide +kernel
theorem dX12_found_135 : decode cX12_found 135 = .ok (.idiv, 1) := by decide +kernel
theorem dX12_found_136 : decode cX12_found 136 = .ok (.iload_n 3, 1) := by decide +kernel
theorem dX12_found_137 : decode cX12_found 137 = .ok (.iconst 4, 1) := by decide +kernel
theorem dX12_found_138 : decode cX12_found 138 = .ok (.irem, 1) := by decide +kernel
theorem dX12_found_139 : decode cX12_found 139 = .ok (.iconst 1, 1) := by decide +kernel
theorem dX12_found_140 : decode cX12_found 140 = .ok (.iadd, 1) := by decide +kernel
theorem dX12_found_141 : decode cX12_found 141 = .ok (.iconst 4, 1) := by decide +kernel
theorem dX12_found_142 : decode cX12_found 142 = .ok (.irem, 1) := by decide +kernel
theorem dX12_found_143 : decode cX12_found 143 = .ok (.iload_n 2, 1) := by decide +kernel
theorem dX12_found_144 : decode cX12_found 144 = .ok (.iconst 1, 1) := by decide +kernel
theorem dX12_found_145 : decode cX12_found 145 = .ok (.iadd, 1) := by decide +kernel
theorem dX12_found_146 : decode cX12_found 146 = .ok (.invokevirtual 506, 3) := by decide +kernel
theorem dX12_found_149 : decode cX12_found 149 = .ok (.aload_n 0, 1) := by decide +kernel
theorem dX12_found_150 : decode cX12_found 150 = .ok (.iload_n 3, 1) := by decide +kernel
theorem dX12_found_151 : decode cX12_found 151 = .ok (.iconst 4, 1) := by decide +kernel
theorem dX12_found_152 : decode cX12_found 152 = .ok (.idiv, 1) := by decide +kernel
theorem dX12_found_153 : decode cX12_found 153 = .ok (.iload_n 3, 1) := by decide +kernel
theorem dX12_found_154 : decode cX12_found 154 = .ok (.iconst 4, 1) := by decide +kernel
theorem dX12_found_155 : decode cX12_found 155 = .ok (.irem, 1) := by decide +kernel
theorem dX12_found_156 : decode cX12_found 156 = .ok (.iconst 3, 1) := by decide +kernel
theorem dX12_found_157 : decode cX12_found 157 = .ok (.iadd, 1) := by decide +kernel
theorem dX12_found_158 : decode cX12_found 158 = .ok (.iconst 4, 1) := by decide +kernel
theorem dX12_found_159 : decode cX12_found 159 = .ok (.irem, 1) := by decide +kernel
theorem dX12_found_160 : decode cX12_found 160 = .ok (.iload_n 2, 1) := by decide +kernel
theorem dX12_found_161 : decode cX12_found 161 = .ok (.iconst 1, 1) := by decide +kernel
theorem dX12_found_162 : decode cX12_found 162 = .ok (.iadd, 1) := by decide +kernel
theorem dX12_found_163 : decode cX12_found 163 = .ok (.invokevirtual 506, 3) := by decide +kernel
theorem dX12_found_166 : decode cX12_found 166 = .ok (.iload 4, 2) := by decide +kernel
theorem dX12_found_168 : decode cX12_found 168 = .ok (.iconst (-1), 1) := by decide +kernel
theorem dX12_found_169 : decode cX12_found 169 = .ok (.if_icmp .eq 37, 3) := by decide +kernel
theorem dX12_found_172 : decode cX12_found 172 = .ok (.aload_n 0, 1) := by decide +kernel
theorem dX12_found_173 : decode cX12_found 173 = .ok (.iconst 0, 1) := by decide +kernel
theorem dX12_found_174 : decode cX12_found 174 = .ok (.iload 4, 2) := by decide +kernel
theorem dX12_found_176 : decode cX12_found 176 = .ok (.invokevirtual 477, 3) := by decide +kernel
theorem dX12_found_179 : decode cX12_found 179 = .ok (.iconst (-1), 1) := by decide +kernel
theorem dX12_found_180 : decode cX12_found 180 = .ok (.if_icmp .eq 14, 3) := by decide +kernel
theorem dX12_found_183 : decode cX12_found 183 = .ok (.aload_n 0, 1) := by decide +kernel
theorem dX12_found_184 : decode cX12_found 184 = .ok (.iconst 0, 1) := by decide +kernel
theorem dX12_found_185 : decode cX12_found 185 = .ok (.iload 4, 2) := by decide +kernel
theorem dX12_found_187 : decode cX12_found 187 = .ok (.invokevirtual 477, 3) := by decide +kernel
theorem dX12_found_190 : decode cX12_found 190 = .ok (.iload_n 1, 1) := by decide +kernel
theorem dX12_found_191 : decode cX12_found 191 = .ok (.if_icmp .ne 15, 3) := by decide +kernel
theorem dX12_found_194 : decode cX12_found 194 = .ok (.aload_n 0, 1) := by decide +kernel
theorem dX12_found_195 : decode cX12_found 195 = .ok (.iload 4, 2) := by decide +kernel
theorem dX12_found_197 : decode cX12_found 197 = .ok (.iload_n 3, 1) := by decide +kernel
theorem dX12_found_198 : decode cX12_found 198 = .ok (.iconst 4, 1) := by decide +kernel
theorem dX12_found_199 : decode cX12_found 199 = .ok (.irem, 1) := by decide +kernel
theorem dX12_found_200 : decode cX12_found 200 = .ok (.iload_n 2, 1) := by decide +kernel
theorem dX12_found_201 : decode cX12_found 201 = .ok (.iconst 1, 1) := by decide +kernel
theorem dX12_found_202 : decode cX12_found 202 = .ok (.iadd, 1) := by decide +kernel
theorem dX12_found_203 : decode cX12_found 203 = .ok (.invokevirtual 506, 3) := by decide +kernel
theorem dX12_found_206 : decode cX12_found 206 = .ok (.iinc 3 1, 3) := by decide +kernel
theorem dX12_found_209 : decode cX12_found 209 = .ok (.goto (-111), 3) := by decide +kernel
theorem dX12_found_212 : decode cX12_found 212 = .ok (.iinc 2 1, 3) := by decide +kernel
theorem dX12_found_215 : decode cX12_found 215 = .ok (.goto (-164), 3) := by decide +kernel
theorem dX12_found_218 : decode cX12_found 218 = .ok (.iconst (-1), 1) := by decide +kernel
theorem dX12_found_219 : decode cX12_found 219 = .ok (.ireturn, 1) := by decide +kernel
theorem dX12_spaced_0 : decode cX12_spaced 0 = .ok (.aload_n 0, 1) := by decide +kernel
theorem dX12_spaced_1 : decode cX12_spaced 1 = .ok (.iload_n 1, 1) := by decide +kernel
theorem dX12_spaced_2 : decode cX12_spaced 2 = .ok (.iconst 1, 1) := by decide +kernel
theorem dX12_spaced_3 : decode cX12_spaced 3 = .ok (.bipush 80, 2) := by decide +kernel
theorem dX12_spaced_5 : decode cX12_spaced 5 = .ok (.invokevirtual 497, 3) := by decide +kernel
theorem dX12_spaced_8 : decode cX12_spaced 8 = .ok (.ifCond .ne 5, 3) := by decide +kernel
theorem dX12_spaced_11 : decode cX12_spaced 11 = .ok (.iconst (-1), 1) := by decide +kernel
theorem dX12_spaced_12 : decode cX12_spaced 12 = .ok (.ireturn, 1) := by decide +kernel
theorem dX12_spaced_13 : decode cX12_spaced 13 = .ok (.iconst (-1), 1) := by decide +kernel
theorem dX12_spaced_14 : decode cX12_spaced 14 = .ok (.istore_n 2, 1) := by decide +kernel
theorem dX12_spaced_15 : decode cX12_spaced 15 = .ok (.iconst 0, 1) := by decide +kernel
theorem dX12_spaced_16 : decode cX12_spaced 16 = .ok (.istore_n 3, 1) := by decide +kernel
theorem dX12_spaced_17 : decode cX12_spaced 17 = .ok (.iload_n 3, 1) := by decide +kernel
theorem dX12_spaced_18 : decode cX12_spaced 18 = .ok (.bipush 9, 2) := by decide +kernel
theorem dX12_spaced_20 : decode cX12_spaced 20 = .ok (.if_icmp .gt 76, 3) := by decide +kernel
theorem dX12_spaced_23 : decode cX12_spaced 23 = .ok (.iload_n 2, 1) := by decide +kernel
theorem dX12_spaced_24 : decode cX12_spaced 24 = .ok (.iconst (-1), 1) := by decide +kernel
theorem dX12_spaced_25 : decode cX12_spaced 25 = .ok (.if_icmp .ne 71, 3) := by decide +kernel
theorem dX12_spaced_28 : decode cX12_spaced 28 = .ok (.aload_n 0, 1) := by decide +kernel
theorem dX12_spaced_29 : decode cX12_spaced 29 = .ok (.iload_n 3, 1) := by decide +kernel
theorem dX12_spaced_30 : decode cX12_spaced 30 = .ok (.putfield 201, 3) := by decide +kernel
theorem dX12_spaced_33 : decode cX12_spaced 33 = .ok (.aload_n 0, 1) := by decide +kernel
theorem dX12_spaced_34 : decode cX12_spaced 34 = .ok (.iconst 1, 1) := by decide +kernel
theorem dX12_spaced_35 : decode cX12_spaced 35 = .ok (.iconst 0, 1) := by decide +kernel
theorem dX12_spaced_36 : decode cX12_spaced 36 = .ok (.invokevirtual 421, 3) := by decide +kernel
theorem dX12_spaced_39 : decode cX12_spaced 39 = .ok (.iconst 1, 1) := by decide +kernel
theorem dX12_spaced_40 : decode cX12_spaced 40 = .ok (.istore 4, 2) := by decide +kernel
theorem dX12_spaced_42 : decode cX12_spaced 42 = .ok (.iconst 0, 1) := by decide +kernel
theorem dX12_spaced_43 : decode cX12_spaced 43 = .ok (.istore 5, 2) := by decide +kernel
theorem dX12_spaced_45 : decode cX12_spaced 45 = .ok (.iload 5, 2) := by decide +kernel
theorem dX12_spaced_47 : decode cX12_spaced 47 = .ok (.iload_n 1, 1) := by decide +kernel
theorem dX12_spaced_48 : decode cX12_spaced 48 = .ok (.if_icmp .ge 35, 3) := by decide +kernel
theorem dX12_spaced_51 : decode cX12_spaced 51 = .ok (.iload 4, 2) := by decide +kernel
theorem dX12_spaced_53 : decode cX12_spaced 53 = .ok (.ifCond .eq 30, 3) := by decide +kernel
theorem dX12_spaced_56 : decode cX12_spaced 56 = .ok (.aload_n 0, 1) := by decide +kernel
theorem dX12_spaced_57 : decode cX12_spaced 57 = .ok (.iconst 1, 1) := by decide +kernel
theorem dX12_spaced_58 : decode cX12_spaced 58 = .ok (.iload 5, 2) := by decide +kernel
theorem dX12_spaced_60 : decode cX12_spaced 60 = .ok (.invokevirtual 500, 3) := by decide +kernel
theorem dX12_spaced_63 : decode cX12_spaced 63 = .ok (.aload_n 0, 1) := by decide +kernel
theorem dX12_spaced_64 : decode cX12_spaced 64 = .ok (.getfield 207, 3) := by decide +kernel
theorem dX12_spaced_67 : decode cX12_spaced 67 = .ok (.ifCond .ne 7, 3) := by decide +kernel
theorem dX12_spaced_70 : decode cX12_spaced 70 = .ok (.iconst 1, 1) := by decide +kernel
theorem dX12_spaced_71 : decode cX12_spaced 71 = .ok (.goto 4, 3) := by decide +kernel
theorem dX12_spaced_74 : decode cX12_spaced 74 = .ok (.iconst 0, 1) := by decide +kernel
theorem dX12_spaced_75 : decode cX12_spaced 75 = .ok (.istore 4, 2) := by decide +kernel
theorem dX12_spaced_77 : decode cX12_spaced 77 = .ok (.iinc 5 1, 3) := by decide +kernel
theorem dX12_spaced_80 : decode cX12_spaced 80 = .ok (.goto (-35), 3) := by decide +kernel
theorem dX12_spaced_83 : decode cX12_spaced 83 = .ok (.iload 4, 2) := by decide +kernel
theorem dX12_spaced_85 : decode cX12_spaced 85 = .ok (.ifCond .eq 5, 3) := by decide +kernel
theorem dX12_spaced_88 : decode cX12_spaced 88 = .ok (.iload_n 3, 1) := by decide +kernel
theorem dX12_spaced_89 : decode cX12_spaced 89 = .ok (.istore_n 2, 1) := by decide +kernel
theorem dX12_spaced_90 : decode cX12_spaced 90 = .ok (.iinc 3 1, 3) := by decide +kernel
theorem dX12_spaced_93 : decode cX12_spaced 93 = .ok (.goto (-76), 3) := by decide +kernel
theorem dX12_spaced_96 : decode cX12_spaced 96 = .ok (.aload_n 0, 1) := by decide +kernel
theorem dX12_spaced_97 : decode cX12_spaced 97 = .ok (.iconst 0, 1) := by decide +kernel
theorem dX12_spaced_98 : decode cX12_spaced 98 = .ok (.putfield 201, 3) := by decide +kernel
theorem dX12_spaced_101 : decode cX12_spaced 101 = .ok (.iload_n 2, 1) := by decide +kernel
theorem dX12_spaced_102 : decode cX12_spaced 102 = .ok (.ireturn, 1) := by decide +kernel
theorem dX12_bright_0 : decode cX12_bright 0 = .ok (.aload_n 0, 1) := by decide +kernel
theorem dX12_bright_1 : decode cX12_bright 1 = .ok (.iload_n 1, 1) := by decide +kernel
theorem dX12_bright_2 : decode cX12_bright 2 = .ok (.iconst 1, 1) := by decide +kernel
theorem dX12_bright_3 : decode cX12_bright 3 = .ok (.bipush 60, 2) := by decide +kernel
theorem dX12_bright_5 : decode cX12_bright 5 = .ok (.invokevirtual 497, 3) := by decide +kernel
theorem dX12_bright_8 : decode cX12_bright 8 = .ok (.ifCond .ne 5, 3) := by decide +kernel
theorem dX12_bright_11 : decode cX12_bright 11 = .ok (.iconst (-1), 1) := by decide +kernel
theorem dX12_bright_12 : decode cX12_bright 12 = .ok (.ireturn, 1) := by decide +kernel
theorem dX12_bright_13 : decode cX12_bright 13 = .ok (.bipush 9, 2) := by decide +kernel
theorem dX12_bright_15 : decode cX12_bright 15 = .ok (.istore_n 2, 1) := by decide +kernel
theorem dX12_bright_16 : decode cX12_bright 16 = .ok (.iload_n 2, 1) := by decide +kernel
theorem dX12_bright_17 : decode cX12_bright 17 = .ok (.ifCond .lt 95, 3) := by decide +kernel
theorem dX12_bright_20 : decode cX12_bright 20 = .ok (.aload_n 0, 1) := by decide +kernel
theorem dX12_bright_21 : decode cX12_bright 21 = .ok (.iconst 1, 1) := by decide +kernel
theorem dX12_bright_22 : decode cX12_bright 22 = .ok (.iconst 0, 1) := by decide +kernel
theorem dX12_bright_23 : decode cX12_bright 23 = .ok (.invokevirtual 421, 3) := by decide +kernel
theorem dX12_bright_26 : decode cX12_bright 26 = .ok (.aload_n 0, 1) := by decide +kernel
theorem dX12_bright_27 : decode cX12_bright 27 = .ok (.getfield 147, 3) := by decide +kernel
theorem dX12_bright_30 : decode cX12_bright 30 = .ok (.iconst 1, 1) := by decide +kernel
theorem dX12_bright_31 : decode cX12_bright 31 = .ok (.iload_n 2, 1) := by decide +kernel
theorem dX12_bright_32 : decode cX12_bright 32 = .ok (.iastore, 1) := by decide +kernel
theorem dX12_bright_33 : decode cX12_bright 33 = .ok (.iconst 0, 1) := by decide +kernel
theorem dX12_bright_34 : decode cX12_bright 34 = .ok (.istore_n 3, 1) := by decide +kernel
theorem dX12_bright_35 : decode cX12_bright 35 = .ok (.iload_n 3, 1) := by decide +kernel
theorem dX12_bright_36 : decode cX12_bright 36 = .ok (.iload_n 1, 1) := by decide +kernel
theorem dX12_bright_37 : decode cX12_bright 37 = .ok (.if_icmp .ge 15, 3) := by decide +kernel
theorem dX12_bright_40 : decode cX12_bright 40 = .ok (.aload_n 0, 1) := by decide +kernel
theorem dX12_bright_41 : decode cX12_bright 41 = .ok (.iconst 1, 1) := by decide +kernel
theorem dX12_bright_42 : decode cX12_bright 42 = .ok (.iload_n 3, 1) := by decide +kernel
theorem dX12_bright_43 : decode cX12_bright 43 = .ok (.invokevirtual 500, 3) := by decide +kernel
theorem dX12_bright_46 : decode cX12_bright 46 = .ok (.iinc 3 1, 3) := by decide +kernel
theorem dX12_bright_49 : decode cX12_bright 49 = .ok (.goto (-14), 3) := by decide +kernel
theorem dX12_bright_52 : decode cX12_bright 52 = .ok (.iconst 1, 1) := by decide +kernel
theorem dX12_bright_53 : decode cX12_bright 53 = .ok (.istore_n 3, 1) := by decide +kernel
theorem dX12_bright_54 : decode cX12_bright 54 = .ok (.iconst 0, 1) := by decide +kernel
theorem dX12_bright_55 : decode cX12_bright 55 = .ok (.istore 4, 2) := by decide +kernel
theorem dX12_bright_57 : decode cX12_bright 57 = .ok (.iload 4, 2) := by decide +kernel
theorem dX12_bright_59 : decode cX12_bright 59 = .ok (.aload_n 0, 1) := by decide +kernel
theorem dX12_bright_60 : decode cX12_bright 60 = .ok (.getfield 63, 3) := by decide +kernel
theorem dX12_bright_63 : decode cX12_bright 63 = .ok (.aload_n 0, 1) := by decide +kernel
theorem dX12_bright_64 : decode cX12_bright 64 = .ok (.getfield 51, 3) := by decide +kernel
theorem dX12_bright_67 : decode cX12_bright 67 = .ok (.iaload, 1) := by decide +kernel
theorem dX12_bright_68 : decode cX12_bright 68 = .ok (.if_icmp .ge 32, 3) := by decide +kernel
theorem dX12_bright_71 : decode cX12_bright 71 = .ok (.iload_n 3, 1) := by decide +kernel
theorem dX12_bright_72 : decode cX12_bright 72 = .ok (.ifCond .eq 20, 3) := by decide +kernel
theorem dX12_bright_75 : decode cX12_bright 75 = .ok (.aload_n 0, 1) := by decide +kernel
theorem dX12_bright_76 : decode cX12_bright 76 = .ok (.getfield 159, 3) := by decide +kernel
theorem dX12_bright_79 : decode cX12_bright 79 = .ok (.bipush 6, 2) := by decide +kernel
theorem dX12_bright_81 : decode cX12_bright 81 = .ok (.iload 4, 2) := by decide +kernel
theorem dX12_bright_83 : decode cX12_bright 83 = .ok (.iadd, 1) := by decide +kernel
theorem dX12_bright_84 : decode cX12_bright 84 = .ok (.iaload, 1) := by decide +kernel
theorem dX12_bright_85 : decode cX12_bright 85 = .ok (.ifCond .ne 7, 3) := by decide +kernel
theorem dX12_bright_88 : decode cX12_bright 88 = .ok (.iconst 1, 1) := by decide +kernel
theorem dX12_bright_89 : decode cX12_bright 89 = .ok (.goto 4, 3) := by decide +kernel
theorem dX12_bright_92 : decode cX12_bright 92 = .ok (.iconst 0, 1) := by decide +kernel
theorem dX12_bright_93 : decode cX12_bright 93 = .ok (.istore_n 3, 1) := by decide +kernel
theorem dX12_bright_94 : decode cX12_bright 94 = .ok (.iinc 4 1, 3) := by decide +kernel
theorem dX12_bright_97 : decode cX12_bright 97 = .ok (.goto (-40), 3) := by decide +kernel
theorem dX12_bright_100 : decode cX12_bright 100 = .ok (.iload_n 3, 1) := by decide +kernel
theorem dX12_bright_101 : decode cX12_bright 101 = .ok (.ifCond .eq 5, 3) := by decide +kernel
theorem dX12_bright_104 : decode cX12_bright 104 = .ok (.iload_n 2, 1) := by decide +kernel
theorem dX12_bright_105 : decode cX12_bright 105 = .ok (.ireturn, 1) := by decide +kernel
theorem dX12_bright_106 : decode cX12_bright 106 = .ok (.iinc 2 (-1), 3) := by decide +kernel
theorem dX12_bright_109 : decode cX12_bright 109 = .ok (.goto (-93), 3) := by decide +kernel
theorem dX12_bright_112 : decode cX12_bright 112 = .ok (.iconst (-1), 1) := by decide +kernel
theorem dX12_bright_113 : decode cX12_bright 113 = .ok (.ireturn, 1) := by decide +kernel
theorem dX12_track_0 : decode cX12_track 0 = .ok (.aload_n 0, 1) := by decide +kernel
theorem dX12_track_1 : decode cX12_track 1 = .ok (.getfield 13, 3) := by decide +kernel
theorem dX12_track_4 : decode cX12_track 4 = .ok (.istore_n 1, 1) := by decide +kernel
theorem dX12_track_5 : decode cX12_track 5 = .ok (.aload_n 0, 1) := by decide +kernel
theorem dX12_track_6 : decode cX12_track 6 = .ok (.iconst 0, 1) := by decide +kernel
theorem dX12_track_7 : decode cX12_track 7 = .ok (.putfield 13, 3) := by decide +kernel
theorem dX12_track_10 : decode cX12_track 10 = .ok (.iload_n 1, 1) := by decide +kernel
theorem dX12_track_11 : decode cX12_track 11 = .ok (.ifCond .le 19, 3) := by decide +kernel
theorem dX12_track_14 : decode cX12_track 14 = .ok (.iload_n 1, 1) := by decide +kernel
theorem dX12_track_15 : decode cX12_track 15 = .ok (.iconst 3, 1) := by decide +kernel
theorem dX12_track_16 : decode cX12_track 16 = .ok (.irem, 1) := by decide +kernel
theorem dX12_track_17 : decode cX12_track 17 = .ok (.ifCond .ne 13, 3) := by decide +kernel
theorem dX12_track_20 : decode cX12_track 20 = .ok (.iload_n 1, 1) := by decide +kernel
theorem dX12_track_21 : decode cX12_track 21 = .ok (.bipush 48, 2) := by decide +kernel
theorem dX12_track_23 : decode cX12_track 23 = .ok (.if_icmp .gt 7, 3) := by decide +kernel
theorem dX12_track_26 : decode cX12_track 26 = .ok (.iconst 1, 1) := by decide +kernel
theorem dX12_track_27 : decode cX12_track 27 = .ok (.goto 4, 3) := by decide +kernel
theorem dX12_track_30 : decode cX12_track 30 = .ok (.iconst 0, 1) := by decide +kernel
theorem dX12_track_31 : decode cX12_track 31 = .ok (.istore_n 2, 1) := by decide +kernel
theorem dX12_track_32 : decode cX12_track 32 = .ok (.iconst 0, 1) := by decide +kernel
theorem dX12_track_33 : decode cX12_track 33 = .ok (.istore_n 3, 1) := by decide +kernel
theorem dX12_track_34 : decode cX12_track 34 = .ok (.iload_n 3, 1) := by decide +kernel
theorem dX12_track_35 : decode cX12_track 35 = .ok (.iload_n 1, 1) := by decide +kernel
theorem dX12_track_36 : decode cX12_track 36 = .ok (.if_icmp .ge 53, 3) := by decide +kernel
theorem dX12_track_39 : decode cX12_track 39 = .ok (.iload_n 2, 1) := by decide +kernel
theorem dX12_track_40 : decode cX12_track 40 = .ok (.ifCond .eq 49, 3) := by decide +kernel
theorem dX12_track_43 : decode cX12_track 43 = .ok (.aload_n 0, 1) := by decide +kernel
theorem dX12_track_44 : decode cX12_track 44 = .ok (.getfield 7, 3) := by decide +kernel
theorem dX12_track_47 : decode cX12_track 47 = .ok (.iload_n 3, 1) := by decide +kernel
theorem dX12_track_48 : decode cX12_track 48 = .ok (.iaload, 1) := by decide +kernel
theorem dX12_track_49 : decode cX12_track 49 = .ok (.bipush 40, 2) := by decide +kernel
theorem dX12_track_51 : decode cX12_track 51 = .ok (.if_icmp .gt 30, 3) := by decide +kernel
theorem dX12_track_54 : decode cX12_track 54 = .ok (.aload_n 0, 1) := by decide +kernel
theorem dX12_track_55 : decode cX12_track 55 = .ok (.aload_n 0, 1) := by decide +kernel
theorem dX12_track_56 : decode cX12_track 56 = .ok (.getfield 7, 3) := by decide +kernel
theorem dX12_track_59 : decode cX12_track 59 = .ok (.iload_n 3, 1) := by decide +kernel
theorem dX12_track_60 : decode cX12_track 60 = .ok (.iconst 1, 1) := by decide +kernel
theorem dX12_track_61 : decode cX12_track 61 = .ok (.iadd, 1) := by decide +kernel
theorem dX12_track_62 : decode cX12_track 62 = .ok (.iaload, 1) := by decide +kernel
theorem dX12_track_63 : decode cX12_track 63 = .ok (.aload_n 0, 1) := by decide +kernel
theorem dX12_track_64 : decode cX12_track 64 = .ok (.getfield 7, 3) := by decide +kernel
theorem dX12_track_67 : decode cX12_track 67 = .ok (.iload_n 3, 1) := by decide +kernel
theorem dX12_track_68 : decode cX12_track 68 = .ok (.iconst 2, 1) := by decide +kernel
theorem dX12_track_69 : decode cX12_track 69 = .ok (.iadd, 1) := by decide +kernel
theorem dX12_track_70 : decode cX12_track 70 = .ok (.iaload, 1) := by decide +kernel
theorem dX12_track_71 : decode cX12_track 71 = .ok (.invokevirtual 446, 3) := by decide +kernel
theorem dX12_track_74 : decode cX12_track 74 = .ok (.ifCond .eq 7, 3) := by decide +kernel
theorem dX12_track_77 : decode cX12_track 77 = .ok (.iconst 1, 1) := by decide +kernel
theorem dX12_track_78 : decode cX12_track 78 = .ok (.goto 4, 3) := by decide +kernel
theorem dX12_track_81 : decode cX12_track 81 = .ok (.iconst 0, 1) := by decide +kernel
theorem dX12_track_82 : decode cX12_track 82 = .ok (.istore_n 2, 1) := by decide +kernel
theorem dX12_track_83 : decode cX12_track 83 = .ok (.iinc 3 3, 3) := by decide +kernel
theorem dX12_track_86 : decode cX12_track 86 = .ok (.goto (-52), 3) := by decide +kernel
theorem dX12_track_89 : decode cX12_track 89 = .ok (.iload_n 2, 1) := by decide +kernel
theorem dX12_track_90 : decode cX12_track 90 = .ok (.ifCond .ne 9, 3) := by decide +kernel
theorem dX12_track_93 : decode cX12_track 93 = .ok (.aload_n 0, 1) := by decide +kernel
theorem dX12_track_94 : decode cX12_track 94 = .ok (.iconst 5, 1) := by decide +kernel
theorem dX12_track_95 : decode cX12_track 95 = .ok (.invokevirtual 235, 3) := by decide +kernel
theorem dX12_track_98 : decode cX12_track 98 = .ok (.ireturn, 1) := by decide +kernel
theorem dX12_track_99 : decode cX12_track 99 = .ok (.aload_n 0, 1) := by decide +kernel
theorem dX12_track_100 : decode cX12_track 100 = .ok (.iload_n 1, 1) := by decide +kernel
theorem dX12_track_101 : decode cX12_track 101 = .ok (.iconst 3, 1) := by decide +kernel
theorem dX12_track_102 : decode cX12_track 102 = .ok (.idiv, 1) := by decide +kernel
theorem dX12_track_103 : decode cX12_track 103 = .ok (.putfield 213, 3) := by decide +kernel
theorem dX12_track_106 : decode cX12_track 106 = .ok (.iconst 0, 1) := by decide +kernel
theorem dX12_track_107 : decode cX12_track 107 = .ok (.istore_n 3, 1) := by decide +kernel
theorem dX12_track_108 : decode cX12_track 108 = .ok (.iload_n 3, 1) := by decide +kernel
theorem dX12_track_109 : decode cX12_track 109 = .ok (.aload_n 0, 1) := by decide +kernel
theorem dX12_track_110 : decode cX12_track 110 = .ok (.getfield 213, 3) := by decide +kernel
theorem dX12_track_113 : decode cX12_track 113 = .ok (.if_icmp .ge 53, 3) := by decide +kernel
theorem dX12_track_116 : decode cX12_track 116 = .ok (.aload_n 0, 1) := by decide +kernel
theorem dX12_track_117 : decode cX12_track 117 = .ok (.getfield 216, 3) := by decide +kernel
theorem dX12_track_120 : decode cX12_track 120 = .ok (.iload_n 3, 1) := by decide +kernel
theorem dX12_track_121 : decode cX12_track 121 = .ok (.aload_n 0, 1) := by decide +kernel
theorem dX12_track_122 : decode cX12_track 122 = .ok (.getfield 7, 3) := by decide +kernel
theorem dX12_track_125 : decode cX12_track 125 = .ok (.iconst 3, 1) := by decide +kernel
theorem dX12_track_126 : decode cX12_track 126 = .ok (.iload_n 3, 1) := by decide +kernel
theorem dX12_track_127 : decode cX12_track 127 = .ok (.imul, 1) := by decide +kernel
theorem dX12_track_128 : decode cX12_track 128 = .ok (.iaload, 1) := by decide +kernel
theorem dX12_track_129 : decode cX12_track 129 = .ok (.iastore, 1) := by decide +kernel
theorem dX12_track_130 : decode cX12_track 130 = .ok (.aload_n 0, 1) := by decide +kernel
theorem dX12_track_131 : decode cX12_track 131 = .ok (.getfield 219, 3) := by decide +kernel
theorem dX12_track_134 : decode cX12_track 134 = .ok (.iload_n 3, 1) := by decide +kernel
theorem dX12_track_135 : decode cX12_track 135 = .ok (.bipush 9, 2) := by decide +kernel
theorem dX12_track_137 : decode cX12_track 137 = .ok (.aload_n 0, 1) := by decide +kernel
theorem dX12_track_138 : decode cX12_track 138 = .ok (.getfield 7, 3) := by decide +kernel
theorem dX12_track_141 : decode cX12_track 141 = .ok (.iconst 3, 1) := by decide +kernel
theorem dX12_track_142 : decode cX12_track 142 = .ok (.iload_n 3, 1) := by decide +kernel
theorem dX12_track_143 : decode cX12_track 143 = .ok (.imul, 1) := by decide +kernel
theorem dX12_track_144 : decode cX12_track 144 = .ok (.iconst 2, 1) := by decide +kernel
theorem dX12_track_145 : decode cX12_track 145 = .ok (.iadd, 1) := by decide +kernel
theorem dX12_track_146 : decode cX12_track 146 = .ok (.iaload, 1) := by decide +kernel
theorem dX12_track_147 : decode cX12_track 147 = .ok (.imul, 1) := by decide +kernel
theorem dX12_track_148 : decode cX12_track 148 = .ok (.aload_n 0, 1) := by decide +kernel
theorem dX12_track_149 : decode cX12_track 149 = .ok (.getfield 7, 3) := by decide +kernel
theorem dX12_track_152 : decode cX12_track 152 = .ok (.iconst 3, 1) := by decide +kernel
theorem dX12_track_153 : decode cX12_track 153 = .ok (.iload_n 3, 1) := by decide +kernel
theorem dX12_track_154 : decode cX12_track 154 = .ok (.imul, 1) := by decide +kernel
theorem dX12_track_155 : decode cX12_track 155 = .ok (.iconst 1, 1) := by decide +kernel
theorem dX12_track_156 : decode cX12_track 156 = .ok (.iadd, 1) := by decide +kernel
theorem dX12_track_157 : decode cX12_track 157 = .ok (.iaload, 1) := by decide +kernel
theorem dX12_track_158 : decode cX12_track 158 = .ok (.iadd, 1) := by decide +kernel
theorem dX12_track_159 : decode cX12_track 159 = .ok (.iastore, 1) := by decide +kernel
theorem dX12_track_160 : decode cX12_track 160 = .ok (.iinc 3 1, 3) := by decide +kernel
theorem dX12_track_163 : decode cX12_track 163 = .ok (.goto (-55), 3) := by decide +kernel
theorem dX12_track_166 : decode cX12_track 166 = .ok (.aload_n 0, 1) := by decide +kernel
theorem dX12_track_167 : decode cX12_track 167 = .ok (.getfield 213, 3) := by decide +kernel
theorem dX12_track_170 : decode cX12_track 170 = .ok (.ireturn, 1) := by decide +kernel
theorem dX12_walks_0 : decode cX12_walks 0 = .ok (.aload_n 0, 1) := by decide +kernel
theorem dX12_walks_1 : decode cX12_walks 1 = .ok (.iload_n 1, 1) := by decide +kernel
theorem dX12_walks_2 : decode cX12_walks 2 = .ok (.putfield 195, 3) := by decide +kernel
theorem dX12_walks_5 : decode cX12_walks 5 = .ok (.aload_n 0, 1) := by decide +kernel
theorem dX12_walks_6 : decode cX12_walks 6 = .ok (.iload_n 2, 1) := by decide +kernel
theorem dX12_walks_7 : decode cX12_walks 7 = .ok (.putfield 198, 3) := by decide +kernel
theorem dX12_walks_10 : decode cX12_walks 10 = .ok (.aload_n 0, 1) := by decide +kernel
theorem dX12_walks_11 : decode cX12_walks 11 = .ok (.iconst 1, 1) := by decide +kernel
theorem dX12_walks_12 : decode cX12_walks 12 = .ok (.iconst 0, 1) := by decide +kernel
theorem dX12_walks_13 : decode cX12_walks 13 = .ok (.invokevirtual 421, 3) := by decide +kernel
theorem dX12_walks_16 : decode cX12_walks 16 = .ok (.iconst 0, 1) := by decide +kernel
theorem dX12_walks_17 : decode cX12_walks 17 = .ok (.istore_n 3, 1) := by decide +kernel
theorem dX12_walks_18 : decode cX12_walks 18 = .ok (.iload_n 3, 1) := by decide +kernel
theorem dX12_walks_19 : decode cX12_walks 19 = .ok (.bipush 40, 2) := by decide +kernel
theorem dX12_walks_21 : decode cX12_walks 21 = .ok (.if_icmp .gt 63, 3) := by decide +kernel
theorem dX12_walks_24 : decode cX12_walks 24 = .ok (.aload_n 0, 1) := by decide +kernel
theorem dX12_walks_25 : decode cX12_walks 25 = .ok (.getfield 222, 3) := by decide +kernel
theorem dX12_walks_28 : decode cX12_walks 28 = .ok (.bipush 41, 2) := by decide +kernel
theorem dX12_walks_30 : decode cX12_walks 30 = .ok (.iload_n 2, 1) := by decide +kernel
theorem dX12_walks_31 : decode cX12_walks 31 = .ok (.imul, 1) := by decide +kernel
theorem dX12_walks_32 : decode cX12_walks 32 = .ok (.iload_n 3, 1) := by decide +kernel
theorem dX12_walks_33 : decode cX12_walks 33 = .ok (.iadd, 1) := by decide +kernel
theorem dX12_walks_34 : decode cX12_walks 34 = .ok (.aload_n 0, 1) := by decide +kernel
theorem dX12_walks_35 : decode cX12_walks 35 = .ok (.iload_n 3, 1) := by decide +kernel
theorem dX12_walks_36 : decode cX12_walks 36 = .ok (.iconst 0, 1) := by decide +kernel
theorem dX12_walks_37 : decode cX12_walks 37 = .ok (.bipush 40, 2) := by decide +kernel
theorem dX12_walks_39 : decode cX12_walks 39 = .ok (.invokevirtual 497, 3) := by decide +kernel
theorem dX12_walks_42 : decode cX12_walks 42 = .ok (.ifCond .eq 15, 3) := by decide +kernel
theorem dX12_walks_45 : decode cX12_walks 45 = .ok (.aload_n 0, 1) := by decide +kernel
theorem dX12_walks_46 : decode cX12_walks 46 = .ok (.getfield 150, 3) := by decide +kernel
theorem dX12_walks_49 : decode cX12_walks 49 = .ok (.bipush 6, 2) := by decide +kernel
theorem dX12_walks_51 : decode cX12_walks 51 = .ok (.iload_n 1, 1) := by decide +kernel
theorem dX12_walks_52 : decode cX12_walks 52 = .ok (.iadd, 1) := by decide +kernel
theorem dX12_walks_53 : decode cX12_walks 53 = .ok (.iaload, 1) := by decide +kernel
theorem dX12_walks_54 : decode cX12_walks 54 = .ok (.goto 4, 3) := by decide +kernel
theorem dX12_walks_57 : decode cX12_walks 57 = .ok (.iconst (-1), 1) := by decide +kernel
theorem dX12_walks_58 : decode cX12_walks 58 = .ok (.iastore, 1) := by decide +kernel
theorem dX12_walks_59 : decode cX12_walks 59 = .ok (.aload_n 0, 1) := by decide +kernel
theorem dX12_walks_60 : decode cX12_walks 60 = .ok (.iload_n 3, 1) := by decide +kernel
theorem dX12_walks_61 : decode cX12_walks 61 = .ok (.iconst 1, 1) := by decide +kernel
theorem dX12_walks_62 : decode cX12_walks 62 = .ok (.iadd, 1) := by decide +kernel
theorem dX12_walks_63 : decode cX12_walks 63 = .ok (.iconst 0, 1) := by decide +kernel
theorem dX12_walks_64 : decode cX12_walks 64 = .ok (.bipush 40, 2) := by decide +kernel
theorem dX12_walks_66 : decode cX12_walks 66 = .ok (.invokevirtual 497, 3) := by decide +kernel
theorem dX12_walks_69 : decode cX12_walks 69 = .ok (.ifCond .eq 9, 3) := by decide +kernel
theorem dX12_walks_72 : decode cX12_walks 72 = .ok (.aload_n 0, 1) := by decide +kernel
theorem dX12_walks_73 : decode cX12_walks 73 = .ok (.iconst 1, 1) := by decide +kernel
theorem dX12_walks_74 : decode cX12_walks 74 = .ok (.iload_n 3, 1) := by decide +kernel
theorem dX12_walks_75 : decode cX12_walks 75 = .ok (.invokevirtual 500, 3) := by decide +kernel
theorem dX12_walks_78 : decode cX12_walks 78 = .ok (.iinc 3 1, 3) := by decide +kernel
theorem dX12_walks_81 : decode cX12_walks 81 = .ok (.goto (-63), 3) := by decide +kernel
theorem dX12_walks_84 : decode cX12_walks 84 = .ok (.aload_n 0, 1) := by decide +kernel
theorem dX12_walks_85 : decode cX12_walks 85 = .ok (.iconst (-1), 1) := by decide +kernel
theorem dX12_walks_86 : decode cX12_walks 86 = .ok (.putfield 195, 3) := by decide +kernel
theorem dX12_walks_89 : decode cX12_walks 89 = .ok (.return_, 1) := by decide +kernel
theorem dX12_isTrack_0 : decode cX12_isTrack 0 = .ok (.iconst 0, 1) := by decide +kernel
theorem dX12_isTrack_1 : decode cX12_isTrack 1 = .ok (.istore_n 2, 1) := by decide +kernel
theorem dX12_isTrack_2 : decode cX12_isTrack 2 = .ok (.iload_n 2, 1) := by decide +kernel
theorem dX12_isTrack_3 : decode cX12_isTrack 3 = .ok (.aload_n 0, 1) := by decide +kernel
theorem dX12_isTrack_4 : decode cX12_isTrack 4 = .ok (.getfield 213, 3) := by decide +kernel
theorem dX12_isTrack_7 : decode cX12_isTrack 7 = .ok (.if_icmp .ge 36, 3) := by decide +kernel
theorem dX12_isTrack_10 : decode cX12_isTrack 10 = .ok (.aload_n 0, 1) := by decide +kernel
theorem dX12_isTrack_11 : decode cX12_isTrack 11 = .ok (.getfield 222, 3) := by decide +kernel
theorem dX12_isTrack_14 : decode cX12_isTrack 14 = .ok (.bipush 41, 2) := by decide +kernel
theorem dX12_isTrack_16 : decode cX12_isTrack 16 = .ok (.iload_n 1, 1) := by decide +kernel
theorem dX12_isTrack_17 : decode cX12_isTrack 17 = .ok (.imul, 1) := by decide +kernel
theorem dX12_isTrack_18 : decode cX12_isTrack 18 = .ok (.aload_n 0, 1) := by decide +kernel
theorem dX12_isTrack_19 : decode cX12_isTrack 19 = .ok (.getfield 216, 3) := by decide +kernel
theorem dX12_isTrack_22 : decode cX12_isTrack 22 = .ok (.iload_n 2, 1) := by decide +kernel
theorem dX12_isTrack_23 : decode cX12_isTrack 23 = .ok (.iaload, 1) := by decide +kernel
theorem dX12_isTrack_24 : decode cX12_isTrack 24 = .ok (.iadd, 1) := by decide +kernel
theorem dX12_isTrack_25 : decode cX12_isTrack 25 = .ok (.iaload, 1) := by decide +kernel
theorem dX12_isTrack_26 : decode cX12_isTrack 26 = .ok (.aload_n 0, 1) := by decide +kernel
theorem dX12_isTrack_27 : decode cX12_isTrack 27 = .ok (.getfield 219, 3) := by decide +kernel
theorem dX12_isTrack_30 : decode cX12_isTrack 30 = .ok (.iload_n 2, 1) := by decide +kernel
theorem dX12_isTrack_31 : decode cX12_isTrack 31 = .ok (.iaload, 1) := by decide +kernel
theorem dX12_isTrack_32 : decode cX12_isTrack 32 = .ok (.if_icmp .eq 5, 3) := by decide +kernel
theorem dX12_isTrack_35 : decode cX12_isTrack 35 = .ok (.iconst 0, 1) := by decide +kernel
theorem dX12_isTrack_36 : decode cX12_isTrack 36 = .ok (.ireturn, 1) := by decide +kernel
theorem dX12_isTrack_37 : decode cX12_isTrack 37 = .ok (.iinc 2 1, 3) := by decide +kernel
theorem dX12_isTrack_40 : decode cX12_isTrack 40 = .ok (.goto (-38), 3) := by decide +kernel
theorem dX12_isTrack_43 : decode cX12_isTrack 43 = .ok (.iconst 1, 1) := by decide +kernel
theorem dX12_isTrack_44 : decode cX12_isTrack 44 = .ok (.ireturn, 1) := by decide +kernel
theorem dX12_wheel_0 : decode cX12_wheel 0 = .ok (.aload_n 0, 1) := by decide +kernel
theorem dX12_wheel_1 : decode cX12_wheel 1 = .ok (.iload_n 1, 1) := by decide +kernel
theorem dX12_wheel_2 : decode cX12_wheel 2 = .ok (.invokevirtual 492, 3) := by decide +kernel
theorem dX12_wheel_5 : decode cX12_wheel 5 = .ok (.ifCond .eq 12, 3) := by decide +kernel
theorem dX12_wheel_8 : decode cX12_wheel 8 = .ok (.iload_n 2, 1) := by decide +kernel
theorem dX12_wheel_9 : decode cX12_wheel 9 = .ok (.iconst 0, 1) := by decide +kernel
theorem dX12_wheel_10 : decode cX12_wheel 10 = .ok (.iconst 1, 1) := by decide +kernel
theorem dX12_wheel_11 : decode cX12_wheel 11 = .ok (.invokestatic 318, 3) := by decide +kernel
theorem dX12_wheel_14 : decode cX12_wheel 14 = .ok (.ifCond .ne 5, 3) := by decide +kernel
theorem dX12_wheel_17 : decode cX12_wheel 17 = .ok (.iconst (-1), 1) := by decide +kernel
theorem dX12_wheel_18 : decode cX12_wheel 18 = .ok (.ireturn, 1) := by decide +kernel
theorem dX12_wheel_19 : decode cX12_wheel 19 = .ok (.iconst 0, 1) := by decide +kernel
theorem dX12_wheel_20 : decode cX12_wheel 20 = .ok (.istore_n 3, 1) := by decide +kernel
theorem dX12_wheel_21 : decode cX12_wheel 21 = .ok (.iconst 0, 1) := by decide +kernel
theorem dX12_wheel_22 : decode cX12_wheel 22 = .ok (.istore 4, 2) := by decide +kernel
theorem dX12_wheel_24 : decode cX12_wheel 24 = .ok (.iload 4, 2) := by decide +kernel
theorem dX12_wheel_26 : decode cX12_wheel 26 = .ok (.bipush 10, 2) := by decide +kernel
theorem dX12_wheel_28 : decode cX12_wheel 28 = .ok (.if_icmp .ge 36, 3) := by decide +kernel
theorem dX12_wheel_31 : decode cX12_wheel 31 = .ok (.aload_n 0, 1) := by decide +kernel
theorem dX12_wheel_32 : decode cX12_wheel 32 = .ok (.iload_n 1, 1) := by decide +kernel
theorem dX12_wheel_33 : decode cX12_wheel 33 = .ok (.iload 4, 2) := by decide +kernel
theorem dX12_wheel_35 : decode cX12_wheel 35 = .ok (.invokevirtual 510, 3) := by decide +kernel
theorem dX12_wheel_38 : decode cX12_wheel 38 = .ok (.iload_n 3, 1) := by decide +kernel
theorem dX12_wheel_39 : decode cX12_wheel 39 = .ok (.aload_n 0, 1) := by decide +kernel
theorem dX12_wheel_40 : decode cX12_wheel 40 = .ok (.iload 4, 2) := by decide +kernel
theorem dX12_wheel_42 : decode cX12_wheel 42 = .ok (.invokevirtual 513, 3) := by decide +kernel
theorem dX12_wheel_45 : decode cX12_wheel 45 = .ok (.ifCond .eq 10, 3) := by decide +kernel
theorem dX12_wheel_48 : decode cX12_wheel 48 = .ok (.iconst 1, 1) := by decide +kernel
theorem dX12_wheel_49 : decode cX12_wheel 49 = .ok (.iload 4, 2) := by decide +kernel
theorem dX12_wheel_51 : decode cX12_wheel 51 = .ok (.ishl, 1) := by decide +kernel
theorem dX12_wheel_52 : decode cX12_wheel 52 = .ok (.goto 4, 3) := by decide +kernel
theorem dX12_wheel_55 : decode cX12_wheel 55 = .ok (.iconst 0, 1) := by decide +kernel
theorem dX12_wheel_56 : decode cX12_wheel 56 = .ok (.ior, 1) := by decide +kernel
theorem dX12_wheel_57 : decode cX12_wheel 57 = .ok (.istore_n 3, 1) := by decide +kernel
theorem dX12_wheel_58 : decode cX12_wheel 58 = .ok (.iinc 4 1, 3) := by decide +kernel
theorem dX12_wheel_61 : decode cX12_wheel 61 = .ok (.goto (-37), 3) := by decide +kernel
theorem dX12_wheel_64 : decode cX12_wheel 64 = .ok (.iload_n 2, 1) := by decide +kernel
theorem dX12_wheel_65 : decode cX12_wheel 65 = .ok (.ifCond .ne 5, 3) := by decide +kernel
theorem dX12_wheel_68 : decode cX12_wheel 68 = .ok (.iload_n 3, 1) := by decide +kernel
theorem dX12_wheel_69 : decode cX12_wheel 69 = .ok (.ireturn, 1) := by decide +kernel
theorem dX12_wheel_70 : decode cX12_wheel 70 = .ok (.iconst (-1), 1) := by decide +kernel
theorem dX12_wheel_71 : decode cX12_wheel 71 = .ok (.istore 4, 2) := by decide +kernel
theorem dX12_wheel_73 : decode cX12_wheel 73 = .ok (.ldc_w 516, 3) := by decide +kernel
theorem dX12_wheel_76 : decode cX12_wheel 76 = .ok (.istore 5, 2) := by decide +kernel
theorem dX12_wheel_78 : decode cX12_wheel 78 = .ok (.iconst 1, 1) := by decide +kernel
theorem dX12_wheel_79 : decode cX12_wheel 79 = .ok (.istore 6, 2) := by decide +kernel
theorem dX12_wheel_81 : decode cX12_wheel 81 = .ok (.aload_n 0, 1) := by decide +kernel
theorem dX12_wheel_82 : decode cX12_wheel 82 = .ok (.iload 6, 2) := by decide +kernel
theorem dX12_wheel_84 : decode cX12_wheel 84 = .ok (.iconst 1, 1) := by decide +kernel
theorem dX12_wheel_85 : decode cX12_wheel 85 = .ok (.bipush 40, 2) := by decide +kernel
theorem dX12_wheel_87 : decode cX12_wheel 87 = .ok (.invokevirtual 497, 3) := by decide +kernel
theorem dX12_wheel_90 : decode cX12_wheel 90 = .ok (.ifCond .eq 144, 3) := by decide +kernel
theorem dX12_wheel_93 : decode cX12_wheel 93 = .ok (.iload_n 3, 1) := by decide +kernel
theorem dX12_wheel_94 : decode cX12_wheel 94 = .ok (.ifCond .eq 140, 3) := by decide +kernel
theorem dX12_wheel_97 : decode cX12_wheel 97 = .ok (.iconst 0, 1) := by decide +kernel
theorem dX12_wheel_98 : decode cX12_wheel 98 = .ok (.istore 7, 2) := by decide +kernel
theorem dX12_wheel_100 : decode cX12_wheel 100 = .ok (.iconst 0, 1) := by decide +kernel
theorem dX12_wheel_101 : decode cX12_wheel 101 = .ok (.istore 8, 2) := by decide +kernel
theorem dX12_wheel_103 : decode cX12_wheel 103 = .ok (.iload 8, 2) := by decide +kernel
theorem dX12_wheel_105 : decode cX12_wheel 105 = .ok (.bipush 10, 2) := by decide +kernel
theorem dX12_wheel_107 : decode cX12_wheel 107 = .ok (.if_icmp .ge 103, 3) := by decide +kernel
theorem dX12_wheel_110 : decode cX12_wheel 110 = .ok (.iconst 0, 1) := by decide +kernel
theorem dX12_wheel_111 : decode cX12_wheel 111 = .ok (.istore 9, 2) := by decide +kernel
theorem dX12_wheel_113 : decode cX12_wheel 113 = .ok (.iconst 0, 1) := by decide +kernel
theorem dX12_wheel_114 : decode cX12_wheel 114 = .ok (.istore 10, 2) := by decide +kernel
theorem dX12_wheel_116 : decode cX12_wheel 116 = .ok (.iload 10, 2) := by decide +kernel
theorem dX12_wheel_118 : decode cX12_wheel 118 = .ok (.bipush 10, 2) := by decide +kernel
theorem dX12_wheel_120 : decode cX12_wheel 120 = .ok (.if_icmp .ge 68, 3) := by decide +kernel
theorem dX12_wheel_123 : decode cX12_wheel 123 = .ok (.iload 9, 2) := by decide +kernel
theorem dX12_wheel_125 : decode cX12_wheel 125 = .ok (.iload_n 3, 1) := by decide +kernel
theorem dX12_wheel_126 : decode cX12_wheel 126 = .ok (.iload 8, 2) := by decide +kernel
theorem dX12_wheel_128 : decode cX12_wheel 128 = .ok (.ishr, 1) := by decide +kernel
theorem dX12_wheel_129 : decode cX12_wheel 129 = .ok (.iconst 1, 1) := by decide +kernel
theorem dX12_wheel_130 : decode cX12_wheel 130 = .ok (.iand, 1) := by decide +kernel
theorem dX12_wheel_131 : decode cX12_wheel 131 = .ok (.iconst 1, 1) := by decide +kernel
theorem dX12_wheel_132 : decode cX12_wheel 132 = .ok (.if_icmp .ne 46, 3) := by decide +kernel
theorem dX12_wheel_135 : decode cX12_wheel 135 = .ok (.iload_n 3, 1) := by decide +kernel
theorem dX12_wheel_136 : decode cX12_wheel 136 = .ok (.iload 10, 2) := by decide +kernel
theorem dX12_wheel_138 : decode cX12_wheel 138 = .ok (.ishr, 1) := by decide +kernel
theorem dX12_wheel_139 : decode cX12_wheel 139 = .ok (.iconst 1, 1) := by decide +kernel
theorem dX12_wheel_140 : decode cX12_wheel 140 = .ok (.iand, 1) := by decide +kernel
theorem dX12_wheel_141 : decode cX12_wheel 141 = .ok (.iconst 1, 1) := by decide +kernel
theorem dX12_wheel_142 : decode cX12_wheel 142 = .ok (.if_icmp .ne 36, 3) := by decide +kernel
theorem dX12_wheel_145 : decode cX12_wheel 145 = .ok (.aload_n 0, 1) := by decide +kernel
theorem dX12_wheel_146 : decode cX12_wheel 146 = .ok (.getfield 222, 3) := by decide +kernel
theorem dX12_wheel_149 : decode cX12_wheel 149 = .ok (.bipush 41, 2) := by decide +kernel
theorem dX12_wheel_151 : decode cX12_wheel 151 = .ok (.iload 8, 2) := by decide +kernel
theorem dX12_wheel_153 : decode cX12_wheel 153 = .ok (.imul, 1) := by decide +kernel
theorem dX12_wheel_154 : decode cX12_wheel 154 = .ok (.iload 6, 2) := by decide +kernel
theorem dX12_wheel_156 : decode cX12_wheel 156 = .ok (.iadd, 1) := by decide +kernel
theorem dX12_wheel_157 : decode cX12_wheel 157 = .ok (.iaload, 1) := by decide +kernel
theorem dX12_wheel_158 : decode cX12_wheel 158 = .ok (.aload_n 0, 1) := by decide +kernel
theorem dX12_wheel_159 : decode cX12_wheel 159 = .ok (.getfield 222, 3) := by decide +kernel
theorem dX12_wheel_162 : decode cX12_wheel 162 = .ok (.bipush 41, 2) := by decide +kernel
theorem dX12_wheel_164 : decode cX12_wheel 164 = .ok (.iload 10, 2) := by decide +kernel
theorem dX12_wheel_166 : decode cX12_wheel 166 = .ok (.imul, 1) := by decide +kernel
theorem dX12_wheel_167 : decode cX12_wheel 167 = .ok (.iload 6, 2) := by decide +kernel
theorem dX12_wheel_169 : decode cX12_wheel 169 = .ok (.iadd, 1) := by decide +kernel
theorem dX12_wheel_170 : decode cX12_wheel 170 = .ok (.iaload, 1) := by decide +kernel
theorem dX12_wheel_171 : decode cX12_wheel 171 = .ok (.if_icmp .ne 7, 3) := by decide +kernel
theorem dX12_wheel_174 : decode cX12_wheel 174 = .ok (.iconst 1, 1) := by decide +kernel
theorem dX12_wheel_175 : decode cX12_wheel 175 = .ok (.goto 4, 3) := by decide +kernel
theorem dX12_wheel_178 : decode cX12_wheel 178 = .ok (.iconst 0, 1) := by decide +kernel
theorem dX12_wheel_179 : decode cX12_wheel 179 = .ok (.iadd, 1) := by decide +kernel
theorem dX12_wheel_180 : decode cX12_wheel 180 = .ok (.istore 9, 2) := by decide +kernel
theorem dX12_wheel_182 : decode cX12_wheel 182 = .ok (.iinc 10 1, 3) := by decide +kernel
theorem dX12_wheel_185 : decode cX12_wheel 185 = .ok (.goto (-69), 3) := by decide +kernel
theorem dX12_wheel_188 : decode cX12_wheel 188 = .ok (.iload 9, 2) := by decide +kernel
theorem dX12_wheel_190 : decode cX12_wheel 190 = .ok (.iload 7, 2) := by decide +kernel
theorem dX12_wheel_192 : decode cX12_wheel 192 = .ok (.if_icmp .le 8, 3) := by decide +kernel
theorem dX12_wheel_195 : decode cX12_wheel 195 = .ok (.iload 9, 2) := by decide +kernel
theorem dX12_wheel_197 : decode cX12_wheel 197 = .ok (.goto 5, 3) := by decide +kernel
theorem dX12_wheel_200 : decode cX12_wheel 200 = .ok (.iload 7, 2) := by decide +kernel
theorem dX12_wheel_202 : decode cX12_wheel 202 = .ok (.istore 7, 2) := by decide +kernel
theorem dX12_wheel_204 : decode cX12_wheel 204 = .ok (.iinc 8 1, 3) := by decide +kernel
theorem dX12_wheel_207 : decode cX12_wheel 207 = .ok (.goto (-104), 3) := by decide +kernel
theorem dX12_wheel_210 : decode cX12_wheel 210 = .ok (.iload 7, 2) := by decide +kernel
theorem dX12_wheel_212 : decode cX12_wheel 212 = .ok (.iload 5, 2) := by decide +kernel
theorem dX12_wheel_214 : decode cX12_wheel 214 = .ok (.if_icmp .lt 6, 3) := by decide +kernel
theorem dX12_wheel_217 : decode cX12_wheel 217 = .ok (.goto 11, 3) := by decide +kernel
theorem dX12_wheel_220 : decode cX12_wheel 220 = .ok (.iload 7, 2) := by decide +kernel
theorem dX12_wheel_222 : decode cX12_wheel 222 = .ok (.istore 5, 2) := by decide +kernel
theorem dX12_wheel_224 : decode cX12_wheel 224 = .ok (.iload 6, 2) := by decide +kernel
theorem dX12_wheel_226 : decode cX12_wheel 226 = .ok (.istore 4, 2) := by decide +kernel
theorem dX12_wheel_228 : decode cX12_wheel 228 = .ok (.iinc 6 1, 3) := by decide +kernel
theorem dX12_wheel_231 : decode cX12_wheel 231 = .ok (.goto (-150), 3) := by decide +kernel
theorem dX12_wheel_234 : decode cX12_wheel 234 = .ok (.iload 4, 2) := by decide +kernel
theorem dX12_wheel_236 : decode cX12_wheel 236 = .ok (.ireturn, 1) := by decide +kernel
theorem dX12_steps_0 : decode cX12_steps 0 = .ok (.aload_n 0, 1) := by decide +kernel
theorem dX12_steps_1 : decode cX12_steps 1 = .ok (.iload_n 1, 1) := by decide +kernel
theorem dX12_steps_2 : decode cX12_steps 2 = .ok (.iconst 1, 1) := by decide +kernel
theorem dX12_steps_3 : decode cX12_steps 3 = .ok (.bipush 100, 2) := by decide +kernel
theorem dX12_steps_5 : decode cX12_steps 5 = .ok (.invokevirtual 497, 3) := by decide +kernel
theorem dX12_steps_8 : decode cX12_steps 8 = .ok (.ifCond .ne 9, 3) := by decide +kernel
theorem dX12_steps_11 : decode cX12_steps 11 = .ok (.aload_n 0, 1) := by decide +kernel
theorem dX12_steps_12 : decode cX12_steps 12 = .ok (.iconst 2, 1) := by decide +kernel
theorem dX12_steps_13 : decode cX12_steps 13 = .ok (.invokevirtual 235, 3) := by decide +kernel
theorem dX12_steps_16 : decode cX12_steps 16 = .ok (.ireturn, 1) := by decide +kernel
theorem dX12_steps_17 : decode cX12_steps 17 = .ok (.aload_n 0, 1) := by decide +kernel
theorem dX12_steps_18 : decode cX12_steps 18 = .ok (.invokevirtual 517, 3) := by decide +kernel
theorem dX12_steps_21 : decode cX12_steps 21 = .ok (.iconst 0, 1) := by decide +kernel
theorem dX12_steps_22 : decode cX12_steps 22 = .ok (.istore_n 2, 1) := by decide +kernel
theorem dX12_steps_23 : decode cX12_steps 23 = .ok (.iconst 0, 1) := by decide +kernel
theorem dX12_steps_24 : decode cX12_steps 24 = .ok (.istore_n 3, 1) := by decide +kernel
theorem dX12_steps_25 : decode cX12_steps 25 = .ok (.iload_n 3, 1) := by decide +kernel
theorem dX12_steps_26 : decode cX12_steps 26 = .ok (.iload_n 1, 1) := by decide +kernel
theorem dX12_steps_27 : decode cX12_steps 27 = .ok (.if_icmp .ge 25, 3) := by decide +kernel
theorem dX12_steps_30 : decode cX12_steps 30 = .ok (.aload_n 0, 1) := by decide +kernel
theorem dX12_steps_31 : decode cX12_steps 31 = .ok (.iconst 0, 1) := by decide +kernel
theorem dX12_steps_32 : decode cX12_steps 32 = .ok (.iload_n 3, 1) := by decide +kernel
theorem dX12_steps_33 : decode cX12_steps 33 = .ok (.invokevirtual 500, 3) := by decide +kernel
theorem dX12_steps_36 : decode cX12_steps 36 = .ok (.iload_n 2, 1) := by decide +kernel
theorem dX12_steps_37 : decode cX12_steps 37 = .ok (.aload_n 0, 1) := by decide +kernel
theorem dX12_steps_38 : decode cX12_steps 38 = .ok (.getfield 204, 3) := by decide +kernel
theorem dX12_steps_41 : decode cX12_steps 41 = .ok (.invokestatic 520, 3) := by decide +kernel
theorem dX12_steps_44 : decode cX12_steps 44 = .ok (.iadd, 1) := by decide +kernel
theorem dX12_steps_45 : decode cX12_steps 45 = .ok (.istore_n 2, 1) := by decide +kernel
theorem dX12_steps_46 : decode cX12_steps 46 = .ok (.iinc 3 1, 3) := by decide +kernel
theorem dX12_steps_49 : decode cX12_steps 49 = .ok (.goto (-24), 3) := by decide +kernel
theorem dX12_steps_52 : decode cX12_steps 52 = .ok (.iload_n 2, 1) := by decide +kernel
theorem dX12_steps_53 : decode cX12_steps 53 = .ok (.ireturn, 1) := by decide +kernel
theorem dX12_draw_0 : decode cX12_draw 0 = .ok (.aload_n 0, 1) := by decide +kernel
theorem dX12_draw_1 : decode cX12_draw 1 = .ok (.ldc2_w 523, 3) := by decide +kernel
theorem dX12_draw_4 : decode cX12_draw 4 = .ok (.aload_n 0, 1) := by decide +kernel
theorem dX12_draw_5 : decode cX12_draw 5 = .ok (.getfield 177, 3) := by decide +kernel
theorem dX12_draw_8 : decode cX12_draw 8 = .ok (.lmul, 1) := by decide +kernel
theorem dX12_draw_9 : decode cX12_draw 9 = .ok (.ldc2_w 525, 3) := by decide +kernel
theorem dX12_draw_12 : decode cX12_draw 12 = .ok (.ladd, 1) := by decide +kernel
theorem dX12_draw_13 : decode cX12_draw 13 = .ok (.ldc2_w 527, 3) := by decide +kernel
theorem dX12_draw_16 : decode cX12_draw 16 = .ok (.lrem, 1) := by decide +kernel
theorem dX12_draw_17 : decode cX12_draw 17 = .ok (.putfield 177, 3) := by decide +kernel
theorem dX12_draw_20 : decode cX12_draw 20 = .ok (.aload_n 0, 1) := by decide +kernel
theorem dX12_draw_21 : decode cX12_draw 21 = .ok (.getfield 177, 3) := by decide +kernel
theorem dX12_draw_24 : decode cX12_draw 24 = .ok (.ldc2_w 529, 3) := by decide +kernel
theorem dX12_draw_27 : decode cX12_draw 27 = .ok (.ldiv, 1) := by decide +kernel
theorem dX12_draw_28 : decode cX12_draw 28 = .ok (.iload_n 1, 1) := by decide +kernel
theorem dX12_draw_29 : decode cX12_draw 29 = .ok (.i2l, 1) := by decide +kernel
theorem dX12_draw_30 : decode cX12_draw 30 = .ok (.lrem, 1) := by decide +kernel
theorem dX12_draw_31 : decode cX12_draw 31 = .ok (.l2i, 1) := by decide +kernel
theorem dX12_draw_32 : decode cX12_draw 32 = .ok (.ireturn, 1) := by decide +kernel
theorem dX12_chance_0 : decode cX12_chance 0 = .ok (.aload_n 0, 1) := by decide +kernel
theorem dX12_chance_1 : decode cX12_chance 1 = .ok (.iload_n 1, 1) := by decide +kernel
theorem dX12_chance_2 : decode cX12_chance 2 = .ok (.iconst 1, 1) := by decide +kernel
theorem dX12_chance_3 : decode cX12_chance 3 = .ok (.bipush 100, 2) := by decide +kernel
theorem dX12_chance_5 : decode cX12_chance 5 = .ok (.invokevirtual 497, 3) := by decide +kernel
theorem dX12_chance_8 : decode cX12_chance 8 = .ok (.ifCond .ne 9, 3) := by decide +kernel
theorem dX12_chance_11 : decode cX12_chance 11 = .ok (.aload_n 0, 1) := by decide +kernel
theorem dX12_chance_12 : decode cX12_chance 12 = .ok (.iconst 2, 1) := by decide +kernel
theorem dX12_chance_13 : decode cX12_chance 13 = .ok (.invokevirtual 235, 3) := by decide +kernel
theorem dX12_chance_16 : decode cX12_chance 16 = .ok (.ireturn, 1) := by decide +kernel
theorem dX12_chance_17 : decode cX12_chance 17 = .ok (.aload_n 0, 1) := by decide +kernel
theorem dX12_chance_18 : decode cX12_chance 18 = .ok (.invokevirtual 517, 3) := by decide +kernel
theorem dX12_chance_21 : decode cX12_chance 21 = .ok (.iconst 0, 1) := by decide +kernel
theorem dX12_chance_22 : decode cX12_chance 22 = .ok (.istore_n 2, 1) := by decide +kernel
theorem dX12_chance_23 : decode cX12_chance 23 = .ok (.iconst 0, 1) := by decide +kernel
theorem dX12_chance_24 : decode cX12_chance 24 = .ok (.istore_n 3, 1) := by decide +kernel
theorem dX12_chance_25 : decode cX12_chance 25 = .ok (.iload_n 3, 1) := by decide +kernel
theorem dX12_chance_26 : decode cX12_chance 26 = .ok (.iload_n 1, 1) := by decide +kernel
theorem dX12_chance_27 : decode cX12_chance 27 = .ok (.if_icmp .ge 77, 3) := by decide +kernel
theorem dX12_chance_30 : decode cX12_chance 30 = .ok (.aload_n 0, 1) := by decide +kernel
theorem dX12_chance_31 : decode cX12_chance 31 = .ok (.bipush 100, 2) := by decide +kernel
theorem dX12_chance_33 : decode cX12_chance 33 = .ok (.invokevirtual 531, 3) := by decide +kernel
theorem dX12_chance_36 : decode cX12_chance 36 = .ok (.aload_n 0, 1) := by decide +kernel
theorem dX12_chance_37 : decode cX12_chance 37 = .ok (.iconst 2, 1) := by decide +kernel
theorem dX12_chance_38 : decode cX12_chance 38 = .ok (.invokevirtual 415, 3) := by decide +kernel
theorem dX12_chance_41 : decode cX12_chance 41 = .ok (.if_icmp .ge 51, 3) := by decide +kernel
theorem dX12_chance_44 : decode cX12_chance 44 = .ok (.aload_n 0, 1) := by decide +kernel
theorem dX12_chance_45 : decode cX12_chance 45 = .ok (.getfield 63, 3) := by decide +kernel
theorem dX12_chance_48 : decode cX12_chance 48 = .ok (.aload_n 0, 1) := by decide +kernel
theorem dX12_chance_49 : decode cX12_chance 49 = .ok (.getfield 51, 3) := by decide +kernel
theorem dX12_chance_52 : decode cX12_chance 52 = .ok (.iaload, 1) := by decide +kernel
theorem dX12_chance_53 : decode cX12_chance 53 = .ok (.ifCond .le 39, 3) := by decide +kernel
theorem dX12_chance_56 : decode cX12_chance 56 = .ok (.aload_n 0, 1) := by decide +kernel
theorem dX12_chance_57 : decode cX12_chance 57 = .ok (.aload_n 0, 1) := by decide +kernel
theorem dX12_chance_58 : decode cX12_chance 58 = .ok (.getfield 63, 3) := by decide +kernel
theorem dX12_chance_61 : decode cX12_chance 61 = .ok (.aload_n 0, 1) := by decide +kernel
theorem dX12_chance_62 : decode cX12_chance 62 = .ok (.getfield 51, 3) := by decide +kernel
theorem dX12_chance_65 : decode cX12_chance 65 = .ok (.iaload, 1) := by decide +kernel
theorem dX12_chance_66 : decode cX12_chance 66 = .ok (.invokevirtual 531, 3) := by decide +kernel
theorem dX12_chance_69 : decode cX12_chance 69 = .ok (.istore 4, 2) := by decide +kernel
theorem dX12_chance_71 : decode cX12_chance 71 = .ok (.aload_n 0, 1) := by decide +kernel
theorem dX12_chance_72 : decode cX12_chance 72 = .ok (.getfield 153, 3) := by decide +kernel
theorem dX12_chance_75 : decode cX12_chance 75 = .ok (.iload 4, 2) := by decide +kernel
theorem dX12_chance_77 : decode cX12_chance 77 = .ok (.aload_n 0, 1) := by decide +kernel
theorem dX12_chance_78 : decode cX12_chance 78 = .ok (.getfield 153, 3) := by decide +kernel
theorem dX12_chance_81 : decode cX12_chance 81 = .ok (.iload 4, 2) := by decide +kernel
theorem dX12_chance_83 : decode cX12_chance 83 = .ok (.iaload, 1) := by decide +kernel
theorem dX12_chance_84 : decode cX12_chance 84 = .ok (.iconst 2, 1) := by decide +kernel
theorem dX12_chance_85 : decode cX12_chance 85 = .ok (.iadd, 1) := by decide +kernel
theorem dX12_chance_86 : decode cX12_chance 86 = .ok (.iconst 4, 1) := by decide +kernel
theorem dX12_chance_87 : decode cX12_chance 87 = .ok (.irem, 1) := by decide +kernel
theorem dX12_chance_88 : decode cX12_chance 88 = .ok (.iastore, 1) := by decide +kernel
theorem dX12_chance_89 : decode cX12_chance 89 = .ok (.iinc 2 1, 3) := by decide +kernel
theorem dX12_chance_92 : decode cX12_chance 92 = .ok (.aload_n 0, 1) := by decide +kernel
theorem dX12_chance_93 : decode cX12_chance 93 = .ok (.iconst 0, 1) := by decide +kernel
theorem dX12_chance_94 : decode cX12_chance 94 = .ok (.iload_n 3, 1) := by decide +kernel
theorem dX12_chance_95 : decode cX12_chance 95 = .ok (.invokevirtual 500, 3) := by decide +kernel
theorem dX12_chance_98 : decode cX12_chance 98 = .ok (.iinc 3 1, 3) := by decide +kernel
theorem dX12_chance_101 : decode cX12_chance 101 = .ok (.goto (-76), 3) := by decide +kernel
theorem dX12_chance_104 : decode cX12_chance 104 = .ok (.iload_n 2, 1) := by decide +kernel
theorem dX12_chance_105 : decode cX12_chance 105 = .ok (.ireturn, 1) := by decide +kernel
theorem dX12_turn_0 : decode cX12_turn 0 = .ok (.aload_n 0, 1) := by decide +kernel
theorem dX12_turn_1 : decode cX12_turn 1 = .ok (.iload_n 1, 1) := by decide +kernel
theorem dX12_turn_2 : decode cX12_turn 2 = .ok (.invokevirtual 492, 3) := by decide +kernel
theorem dX12_turn_5 : decode cX12_turn 5 = .ok (.ifCond .eq 22, 3) := by decide +kernel
theorem dX12_turn_8 : decode cX12_turn 8 = .ok (.iload_n 2, 1) := by decide +kernel
theorem dX12_turn_9 : decode cX12_turn 9 = .ok (.iconst 0, 1) := by decide +kernel
theorem dX12_turn_10 : decode cX12_turn 10 = .ok (.iconst 3, 1) := by decide +kernel
theorem dX12_turn_11 : decode cX12_turn 11 = .ok (.invokestatic 318, 3) := by decide +kernel
theorem dX12_turn_14 : decode cX12_turn 14 = .ok (.ifCond .eq 13, 3) := by decide +kernel
theorem dX12_turn_17 : decode cX12_turn 17 = .ok (.aload_n 0, 1) := by decide +kernel
theorem dX12_turn_18 : decode cX12_turn 18 = .ok (.getfield 153, 3) := by decide +kernel
theorem dX12_turn_21 : decode cX12_turn 21 = .ok (.iload_n 1, 1) := by decide +kernel
theorem dX12_turn_22 : decode cX12_turn 22 = .ok (.iaload, 1) := by decide +kernel
theorem dX12_turn_23 : decode cX12_turn 23 = .ok (.iload_n 2, 1) := by decide +kernel
theorem dX12_turn_24 : decode cX12_turn 24 = .ok (.if_icmp .ne 17, 3) := by decide +kernel
theorem dX12_turn_27 : decode cX12_turn 27 = .ok (.aload_n 0, 1) := by decide +kernel
theorem dX12_turn_28 : decode cX12_turn 28 = .ok (.iconst 3, 1) := by decide +kernel
theorem dX12_turn_29 : decode cX12_turn 29 = .ok (.invokevirtual 235, 3) := by decide +kernel
theorem dX12_turn_32 : decode cX12_turn 32 = .ok (.ifCond .lt 7, 3) := by decide +kernel
theorem dX12_turn_35 : decode cX12_turn 35 = .ok (.iconst 1, 1) := by decide +kernel
theorem dX12_turn_36 : decode cX12_turn 36 = .ok (.goto 4, 3) := by decide +kernel
theorem dX12_turn_39 : decode cX12_turn 39 = .ok (.iconst 0, 1) := by decide +kernel
theorem dX12_turn_40 : decode cX12_turn 40 = .ok (.ireturn, 1) := by decide +kernel
theorem dX12_turn_41 : decode cX12_turn 41 = .ok (.aload_n 0, 1) := by decide +kernel
theorem dX12_turn_42 : decode cX12_turn 42 = .ok (.invokevirtual 517, 3) := by decide +kernel
theorem dX12_turn_45 : decode cX12_turn 45 = .ok (.aload_n 0, 1) := by decide +kernel
theorem dX12_turn_46 : decode cX12_turn 46 = .ok (.getfield 153, 3) := by decide +kernel
theorem dX12_turn_49 : decode cX12_turn 49 = .ok (.iload_n 1, 1) := by decide +kernel
theorem dX12_turn_50 : decode cX12_turn 50 = .ok (.iload_n 2, 1) := by decide +kernel
theorem dX12_turn_51 : decode cX12_turn 51 = .ok (.iastore, 1) := by decide +kernel
theorem dX12_turn_52 : decode cX12_turn 52 = .ok (.iconst 1, 1) := by decide +kernel
theorem dX12_turn_53 : decode cX12_turn 53 = .ok (.ireturn, 1) := by decide +kernel
theorem dX12_put__0 : decode cX12_put_ 0 = .ok (.aload_n 0, 1) := by decide +kernel
theorem dX12_put__1 : decode cX12_put_ 1 = .ok (.iload_n 1, 1) := by decide +kernel
theorem dX12_put__2 : decode cX12_put_ 2 = .ok (.invokevirtual 492, 3) := by decide +kernel
theorem dX12_put__5 : decode cX12_put_ 5 = .ok (.ifCond .eq 27, 3) := by decide +kernel
theorem dX12_put__8 : decode cX12_put_ 8 = .ok (.aload_n 0, 1) := by decide +kernel
theorem dX12_put__9 : decode cX12_put_ 9 = .ok (.iload_n 2, 1) := by decide +kernel
theorem dX12_put__10 : decode cX12_put_ 10 = .ok (.iload_n 3, 1) := by decide +kernel
theorem dX12_put__11 : decode cX12_put_ 11 = .ok (.invokevirtual 446, 3) := by decide +kernel
theorem dX12_put__14 : decode cX12_put_ 14 = .ok (.ifCond .eq 18, 3) := by decide +kernel
theorem dX12_put__17 : decode cX12_put_ 17 = .ok (.aload_n 0, 1) := by decide +kernel
theorem dX12_put__18 : decode cX12_put_ 18 = .ok (.iconst 0, 1) := by decide +kernel
theorem dX12_put__19 : decode cX12_put_ 19 = .ok (.bipush 9, 2) := by decide +kernel
theorem dX12_put__21 : decode cX12_put_ 21 = .ok (.iload_n 3, 1) := by decide +kernel
theorem dX12_put__22 : decode cX12_put_ 22 = .ok (.imul, 1) := by decide +kernel
theorem dX12_put__23 : decode cX12_put_ 23 = .ok (.iload_n 2, 1) := by decide +kernel
theorem dX12_put__24 : decode cX12_put_ 24 = .ok (.iadd, 1) := by decide +kernel
theorem dX12_put__25 : decode cX12_put_ 25 = .ok (.invokevirtual 477, 3) := by decide +kernel
theorem dX12_put__28 : decode cX12_put_ 28 = .ok (.iconst (-1), 1) := by decide +kernel
theorem dX12_put__29 : decode cX12_put_ 29 = .ok (.if_icmp .eq 17, 3) := by decide +kernel
theorem dX12_put__32 : decode cX12_put_ 32 = .ok (.aload_n 0, 1) := by decide +kernel
theorem dX12_put__33 : decode cX12_put_ 33 = .ok (.iconst 3, 1) := by decide +kernel
theorem dX12_put__34 : decode cX12_put_ 34 = .ok (.invokevirtual 235, 3) := by decide +kernel
theorem dX12_put__37 : decode cX12_put_ 37 = .ok (.ifCond .lt 7, 3) := by decide +kernel
theorem dX12_put__40 : decode cX12_put_ 40 = .ok (.iconst 1, 1) := by decide +kernel
theorem dX12_put__41 : decode cX12_put_ 41 = .ok (.goto 4, 3) := by decide +kernel
theorem dX12_put__44 : decode cX12_put_ 44 = .ok (.iconst 0, 1) := by decide +kernel
theorem dX12_put__45 : decode cX12_put_ 45 = .ok (.ireturn, 1) := by decide +kernel
theorem dX12_put__46 : decode cX12_put_ 46 = .ok (.aload_n 0, 1) := by decide +kernel
theorem dX12_put__47 : decode cX12_put_ 47 = .ok (.invokevirtual 517, 3) := by decide +kernel
theorem dX12_put__50 : decode cX12_put_ 50 = .ok (.aload_n 0, 1) := by decide +kernel
theorem dX12_put__51 : decode cX12_put_ 51 = .ok (.getfield 150, 3) := by decide +kernel
theorem dX12_put__54 : decode cX12_put_ 54 = .ok (.iload_n 1, 1) := by decide +kernel
theorem dX12_put__55 : decode cX12_put_ 55 = .ok (.bipush 9, 2) := by decide +kernel
theorem dX12_put__57 : decode cX12_put_ 57 = .ok (.iload_n 3, 1) := by decide +kernel
theorem dX12_put__58 : decode cX12_put_ 58 = .ok (.imul, 1) := by decide +kernel
theorem dX12_put__59 : decode cX12_put_ 59 = .ok (.iload_n 2, 1) := by decide +kernel
theorem dX12_put__60 : decode cX12_put_ 60 = .ok (.iadd, 1) := by decide +kernel
theorem dX12_put__61 : decode cX12_put_ 61 = .ok (.iastore, 1) := by decide +kernel
theorem dX12_put__62 : decode cX12_put_ 62 = .ok (.iconst 1, 1) := by decide +kernel
theorem dX12_put__63 : decode cX12_put_ 63 = .ok (.ireturn, 1) := by decide +kernel
theorem dX12_shine_0 : decode cX12_shine 0 = .ok (.iload_n 1, 1) := by decide +kernel
theorem dX12_shine_1 : decode cX12_shine 1 = .ok (.iconst 0, 1) := by decide +kernel
theorem dX12_shine_2 : decode cX12_shine 2 = .ok (.bipush 9, 2) := by decide +kernel
theorem dX12_shine_4 : decode cX12_shine 4 = .ok (.invokestatic 318, 3) := by decide +kernel
theorem dX12_shine_7 : decode cX12_shine 7 = .ok (.ifCond .eq 13, 3) := by decide +kernel
theorem dX12_shine_10 : decode cX12_shine 10 = .ok (.aload_n 0, 1) := by decide +kernel
theorem dX12_shine_11 : decode cX12_shine 11 = .ok (.getfield 147, 3) := by decide +kernel
theorem dX12_shine_14 : decode cX12_shine 14 = .ok (.iconst 0, 1) := by decide +kernel
theorem dX12_shine_15 : decode cX12_shine 15 = .ok (.iaload, 1) := by decide +kernel
theorem dX12_shine_16 : decode cX12_shine 16 = .ok (.iload_n 1, 1) := by decide +kernel
theorem dX12_shine_17 : decode cX12_shine 17 = .ok (.if_icmp .ne 17, 3) := by decide +kernel
theorem dX12_shine_20 : decode cX12_shine 20 = .ok (.aload_n 0, 1) := by decide +kernel
theorem dX12_shine_21 : decode cX12_shine 21 = .ok (.iconst 3, 1) := by decide +kernel
theorem dX12_shine_22 : decode cX12_shine 22 = .ok (.invokevirtual 235, 3) := by decide +kernel
theorem dX12_shine_25 : decode cX12_shine 25 = .ok (.ifCond .lt 7, 3) := by decide +kernel
theorem dX12_shine_28 : decode cX12_shine 28 = .ok (.iconst 1, 1) := by decide +kernel
theorem dX12_shine_29 : decode cX12_shine 29 = .ok (.goto 4, 3) := by decide +kernel
theorem dX12_shine_32 : decode cX12_shine 32 = .ok (.iconst 0, 1) := by decide +kernel
theorem dX12_shine_33 : decode cX12_shine 33 = .ok (.ireturn, 1) := by decide +kernel
theorem dX12_shine_34 : decode cX12_shine 34 = .ok (.aload_n 0, 1) := by decide +kernel
theorem dX12_shine_35 : decode cX12_shine 35 = .ok (.invokevirtual 517, 3) := by decide +kernel
theorem dX12_shine_38 : decode cX12_shine 38 = .ok (.aload_n 0, 1) := by decide +kernel
theorem dX12_shine_39 : decode cX12_shine 39 = .ok (.getfield 147, 3) := by decide +kernel
theorem dX12_shine_42 : decode cX12_shine 42 = .ok (.iconst 0, 1) := by decide +kernel
theorem dX12_shine_43 : decode cX12_shine 43 = .ok (.iload_n 1, 1) := by decide +kernel
theorem dX12_shine_44 : decode cX12_shine 44 = .ok (.iastore, 1) := by decide +kernel
theorem dX12_shine_45 : decode cX12_shine 45 = .ok (.iconst 1, 1) := by decide +kernel
theorem dX12_shine_46 : decode cX12_shine 46 = .ok (.ireturn, 1) := by decide +kernel
theorem dX12_seed_0 : decode cX12_seed 0 = .ok (.iload_n 1, 1) := by decide +kernel
theorem dX12_seed_1 : decode cX12_seed 1 = .ok (.ifCond .ge 17, 3) := by decide +kernel
theorem dX12_seed_4 : decode cX12_seed 4 = .ok (.aload_n 0, 1) := by decide +kernel
theorem dX12_seed_5 : decode cX12_seed 5 = .ok (.iconst 5, 1) := by decide +kernel
theorem dX12_seed_6 : decode cX12_seed 6 = .ok (.invokevirtual 235, 3) := by decide +kernel
theorem dX12_seed_9 : decode cX12_seed 9 = .ok (.ifCond .lt 7, 3) := by decide +kernel
theorem dX12_seed_12 : decode cX12_seed 12 = .ok (.iconst 1, 1) := by decide +kernel
theorem dX12_seed_13 : decode cX12_seed 13 = .ok (.goto 4, 3) := by decide +kernel
theorem dX12_seed_16 : decode cX12_seed 16 = .ok (.iconst 0, 1) := by decide +kernel
theorem dX12_seed_17 : decode cX12_seed 17 = .ok (.ireturn, 1) := by decide +kernel
theorem dX12_seed_18 : decode cX12_seed 18 = .ok (.aload_n 0, 1) := by decide +kernel
theorem dX12_seed_19 : decode cX12_seed 19 = .ok (.iload_n 1, 1) := by decide +kernel
theorem dX12_seed_20 : decode cX12_seed 20 = .ok (.i2l, 1) := by decide +kernel
theorem dX12_seed_21 : decode cX12_seed 21 = .ok (.putfield 177, 3) := by decide +kernel
theorem dX12_seed_24 : decode cX12_seed 24 = .ok (.iconst 1, 1) := by decide +kernel
theorem dX12_seed_25 : decode cX12_seed 25 = .ok (.ireturn, 1) := by decide +kernel
theorem dX12_kept_0 : decode cX12_kept 0 = .ok (.iload_n 1, 1) := by decide +kernel
theorem dX12_kept_1 : decode cX12_kept 1 = .ok (.iconst 0, 1) := by decide +kernel
theorem dX12_kept_2 : decode cX12_kept 2 = .ok (.aload_n 0, 1) := by decide +kernel
theorem dX12_kept_3 : decode cX12_kept 3 = .ok (.getfield 165, 3) := by decide +kernel
theorem dX12_kept_6 : decode cX12_kept 6 = .ok (.iconst 0, 1) := by decide +kernel
theorem dX12_kept_7 : decode cX12_kept 7 = .ok (.iaload, 1) := by decide +kernel
theorem dX12_kept_8 : decode cX12_kept 8 = .ok (.iconst 1, 1) := by decide +kernel
theorem dX12_kept_9 : decode cX12_kept 9 = .ok (.isub, 1) := by decide +kernel
theorem dX12_kept_10 : decode cX12_kept 10 = .ok (.invokestatic 318, 3) := by decide +kernel
theorem dX12_kept_13 : decode cX12_kept 13 = .ok (.ifCond .eq 25, 3) := by decide +kernel
theorem dX12_kept_16 : decode cX12_kept 16 = .ok (.iload_n 2, 1) := by decide +kernel
theorem dX12_kept_17 : decode cX12_kept 17 = .ok (.iconst 0, 1) := by decide +kernel
theorem dX12_kept_18 : decode cX12_kept 18 = .ok (.iconst 3, 1) := by decide +kernel
theorem dX12_kept_19 : decode cX12_kept 19 = .ok (.invokestatic 318, 3) := by decide +kernel
theorem dX12_kept_22 : decode cX12_kept 22 = .ok (.ifCond .eq 16, 3) := by decide +kernel
theorem dX12_kept_25 : decode cX12_kept 25 = .ok (.aload_n 0, 1) := by decide +kernel
theorem dX12_kept_26 : decode cX12_kept 26 = .ok (.getfield 168, 3) := by decide +kernel
theorem dX12_kept_29 : decode cX12_kept 29 = .ok (.iconst 4, 1) := by decide +kernel
theorem dX12_kept_30 : decode cX12_kept 30 = .ok (.iload_n 1, 1) := by decide +kernel
theorem dX12_kept_31 : decode cX12_kept 31 = .ok (.imul, 1) := by decide +kernel
theorem dX12_kept_32 : decode cX12_kept 32 = .ok (.iload_n 2, 1) := by decide +kernel
theorem dX12_kept_33 : decode cX12_kept 33 = .ok (.iadd, 1) := by decide +kernel
theorem dX12_kept_34 : decode cX12_kept 34 = .ok (.iaload, 1) := by decide +kernel
theorem dX12_kept_35 : decode cX12_kept 35 = .ok (.goto 4, 3) := by decide +kernel
theorem dX12_kept_38 : decode cX12_kept 38 = .ok (.iconst (-1), 1) := by decide +kernel
theorem dX12_kept_39 : decode cX12_kept 39 = .ok (.ireturn, 1) := by decide +kernel
theorem dX12_writes_0 : decode cX12_writes 0 = .ok (.aload_n 0, 1) := by decide +kernel
theorem dX12_writes_1 : decode cX12_writes 1 = .ok (.getfield 225, 3) := by decide +kernel
theorem dX12_writes_4 : decode cX12_writes 4 = .ok (.aload_n 0, 1) := by decide +kernel
theorem dX12_writes_5 : decode cX12_writes 5 = .ok (.getfield 228, 3) := by decide +kernel
theorem dX12_writes_8 : decode cX12_writes 8 = .ok (.iload_n 1, 1) := by decide +kernel
theorem dX12_writes_9 : decode cX12_writes 9 = .ok (.sipush 255, 3) := by decide +kernel
theorem dX12_writes_12 : decode cX12_writes 12 = .ok (.iand, 1) := by decide +kernel
theorem dX12_writes_13 : decode cX12_writes 13 = .ok (.iastore, 1) := by decide +kernel
theorem dX12_writes_14 : decode cX12_writes 14 = .ok (.aload_n 0, 1) := by decide +kernel
theorem dX12_writes_15 : decode cX12_writes 15 = .ok (.dup, 1) := by decide +kernel
theorem dX12_writes_16 : decode cX12_writes 16 = .ok (.getfield 228, 3) := by decide +kernel
theorem dX12_writes_19 : decode cX12_writes 19 = .ok (.iconst 1, 1) := by decide +kernel
theorem dX12_writes_20 : decode cX12_writes 20 = .ok (.iadd, 1) := by decide +kernel
theorem dX12_writes_21 : decode cX12_writes 21 = .ok (.putfield 228, 3) := by decide +kernel
theorem dX12_writes_24 : decode cX12_writes 24 = .ok (.return_, 1) := by decide +kernel
theorem dX12_writesTwo_0 : decode cX12_writesTwo 0 = .ok (.aload_n 0, 1) := by decide +kernel
theorem dX12_writesTwo_1 : decode cX12_writesTwo 1 = .ok (.iload_n 1, 1) := by decide +kernel
theorem dX12_writesTwo_2 : decode cX12_writesTwo 2 = .ok (.bipush 8, 2) := by decide +kernel
theorem dX12_writesTwo_4 : decode cX12_writesTwo 4 = .ok (.ishr, 1) := by decide +kernel
theorem dX12_writesTwo_5 : decode cX12_writesTwo 5 = .ok (.invokevirtual 534, 3) := by decide +kernel
theorem dX12_writesTwo_8 : decode cX12_writesTwo 8 = .ok (.aload_n 0, 1) := by decide +kernel
theorem dX12_writesTwo_9 : decode cX12_writesTwo 9 = .ok (.iload_n 1, 1) := by decide +kernel
theorem dX12_writesTwo_10 : decode cX12_writesTwo 10 = .ok (.invokevirtual 534, 3) := by decide +kernel
theorem dX12_writesTwo_13 : decode cX12_writesTwo 13 = .ok (.return_, 1) := by decide +kernel
theorem dX12_image_0 : decode cX12_image 0 = .ok (.aload_n 0, 1) := by decide +kernel
theorem dX12_image_1 : decode cX12_image 1 = .ok (.iconst 0, 1) := by decide +kernel
theorem dX12_image_2 : decode cX12_image 2 = .ok (.putfield 228, 3) := by decide +kernel
theorem dX12_image_5 : decode cX12_image 5 = .ok (.aload_n 0, 1) := by decide +kernel
theorem dX12_image_6 : decode cX12_image 6 = .ok (.aload_n 0, 1) := by decide +kernel
theorem dX12_image_7 : decode cX12_image 7 = .ok (.getfield 144, 3) := by decide +kernel
theorem dX12_image_10 : decode cX12_image 10 = .ok (.iconst 0, 1) := by decide +kernel
theorem dX12_image_11 : decode cX12_image 11 = .ok (.iaload, 1) := by decide +kernel
theorem dX12_image_12 : decode cX12_image 12 = .ok (.invokevirtual 537, 3) := by decide +kernel
theorem dX12_image_15 : decode cX12_image 15 = .ok (.aload_n 0, 1) := by decide +kernel
theorem dX12_image_16 : decode cX12_image 16 = .ok (.aload_n 0, 1) := by decide +kernel
theorem dX12_image_17 : decode cX12_image 17 = .ok (.getfield 147, 3) := by decide +kernel
theorem dX12_image_20 : decode cX12_image 20 = .ok (.iconst 0, 1) := by decide +kernel
theorem dX12_image_21 : decode cX12_image 21 = .ok (.iaload, 1) := by decide +kernel
theorem dX12_image_22 : decode cX12_image 22 = .ok (.invokevirtual 534, 3) := by decide +kernel
theorem dX12_image_25 : decode cX12_image 25 = .ok (.iconst 0, 1) := by decide +kernel
theorem dX12_image_26 : decode cX12_image 26 = .ok (.istore_n 1, 1) := by decide +kernel
theorem dX12_image_27 : decode cX12_image 27 = .ok (.iload_n 1, 1) := by decide +kernel
theorem dX12_image_28 : decode cX12_image 28 = .ok (.aload_n 0, 1) := by decide +kernel
theorem dX12_image_29 : decode cX12_image 29 = .ok (.getfield 63, 3) := by decide +kernel
theorem dX12_image_32 : decode cX12_image 32 = .ok (.aload_n 0, 1) := by decide +kernel
theorem dX12_image_33 : decode cX12_image 33 = .ok (.getfield 51, 3) := by decide +kernel
theorem dX12_image_36 : decode cX12_image 36 = .ok (.iaload, 1) := by decide +kernel
theorem dX12_image_37 : decode cX12_image 37 = .ok (.if_icmp .ge 75, 3) := by decide +kernel
theorem dX12_image_40 : decode cX12_image 40 = .ok (.aload_n 0, 1) := by decide +kernel
theorem dX12_image_41 : decode cX12_image 41 = .ok (.aload_n 0, 1) := by decide +kernel
theorem dX12_image_42 : decode cX12_image 42 = .ok (.getfield 150, 3) := by decide +kernel
theorem dX12_image_45 : decode cX12_image 45 = .ok (.iload_n 1, 1) := by decide +kernel
theorem dX12_image_46 : decode cX12_image 46 = .ok (.iaload, 1) := by decide +kernel
theorem dX12_image_47 : decode cX12_image 47 = .ok (.bipush 9, 2) := by decide +kernel
theorem dX12_image_49 : decode cX12_image 49 = .ok (.irem, 1) := by decide +kernel
theorem dX12_image_50 : decode cX12_image 50 = .ok (.invokevirtual 534, 3) := by decide +kernel
theorem dX12_image_53 : decode cX12_image 53 = .ok (.aload_n 0, 1) := by decide +kernel
theorem dX12_image_54 : decode cX12_image 54 = .ok (.aload_n 0, 1) := by decide +kernel
theorem dX12_image_55 : decode cX12_image 55 = .ok (.getfield 150, 3) := by decide +kernel
theorem dX12_image_58 : decode cX12_image 58 = .ok (.iload_n 1, 1) := by decide +kernel
theorem dX12_image_59 : decode cX12_image 59 = .ok (.iaload, 1) := by decide +kernel
theorem dX12_image_60 : decode cX12_image 60 = .ok (.bipush 9, 2) := by decide +kernel
theorem dX12_image_62 : decode cX12_image 62 = .ok (.idiv, 1) := by decide +kernel
theorem dX12_image_63 : decode cX12_image 63 = .ok (.invokevirtual 534, 3) := by decide +kernel
theorem dX12_image_66 : decode cX12_image 66 = .ok (.aload_n 0, 1) := by decide +kernel
theorem dX12_image_67 : decode cX12_image 67 = .ok (.aload_n 0, 1) := by decide +kernel
theorem dX12_image_68 : decode cX12_image 68 = .ok (.getfield 153, 3) := by decide +kernel
theorem dX12_image_71 : decode cX12_image 71 = .ok (.iload_n 1, 1) := by decide +kernel
theorem dX12_image_72 : decode cX12_image 72 = .ok (.iaload, 1) := by decide +kernel
theorem dX12_image_73 : decode cX12_image 73 = .ok (.invokevirtual 534, 3) := by decide +kernel
theorem dX12_image_76 : decode cX12_image 76 = .ok (.aload_n 0, 1) := by decide +kernel
theorem dX12_image_77 : decode cX12_image 77 = .ok (.aload_n 0, 1) := by decide +kernel
theorem dX12_image_78 : decode cX12_image 78 = .ok (.getfield 156, 3) := by decide +kernel
theorem dX12_image_81 : decode cX12_image 81 = .ok (.iload_n 1, 1) := by decide +kernel
theorem dX12_image_82 : decode cX12_image 82 = .ok (.iaload, 1) := by decide +kernel
theorem dX12_image_83 : decode cX12_image 83 = .ok (.invokevirtual 537, 3) := by decide +kernel
theorem dX12_image_86 : decode cX12_image 86 = .ok (.aload_n 0, 1) := by decide +kernel
theorem dX12_image_87 : decode cX12_image 87 = .ok (.aload_n 0, 1) := by decide +kernel
theorem dX12_image_88 : decode cX12_image 88 = .ok (.getfield 159, 3) := by decide +kernel
theorem dX12_image_91 : decode cX12_image 91 = .ok (.iload_n 1, 1) := by decide +kernel
theorem dX12_image_92 : decode cX12_image 92 = .ok (.iaload, 1) := by decide +kernel
theorem dX12_image_93 : decode cX12_image 93 = .ok (.invokevirtual 534, 3) := by decide +kernel
theorem dX12_image_96 : decode cX12_image 96 = .ok (.aload_n 0, 1) := by decide +kernel
theorem dX12_image_97 : decode cX12_image 97 = .ok (.aload_n 0, 1) := by decide +kernel
theorem dX12_image_98 : decode cX12_image 98 = .ok (.getfield 162, 3) := by decide +kernel
theorem dX12_image_101 : decode cX12_image 101 = .ok (.iload_n 1, 1) := by decide +kernel
theorem dX12_image_102 : decode cX12_image 102 = .ok (.iaload, 1) := by decide +kernel
theorem dX12_image_103 : decode cX12_image 103 = .ok (.invokevirtual 537, 3) := by decide +kernel
theorem dX12_image_106 : decode cX12_image 106 = .ok (.iinc 1 1, 3) := by decide +kernel
theorem dX12_image_109 : decode cX12_image 109 = .ok (.goto (-82), 3) := by decide +kernel
theorem dX12_image_112 : decode cX12_image 112 = .ok (.sipush 179, 3) := by decide +kernel
theorem dX12_image_115 : decode cX12_image 115 = .ok (.istore_n 1, 1) := by decide +kernel
theorem dX12_image_116 : decode cX12_image 116 = .ok (.iconst 0, 1) := by decide +kernel
theorem dX12_image_117 : decode cX12_image 117 = .ok (.istore_n 2, 1) := by decide +kernel
theorem dX12_image_118 : decode cX12_image 118 = .ok (.iload_n 2, 1) := by decide +kernel
theorem dX12_image_119 : decode cX12_image 119 = .ok (.aload_n 0, 1) := by decide +kernel
theorem dX12_image_120 : decode cX12_image 120 = .ok (.getfield 228, 3) := by decide +kernel
theorem dX12_image_123 : decode cX12_image 123 = .ok (.if_icmp .ge 24, 3) := by decide +kernel
theorem dX12_image_126 : decode cX12_image 126 = .ok (.iconst 5, 1) := by decide +kernel
theorem dX12_image_127 : decode cX12_image 127 = .ok (.iload_n 1, 1) := by decide +kernel
theorem dX12_image_128 : decode cX12_image 128 = .ok (.imul, 1) := by decide +kernel
theorem dX12_image_129 : decode cX12_image 129 = .ok (.aload_n 0, 1) := by decide +kernel
theorem dX12_image_130 : decode cX12_image 130 = .ok (.getfield 225, 3) := by decide +kernel
theorem dX12_image_133 : decode cX12_image 133 = .ok (.iload_n 2, 1) := by decide +kernel
theorem dX12_image_134 : decode cX12_image 134 = .ok (.iaload, 1) := by decide +kernel
theorem dX12_image_135 : decode cX12_image 135 = .ok (.iadd, 1) := by decide +kernel
theorem dX12_image_136 : decode cX12_image 136 = .ok (.sipush 251, 3) := by decide +kernel
theorem dX12_image_139 : decode cX12_image 139 = .ok (.irem, 1) := by decide +kernel
theorem dX12_image_140 : decode cX12_image 140 = .ok (.istore_n 1, 1) := by decide +kernel
theorem dX12_image_141 : decode cX12_image 141 = .ok (.iinc 2 1, 3) := by decide +kernel
theorem dX12_image_144 : decode cX12_image 144 = .ok (.goto (-26), 3) := by decide +kernel
theorem dX12_image_147 : decode cX12_image 147 = .ok (.aload_n 0, 1) := by decide +kernel
theorem dX12_image_148 : decode cX12_image 148 = .ok (.iload_n 1, 1) := by decide +kernel
theorem dX12_image_149 : decode cX12_image 149 = .ok (.invokevirtual 534, 3) := by decide +kernel
theorem dX12_image_152 : decode cX12_image 152 = .ok (.aload_n 0, 1) := by decide +kernel
theorem dX12_image_153 : decode cX12_image 153 = .ok (.getfield 228, 3) := by decide +kernel
theorem dX12_image_156 : decode cX12_image 156 = .ok (.ireturn, 1) := by decide +kernel
theorem dX12_octet_0 : decode cX12_octet 0 = .ok (.iload_n 1, 1) := by decide +kernel
theorem dX12_octet_1 : decode cX12_octet 1 = .ok (.iconst 0, 1) := by decide +kernel
theorem dX12_octet_2 : decode cX12_octet 2 = .ok (.aload_n 0, 1) := by decide +kernel
theorem dX12_octet_3 : decode cX12_octet 3 = .ok (.getfield 228, 3) := by decide +kernel
theorem dX12_octet_6 : decode cX12_octet 6 = .ok (.iconst 1, 1) := by decide +kernel
theorem dX12_octet_7 : decode cX12_octet 7 = .ok (.isub, 1) := by decide +kernel
theorem dX12_octet_8 : decode cX12_octet 8 = .ok (.invokestatic 318, 3) := by decide +kernel
theorem dX12_octet_11 : decode cX12_octet 11 = .ok (.ifCond .eq 12, 3) := by decide +kernel
theorem dX12_octet_14 : decode cX12_octet 14 = .ok (.aload_n 0, 1) := by decide +kernel
theorem dX12_octet_15 : decode cX12_octet 15 = .ok (.getfield 225, 3) := by decide +kernel
theorem dX12_octet_18 : decode cX12_octet 18 = .ok (.iload_n 1, 1) := by decide +kernel
theorem dX12_octet_19 : decode cX12_octet 19 = .ok (.iaload, 1) := by decide +kernel
theorem dX12_octet_20 : decode cX12_octet 20 = .ok (.goto 4, 3) := by decide +kernel
theorem dX12_octet_23 : decode cX12_octet 23 = .ok (.iconst (-1), 1) := by decide +kernel
theorem dX12_octet_24 : decode cX12_octet 24 = .ok (.ireturn, 1) := by decide +kernel
theorem dX12_twoBytes_0 : decode cX12_twoBytes 0 = .ok (.aload_n 0, 1) := by decide +kernel
theorem dX12_twoBytes_1 : decode cX12_twoBytes 1 = .ok (.getfield 7, 3) := by decide +kernel
theorem dX12_twoBytes_4 : decode cX12_twoBytes 4 = .ok (.iload_n 1, 1) := by decide +kernel
theorem dX12_twoBytes_5 : decode cX12_twoBytes 5 = .ok (.iaload, 1) := by decide +kernel
theorem dX12_twoBytes_6 : decode cX12_twoBytes 6 = .ok (.bipush 8, 2) := by decide +kernel
theorem dX12_twoBytes_8 : decode cX12_twoBytes 8 = .ok (.ishl, 1) := by decide +kernel
theorem dX12_twoBytes_9 : decode cX12_twoBytes 9 = .ok (.aload_n 0, 1) := by decide +kernel
theorem dX12_twoBytes_10 : decode cX12_twoBytes 10 = .ok (.getfield 7, 3) := by decide +kernel
theorem dX12_twoBytes_13 : decode cX12_twoBytes 13 = .ok (.iload_n 1, 1) := by decide +kernel
theorem dX12_twoBytes_14 : decode cX12_twoBytes 14 = .ok (.iconst 1, 1) := by decide +kernel
theorem dX12_twoBytes_15 : decode cX12_twoBytes 15 = .ok (.iadd, 1) := by decide +kernel
theorem dX12_twoBytes_16 : decode cX12_twoBytes 16 = .ok (.iaload, 1) := by decide +kernel
theorem dX12_twoBytes_17 : decode cX12_twoBytes 17 = .ok (.ior, 1) := by decide +kernel
theorem dX12_twoBytes_18 : decode cX12_twoBytes 18 = .ok (.ireturn, 1) := by decide +kernel
theorem dX12_boxOn_0 : decode cX12_boxOn 0 = .ok (.bipush 6, 2) := by decide +kernel
theorem dX12_boxOn_2 : decode cX12_boxOn 2 = .ok (.iload_n 1, 1) := by decide +kernel
theorem dX12_boxOn_3 : decode cX12_boxOn 3 = .ok (.iadd, 1) := by decide +kernel
theorem dX12_boxOn_4 : decode cX12_boxOn 4 = .ok (.istore_n 3, 1) := by decide +kernel
theorem dX12_boxOn_5 : decode cX12_boxOn 5 = .ok (.aload_n 0, 1) := by decide +kernel
theorem dX12_boxOn_6 : decode cX12_boxOn 6 = .ok (.aload_n 0, 1) := by decide +kernel
theorem dX12_boxOn_7 : decode cX12_boxOn 7 = .ok (.getfield 7, 3) := by decide +kernel
theorem dX12_boxOn_10 : decode cX12_boxOn 10 = .ok (.iload_n 2, 1) := by decide +kernel
theorem dX12_boxOn_11 : decode cX12_boxOn 11 = .ok (.iaload, 1) := by decide +kernel
theorem dX12_boxOn_12 : decode cX12_boxOn 12 = .ok (.aload_n 0, 1) := by decide +kernel
theorem dX12_boxOn_13 : decode cX12_boxOn 13 = .ok (.getfield 7, 3) := by decide +kernel
theorem dX12_boxOn_16 : decode cX12_boxOn 16 = .ok (.iload_n 2, 1) := by decide +kernel
theorem dX12_boxOn_17 : decode cX12_boxOn 17 = .ok (.iconst 1, 1) := by decide +kernel
theorem dX12_boxOn_18 : decode cX12_boxOn 18 = .ok (.iadd, 1) := by decide +kernel
theorem dX12_boxOn_19 : decode cX12_boxOn 19 = .ok (.iaload, 1) := by decide +kernel
theorem dX12_boxOn_20 : decode cX12_boxOn 20 = .ok (.invokevirtual 446, 3) := by decide +kernel
theorem dX12_boxOn_23 : decode cX12_boxOn 23 = .ok (.ifCond .ne 5, 3) := by decide +kernel
theorem dX12_boxOn_26 : decode cX12_boxOn 26 = .ok (.iconst 0, 1) := by decide +kernel
theorem dX12_boxOn_27 : decode cX12_boxOn 27 = .ok (.ireturn, 1) := by decide +kernel
theorem dX12_boxOn_28 : decode cX12_boxOn 28 = .ok (.aload_n 0, 1) := by decide +kernel
theorem dX12_boxOn_29 : decode cX12_boxOn 29 = .ok (.getfield 150, 3) := by decide +kernel
theorem dX12_boxOn_32 : decode cX12_boxOn 32 = .ok (.iload_n 3, 1) := by decide +kernel
theorem dX12_boxOn_33 : decode cX12_boxOn 33 = .ok (.bipush 9, 2) := by decide +kernel
theorem dX12_boxOn_35 : decode cX12_boxOn 35 = .ok (.aload_n 0, 1) := by decide +kernel
theorem dX12_boxOn_36 : decode cX12_boxOn 36 = .ok (.getfield 7, 3) := by decide +kernel
theorem dX12_boxOn_39 : decode cX12_boxOn 39 = .ok (.iload_n 2, 1) := by decide +kernel
theorem dX12_boxOn_40 : decode cX12_boxOn 40 = .ok (.iconst 1, 1) := by decide +kernel
theorem dX12_boxOn_41 : decode cX12_boxOn 41 = .ok (.iadd, 1) := by decide +kernel
theorem dX12_boxOn_42 : decode cX12_boxOn 42 = .ok (.iaload, 1) := by decide +kernel
theorem dX12_boxOn_43 : decode cX12_boxOn 43 = .ok (.imul, 1) := by decide +kernel
theorem dX12_boxOn_44 : decode cX12_boxOn 44 = .ok (.aload_n 0, 1) := by decide +kernel
theorem dX12_boxOn_45 : decode cX12_boxOn 45 = .ok (.getfield 7, 3) := by decide +kernel
theorem dX12_boxOn_48 : decode cX12_boxOn 48 = .ok (.iload_n 2, 1) := by decide +kernel
theorem dX12_boxOn_49 : decode cX12_boxOn 49 = .ok (.iaload, 1) := by decide +kernel
theorem dX12_boxOn_50 : decode cX12_boxOn 50 = .ok (.iadd, 1) := by decide +kernel
theorem dX12_boxOn_51 : decode cX12_boxOn 51 = .ok (.iastore, 1) := by decide +kernel
theorem dX12_boxOn_52 : decode cX12_boxOn 52 = .ok (.aload_n 0, 1) := by decide +kernel
theorem dX12_boxOn_53 : decode cX12_boxOn 53 = .ok (.getfield 153, 3) := by decide +kernel
theorem dX12_boxOn_56 : decode cX12_boxOn 56 = .ok (.iload_n 3, 1) := by decide +kernel
theorem dX12_boxOn_57 : decode cX12_boxOn 57 = .ok (.aload_n 0, 1) := by decide +kernel
theorem dX12_boxOn_58 : decode cX12_boxOn 58 = .ok (.getfield 7, 3) := by decide +kernel
theorem dX12_boxOn_61 : decode cX12_boxOn 61 = .ok (.iload_n 2, 1) := by decide +kernel
theorem dX12_boxOn_62 : decode cX12_boxOn 62 = .ok (.iconst 2, 1) := by decide +kernel
theorem dX12_boxOn_63 : decode cX12_boxOn 63 = .ok (.iadd, 1) := by decide +kernel
theorem dX12_boxOn_64 : decode cX12_boxOn 64 = .ok (.iaload, 1) := by decide +kernel
theorem dX12_boxOn_65 : decode cX12_boxOn 65 = .ok (.iastore, 1) := by decide +kernel
theorem dX12_boxOn_66 : decode cX12_boxOn 66 = .ok (.aload_n 0, 1) := by decide +kernel
theorem dX12_boxOn_67 : decode cX12_boxOn 67 = .ok (.getfield 156, 3) := by decide +kernel
theorem dX12_boxOn_70 : decode cX12_boxOn 70 = .ok (.iload_n 3, 1) := by decide +kernel
theorem dX12_boxOn_71 : decode cX12_boxOn 71 = .ok (.aload_n 0, 1) := by decide +kernel
theorem dX12_boxOn_72 : decode cX12_boxOn 72 = .ok (.iload_n 2, 1) := by decide +kernel
theorem dX12_boxOn_73 : decode cX12_boxOn 73 = .ok (.iconst 3, 1) := by decide +kernel
theorem dX12_boxOn_74 : decode cX12_boxOn 74 = .ok (.iadd, 1) := by decide +kernel
theorem dX12_boxOn_75 : decode cX12_boxOn 75 = .ok (.invokevirtual 540, 3) := by decide +kernel
theorem dX12_boxOn_78 : decode cX12_boxOn 78 = .ok (.iastore, 1) := by decide +kernel
theorem dX12_boxOn_79 : decode cX12_boxOn 79 = .ok (.aload_n 0, 1) := by decide +kernel
theorem dX12_boxOn_80 : decode cX12_boxOn 80 = .ok (.getfield 159, 3) := by decide +kernel
theorem dX12_boxOn_83 : decode cX12_boxOn 83 = .ok (.iload_n 3, 1) := by decide +kernel
theorem dX12_boxOn_84 : decode cX12_boxOn 84 = .ok (.aload_n 0, 1) := by decide +kernel
theorem dX12_boxOn_85 : decode cX12_boxOn 85 = .ok (.getfield 7, 3) := by decide +kernel
theorem dX12_boxOn_88 : decode cX12_boxOn 88 = .ok (.iload_n 2, 1) := by decide +kernel
theorem dX12_boxOn_89 : decode cX12_boxOn 89 = .ok (.iconst 5, 1) := by decide +kernel
theorem dX12_boxOn_90 : decode cX12_boxOn 90 = .ok (.iadd, 1) := by decide +kernel
theorem dX12_boxOn_91 : decode cX12_boxOn 91 = .ok (.iaload, 1) := by decide +kernel
theorem dX12_boxOn_92 : decode cX12_boxOn 92 = .ok (.iastore, 1) := by decide +kernel
theorem dX12_boxOn_93 : decode cX12_boxOn 93 = .ok (.aload_n 0, 1) := by decide +kernel
theorem dX12_boxOn_94 : decode cX12_boxOn 94 = .ok (.getfield 162, 3) := by decide +kernel
theorem dX12_boxOn_97 : decode cX12_boxOn 97 = .ok (.iload_n 3, 1) := by decide +kernel
theorem dX12_boxOn_98 : decode cX12_boxOn 98 = .ok (.aload_n 0, 1) := by decide +kernel
theorem dX12_boxOn_99 : decode cX12_boxOn 99 = .ok (.iload_n 2, 1) := by decide +kernel
theorem dX12_boxOn_100 : decode cX12_boxOn 100 = .ok (.bipush 6, 2) := by decide +kernel
theorem dX12_boxOn_102 : decode cX12_boxOn 102 = .ok (.iadd, 1) := by decide +kernel
theorem dX12_boxOn_103 : decode cX12_boxOn 103 = .ok (.invokevirtual 540, 3) := by decide +kernel
theorem dX12_boxOn_106 : decode cX12_boxOn 106 = .ok (.iastore, 1) := by decide +kernel
theorem dX12_boxOn_107 : decode cX12_boxOn 107 = .ok (.iconst 0, 1) := by decide +kernel
theorem dX12_boxOn_108 : decode cX12_boxOn 108 = .ok (.istore 4, 2) := by decide +kernel
theorem dX12_boxOn_110 : decode cX12_boxOn 110 = .ok (.iload 4, 2) := by decide +kernel
theorem dX12_boxOn_112 : decode cX12_boxOn 112 = .ok (.iload_n 1, 1) := by decide +kernel
theorem dX12_boxOn_113 : decode cX12_boxOn 113 = .ok (.if_icmp .ge 30, 3) := by decide +kernel
theorem dX12_boxOn_116 : decode cX12_boxOn 116 = .ok (.aload_n 0, 1) := by decide +kernel
theorem dX12_boxOn_117 : decode cX12_boxOn 117 = .ok (.getfield 150, 3) := by decide +kernel
theorem dX12_boxOn_120 : decode cX12_boxOn 120 = .ok (.bipush 6, 2) := by decide +kernel
theorem dX12_boxOn_122 : decode cX12_boxOn 122 = .ok (.iload 4, 2) := by decide +kernel
theorem dX12_boxOn_124 : decode cX12_boxOn 124 = .ok (.iadd, 1) := by decide +kernel
theorem dX12_boxOn_125 : decode cX12_boxOn 125 = .ok (.iaload, 1) := by decide +kernel
theorem dX12_boxOn_126 : decode cX12_boxOn 126 = .ok (.aload_n 0, 1) := by decide +kernel
theorem dX12_boxOn_127 : decode cX12_boxOn 127 = .ok (.getfield 150, 3) := by decide +kernel
theorem dX12_boxOn_130 : decode cX12_boxOn 130 = .ok (.iload_n 3, 1) := by decide +kernel
theorem dX12_boxOn_131 : decode cX12_boxOn 131 = .ok (.iaload, 1) := by decide +kernel
theorem dX12_boxOn_132 : decode cX12_boxOn 132 = .ok (.if_icmp .ne 5, 3) := by decide +kernel
theorem dX12_boxOn_135 : decode cX12_boxOn 135 = .ok (.iconst 0, 1) := by decide +kernel
theorem dX12_boxOn_136 : decode cX12_boxOn 136 = .ok (.ireturn, 1) := by decide +kernel
theorem dX12_boxOn_137 : decode cX12_boxOn 137 = .ok (.iinc 4 1, 3) := by decide +kernel
theorem dX12_boxOn_140 : decode cX12_boxOn 140 = .ok (.goto (-30), 3) := by decide +kernel
theorem dX12_boxOn_143 : decode cX12_boxOn 143 = .ok (.aload_n 0, 1) := by decide +kernel
theorem dX12_boxOn_144 : decode cX12_boxOn 144 = .ok (.getfield 153, 3) := by decide +kernel
theorem dX12_boxOn_147 : decode cX12_boxOn 147 = .ok (.iload_n 3, 1) := by decide +kernel
theorem dX12_boxOn_148 : decode cX12_boxOn 148 = .ok (.iaload, 1) := by decide +kernel
theorem dX12_boxOn_149 : decode cX12_boxOn 149 = .ok (.iconst 4, 1) := by decide +kernel
theorem dX12_boxOn_150 : decode cX12_boxOn 150 = .ok (.if_icmp .ge 42, 3) := by decide +kernel
theorem dX12_boxOn_153 : decode cX12_boxOn 153 = .ok (.aload_n 0, 1) := by decide +kernel
theorem dX12_boxOn_154 : decode cX12_boxOn 154 = .ok (.getfield 156, 3) := by decide +kernel
theorem dX12_boxOn_157 : decode cX12_boxOn 157 = .ok (.iload_n 3, 1) := by decide +kernel
theorem dX12_boxOn_158 : decode cX12_boxOn 158 = .ok (.iaload, 1) := by decide +kernel
theorem dX12_boxOn_159 : decode cX12_boxOn 159 = .ok (.sipush 999, 3) := by decide +kernel
theorem dX12_boxOn_162 : decode cX12_boxOn 162 = .ok (.if_icmp .gt 30, 3) := by decide +kernel
theorem dX12_boxOn_165 : decode cX12_boxOn 165 = .ok (.aload_n 0, 1) := by decide +kernel
theorem dX12_boxOn_166 : decode cX12_boxOn 166 = .ok (.getfield 159, 3) := by decide +kernel
theorem dX12_boxOn_169 : decode cX12_boxOn 169 = .ok (.iload_n 3, 1) := by decide +kernel
theorem dX12_boxOn_170 : decode cX12_boxOn 170 = .ok (.iaload, 1) := by decide +kernel
theorem dX12_boxOn_171 : decode cX12_boxOn 171 = .ok (.bipush 99, 2) := by decide +kernel
theorem dX12_boxOn_173 : decode cX12_boxOn 173 = .ok (.if_icmp .gt 19, 3) := by decide +kernel
theorem dX12_boxOn_176 : decode cX12_boxOn 176 = .ok (.aload_n 0, 1) := by decide +kernel
theorem dX12_boxOn_177 : decode cX12_boxOn 177 = .ok (.getfield 162, 3) := by decide +kernel
theorem dX12_boxOn_180 : decode cX12_boxOn 180 = .ok (.iload_n 3, 1) := by decide +kernel
theorem dX12_boxOn_181 : decode cX12_boxOn 181 = .ok (.iaload, 1) := by decide +kernel
theorem dX12_boxOn_182 : decode cX12_boxOn 182 = .ok (.sipush 2520, 3) := by decide +kernel
theorem dX12_boxOn_185 : decode cX12_boxOn 185 = .ok (.if_icmp .ge 7, 3) := by decide +kernel
theorem dX12_boxOn_188 : decode cX12_boxOn 188 = .ok (.iconst 1, 1) := by decide +kernel
theorem dX12_boxOn_189 : decode cX12_boxOn 189 = .ok (.goto 4, 3) := by decide +kernel
theorem dX12_boxOn_192 : decode cX12_boxOn 192 = .ok (.iconst 0, 1) := by decide +kernel
theorem dX12_boxOn_193 : decode cX12_boxOn 193 = .ok (.ireturn, 1) := by decide +kernel
theorem dX12_comesOn_0 : decode cX12_comesOn 0 = .ok (.iload_n 1, 1) := by decide +kernel
theorem dX12_comesOn_1 : decode cX12_comesOn 1 = .ok (.iconst 4, 1) := by decide +kernel
theorem dX12_comesOn_2 : decode cX12_comesOn 2 = .ok (.bipush 8, 2) := by decide +kernel
theorem dX12_comesOn_4 : decode cX12_comesOn 4 = .ok (.aload_n 0, 1) := by decide +kernel
theorem dX12_comesOn_5 : decode cX12_comesOn 5 = .ok (.getfield 63, 3) := by decide +kernel
theorem dX12_comesOn_8 : decode cX12_comesOn 8 = .ok (.aload_n 0, 1) := by decide +kernel
theorem dX12_comesOn_9 : decode cX12_comesOn 9 = .ok (.getfield 51, 3) := by decide +kernel
theorem dX12_comesOn_12 : decode cX12_comesOn 12 = .ok (.iaload, 1) := by decide +kernel
theorem dX12_comesOn_13 : decode cX12_comesOn 13 = .ok (.imul, 1) := by decide +kernel
theorem dX12_comesOn_14 : decode cX12_comesOn 14 = .ok (.iadd, 1) := by decide +kernel
theorem dX12_comesOn_15 : decode cX12_comesOn 15 = .ok (.if_icmp .ne 25, 3) := by decide +kernel
theorem dX12_comesOn_18 : decode cX12_comesOn 18 = .ok (.aload_n 0, 1) := by decide +kernel
theorem dX12_comesOn_19 : decode cX12_comesOn 19 = .ok (.iconst 0, 1) := by decide +kernel
theorem dX12_comesOn_20 : decode cX12_comesOn 20 = .ok (.invokevirtual 540, 3) := by decide +kernel
theorem dX12_comesOn_23 : decode cX12_comesOn 23 = .ok (.sipush 999, 3) := by decide +kernel
theorem dX12_comesOn_26 : decode cX12_comesOn 26 = .ok (.if_icmp .gt 14, 3) := by decide +kernel
theorem dX12_comesOn_29 : decode cX12_comesOn 29 = .ok (.aload_n 0, 1) := by decide +kernel
theorem dX12_comesOn_30 : decode cX12_comesOn 30 = .ok (.getfield 7, 3) := by decide +kernel
theorem dX12_comesOn_33 : decode cX12_comesOn 33 = .ok (.iconst 2, 1) := by decide +kernel
theorem dX12_comesOn_34 : decode cX12_comesOn 34 = .ok (.iaload, 1) := by decide +kernel
theorem dX12_comesOn_35 : decode cX12_comesOn 35 = .ok (.bipush 9, 2) := by decide +kernel
theorem dX12_comesOn_37 : decode cX12_comesOn 37 = .ok (.if_icmp .le 5, 3) := by decide +kernel
theorem dX12_comesOn_40 : decode cX12_comesOn 40 = .ok (.iconst 0, 1) := by decide +kernel
theorem dX12_comesOn_41 : decode cX12_comesOn 41 = .ok (.ireturn, 1) := by decide +kernel
theorem dX12_comesOn_42 : decode cX12_comesOn 42 = .ok (.sipush 179, 3) := by decide +kernel
theorem dX12_comesOn_45 : decode cX12_comesOn 45 = .ok (.istore_n 2, 1) := by decide +kernel
theorem dX12_comesOn_46 : decode cX12_comesOn 46 = .ok (.iconst 0, 1) := by decide +kernel
theorem dX12_comesOn_47 : decode cX12_comesOn 47 = .ok (.istore_n 3, 1) := by decide +kernel
theorem dX12_comesOn_48 : decode cX12_comesOn 48 = .ok (.iload_n 3, 1) := by decide +kernel
theorem dX12_comesOn_49 : decode cX12_comesOn 49 = .ok (.iload_n 1, 1) := by decide +kernel
theorem dX12_comesOn_50 : decode cX12_comesOn 50 = .ok (.iconst 1, 1) := by decide +kernel
theorem dX12_comesOn_51 : decode cX12_comesOn 51 = .ok (.isub, 1) := by decide +kernel
theorem dX12_comesOn_52 : decode cX12_comesOn 52 = .ok (.if_icmp .ge 24, 3) := by decide +kernel
theorem dX12_comesOn_55 : decode cX12_comesOn 55 = .ok (.iconst 5, 1) := by decide +kernel
theorem dX12_comesOn_56 : decode cX12_comesOn 56 = .ok (.iload_n 2, 1) := by decide +kernel
theorem dX12_comesOn_57 : decode cX12_comesOn 57 = .ok (.imul, 1) := by decide +kernel
theorem dX12_comesOn_58 : decode cX12_comesOn 58 = .ok (.aload_n 0, 1) := by decide +kernel
theorem dX12_comesOn_59 : decode cX12_comesOn 59 = .ok (.getfield 7, 3) := by decide +kernel
theorem dX12_comesOn_62 : decode cX12_comesOn 62 = .ok (.iload_n 3, 1) := by decide +kernel
theorem dX12_comesOn_63 : decode cX12_comesOn 63 = .ok (.iaload, 1) := by decide +kernel
theorem dX12_comesOn_64 : decode cX12_comesOn 64 = .ok (.iadd, 1) := by decide +kernel
theorem dX12_comesOn_65 : decode cX12_comesOn 65 = .ok (.sipush 251, 3) := by decide +kernel
theorem dX12_comesOn_68 : decode cX12_comesOn 68 = .ok (.irem, 1) := by decide +kernel
theorem dX12_comesOn_69 : decode cX12_comesOn 69 = .ok (.istore_n 2, 1) := by decide +kernel
theorem dX12_comesOn_70 : decode cX12_comesOn 70 = .ok (.iinc 3 1, 3) := by decide +kernel
theorem dX12_comesOn_73 : decode cX12_comesOn 73 = .ok (.goto (-25), 3) := by decide +kernel
theorem dX12_comesOn_76 : decode cX12_comesOn 76 = .ok (.aload_n 0, 1) := by decide +kernel
theorem dX12_comesOn_77 : decode cX12_comesOn 77 = .ok (.getfield 7, 3) := by decide +kernel
theorem dX12_comesOn_80 : decode cX12_comesOn 80 = .ok (.iload_n 1, 1) := by decide +kernel
theorem dX12_comesOn_81 : decode cX12_comesOn 81 = .ok (.iconst 1, 1) := by decide +kernel
theorem dX12_comesOn_82 : decode cX12_comesOn 82 = .ok (.isub, 1) := by decide +kernel
theorem dX12_comesOn_83 : decode cX12_comesOn 83 = .ok (.iaload, 1) := by decide +kernel
theorem dX12_comesOn_84 : decode cX12_comesOn 84 = .ok (.iload_n 2, 1) := by decide +kernel
theorem dX12_comesOn_85 : decode cX12_comesOn 85 = .ok (.if_icmp .eq 5, 3) := by decide +kernel
theorem dX12_comesOn_88 : decode cX12_comesOn 88 = .ok (.iconst 0, 1) := by decide +kernel
theorem dX12_comesOn_89 : decode cX12_comesOn 89 = .ok (.ireturn, 1) := by decide +kernel
theorem dX12_comesOn_90 : decode cX12_comesOn 90 = .ok (.aload_n 0, 1) := by decide +kernel
theorem dX12_comesOn_91 : decode cX12_comesOn 91 = .ok (.iconst 1, 1) := by decide +kernel
theorem dX12_comesOn_92 : decode cX12_comesOn 92 = .ok (.iconst 0, 1) := by decide +kernel
theorem dX12_comesOn_93 : decode cX12_comesOn 93 = .ok (.invokevirtual 421, 3) := by decide +kernel
theorem dX12_comesOn_96 : decode cX12_comesOn 96 = .ok (.aload_n 0, 1) := by decide +kernel
theorem dX12_comesOn_97 : decode cX12_comesOn 97 = .ok (.getfield 144, 3) := by decide +kernel
theorem dX12_comesOn_100 : decode cX12_comesOn 100 = .ok (.iconst 1, 1) := by decide +kernel
theorem dX12_comesOn_101 : decode cX12_comesOn 101 = .ok (.aload_n 0, 1) := by decide +kernel
theorem dX12_comesOn_102 : decode cX12_comesOn 102 = .ok (.iconst 0, 1) := by decide +kernel
theorem dX12_comesOn_103 : decode cX12_comesOn 103 = .ok (.invokevirtual 540, 3) := by decide +kernel
theorem dX12_comesOn_106 : decode cX12_comesOn 106 = .ok (.iastore, 1) := by decide +kernel
theorem dX12_comesOn_107 : decode cX12_comesOn 107 = .ok (.aload_n 0, 1) := by decide +kernel
theorem dX12_comesOn_108 : decode cX12_comesOn 108 = .ok (.getfield 147, 3) := by decide +kernel
theorem dX12_comesOn_111 : decode cX12_comesOn 111 = .ok (.iconst 1, 1) := by decide +kernel
theorem dX12_comesOn_112 : decode cX12_comesOn 112 = .ok (.aload_n 0, 1) := by decide +kernel
theorem dX12_comesOn_113 : decode cX12_comesOn 113 = .ok (.getfield 7, 3) := by decide +kernel
theorem dX12_comesOn_116 : decode cX12_comesOn 116 = .ok (.iconst 2, 1) := by decide +kernel
theorem dX12_comesOn_117 : decode cX12_comesOn 117 = .ok (.iaload, 1) := by decide +kernel
theorem dX12_comesOn_118 : decode cX12_comesOn 118 = .ok (.iastore, 1) := by decide +kernel
theorem dX12_comesOn_119 : decode cX12_comesOn 119 = .ok (.aload_n 0, 1) := by decide +kernel
theorem dX12_comesOn_120 : decode cX12_comesOn 120 = .ok (.getfield 165, 3) := by decide +kernel
theorem dX12_comesOn_123 : decode cX12_comesOn 123 = .ok (.iconst 1, 1) := by decide +kernel
theorem dX12_comesOn_124 : decode cX12_comesOn 124 = .ok (.iconst 0, 1) := by decide +kernel
theorem dX12_comesOn_125 : decode cX12_comesOn 125 = .ok (.iastore, 1) := by decide +kernel
theorem dX12_comesOn_126 : decode cX12_comesOn 126 = .ok (.iconst 0, 1) := by decide +kernel
theorem dX12_comesOn_127 : decode cX12_comesOn 127 = .ok (.istore_n 3, 1) := by decide +kernel
theorem dX12_comesOn_128 : decode cX12_comesOn 128 = .ok (.iload_n 3, 1) := by decide +kernel
theorem dX12_comesOn_129 : decode cX12_comesOn 129 = .ok (.aload_n 0, 1) := by decide +kernel
theorem dX12_comesOn_130 : decode cX12_comesOn 130 = .ok (.getfield 63, 3) := by decide +kernel
theorem dX12_comesOn_133 : decode cX12_comesOn 133 = .ok (.aload_n 0, 1) := by decide +kernel
theorem dX12_comesOn_134 : decode cX12_comesOn 134 = .ok (.getfield 51, 3) := by decide +kernel
theorem dX12_comesOn_137 : decode cX12_comesOn 137 = .ok (.iaload, 1) := by decide +kernel
theorem dX12_comesOn_138 : decode cX12_comesOn 138 = .ok (.if_icmp .ge 25, 3) := by decide +kernel
theorem dX12_comesOn_141 : decode cX12_comesOn 141 = .ok (.aload_n 0, 1) := by decide +kernel
theorem dX12_comesOn_142 : decode cX12_comesOn 142 = .ok (.iload_n 3, 1) := by decide +kernel
theorem dX12_comesOn_143 : decode cX12_comesOn 143 = .ok (.iconst 3, 1) := by decide +kernel
theorem dX12_comesOn_144 : decode cX12_comesOn 144 = .ok (.bipush 8, 2) := by decide +kernel
theorem dX12_comesOn_146 : decode cX12_comesOn 146 = .ok (.iload_n 3, 1) := by decide +kernel
theorem dX12_comesOn_147 : decode cX12_comesOn 147 = .ok (.imul, 1) := by decide +kernel
theorem dX12_comesOn_148 : decode cX12_comesOn 148 = .ok (.iadd, 1) := by decide +kernel
theorem dX12_comesOn_149 : decode cX12_comesOn 149 = .ok (.invokevirtual 543, 3) := by decide +kernel
theorem dX12_comesOn_152 : decode cX12_comesOn 152 = .ok (.ifCond .ne 5, 3) := by decide +kernel
theorem dX12_comesOn_155 : decode cX12_comesOn 155 = .ok (.iconst 0, 1) := by decide +kernel
theorem dX12_comesOn_156 : decode cX12_comesOn 156 = .ok (.ireturn, 1) := by decide +kernel
theorem dX12_comesOn_157 : decode cX12_comesOn 157 = .ok (.iinc 3 1, 3) := by decide +kernel
theorem dX12_comesOn_160 : decode cX12_comesOn 160 = .ok (.goto (-32), 3) := by decide +kernel
theorem dX12_comesOn_163 : decode cX12_comesOn 163 = .ok (.iconst 1, 1) := by decide +kernel
theorem dX12_comesOn_164 : decode cX12_comesOn 164 = .ok (.ireturn, 1) := by decide +kernel
theorem dX12_on__0 : decode cX12_on_ 0 = .ok (.aload_n 0, 1) := by decide +kernel
theorem dX12_on__1 : decode cX12_on_ 1 = .ok (.getfield 13, 3) := by decide +kernel
theorem dX12_on__4 : decode cX12_on_ 4 = .ok (.istore_n 1, 1) := by decide +kernel
theorem dX12_on__5 : decode cX12_on_ 5 = .ok (.aload_n 0, 1) := by decide +kernel
theorem dX12_on__6 : decode cX12_on_ 6 = .ok (.iconst 0, 1) := by decide +kernel
theorem dX12_on__7 : decode cX12_on_ 7 = .ok (.putfield 13, 3) := by decide +kernel
theorem dX12_on__10 : decode cX12_on_ 10 = .ok (.aload_n 0, 1) := by decide +kernel
theorem dX12_on__11 : decode cX12_on_ 11 = .ok (.iload_n 1, 1) := by decide +kernel
theorem dX12_on__12 : decode cX12_on_ 12 = .ok (.invokevirtual 546, 3) := by decide +kernel
theorem dX12_on__15 : decode cX12_on_ 15 = .ok (.ifCond .ne 17, 3) := by decide +kernel
theorem dX12_on__18 : decode cX12_on_ 18 = .ok (.aload_n 0, 1) := by decide +kernel
theorem dX12_on__19 : decode cX12_on_ 19 = .ok (.iconst 5, 1) := by decide +kernel
theorem dX12_on__20 : decode cX12_on_ 20 = .ok (.invokevirtual 235, 3) := by decide +kernel
theorem dX12_on__23 : decode cX12_on_ 23 = .ok (.ifCond .lt 7, 3) := by decide +kernel
theorem dX12_on__26 : decode cX12_on_ 26 = .ok (.iconst 1, 1) := by decide +kernel
theorem dX12_on__27 : decode cX12_on_ 27 = .ok (.goto 4, 3) := by decide +kernel
theorem dX12_on__30 : decode cX12_on_ 30 = .ok (.iconst 0, 1) := by decide +kernel
theorem dX12_on__31 : decode cX12_on_ 31 = .ok (.ireturn, 1) := by decide +kernel
theorem dX12_on__32 : decode cX12_on_ 32 = .ok (.aload_n 0, 1) := by decide +kernel
theorem dX12_on__33 : decode cX12_on_ 33 = .ok (.iconst 0, 1) := by decide +kernel
theorem dX12_on__34 : decode cX12_on_ 34 = .ok (.iconst 1, 1) := by decide +kernel
theorem dX12_on__35 : decode cX12_on_ 35 = .ok (.invokevirtual 421, 3) := by decide +kernel
theorem dX12_on__38 : decode cX12_on_ 38 = .ok (.aload_n 0, 1) := by decide +kernel
theorem dX12_on__39 : decode cX12_on_ 39 = .ok (.iconst 0, 1) := by decide +kernel
theorem dX12_on__40 : decode cX12_on_ 40 = .ok (.putfield 174, 3) := by decide +kernel
theorem dX12_on__43 : decode cX12_on_ 43 = .ok (.iconst 1, 1) := by decide +kernel
theorem dX12_on__44 : decode cX12_on_ 44 = .ok (.ireturn, 1) := by decide +kernel
theorem dJ9_floorDiv_f86c9_0 : decode cJ9_floorDiv_f86c9 0 = .ok (.lload_n 0, 1) := by decide +kernel
theorem dJ9_floorDiv_f86c9_1 : decode cJ9_floorDiv_f86c9 1 = .ok (.lload_n 2, 1) := by decide +kernel
theorem dJ9_floorDiv_f86c9_2 : decode cJ9_floorDiv_f86c9 2 = .ok (.ldiv, 1) := by decide +kernel
theorem dJ9_floorDiv_f86c9_3 : decode cJ9_floorDiv_f86c9 3 = .ok (.lstore 4, 2) := by decide +kernel
theorem dJ9_floorDiv_f86c9_5 : decode cJ9_floorDiv_f86c9 5 = .ok (.lload_n 0, 1) := by decide +kernel
theorem dJ9_floorDiv_f86c9_6 : decode cJ9_floorDiv_f86c9 6 = .ok (.lload_n 2, 1) := by decide +kernel
theorem dJ9_floorDiv_f86c9_7 : decode cJ9_floorDiv_f86c9 7 = .ok (.lxor, 1) := by decide +kernel
theorem dJ9_floorDiv_f86c9_8 : decode cJ9_floorDiv_f86c9 8 = .ok (.lconst 0, 1) := by decide +kernel
theorem dJ9_floorDiv_f86c9_9 : decode cJ9_floorDiv_f86c9 9 = .ok (.lcmp, 1) := by decide +kernel
theorem dJ9_floorDiv_f86c9_10 : decode cJ9_floorDiv_f86c9 10 = .ok (.ifCond .ge 17, 3) := by decide +kernel
theorem dJ9_floorDiv_f86c9_13 : decode cJ9_floorDiv_f86c9 13 = .ok (.lload 4, 2) := by decide +kernel
theorem dJ9_floorDiv_f86c9_15 : decode cJ9_floorDiv_f86c9 15 = .ok (.lload_n 2, 1) := by decide +kernel
theorem dJ9_floorDiv_f86c9_16 : decode cJ9_floorDiv_f86c9 16 = .ok (.lmul, 1) := by decide +kernel
theorem dJ9_floorDiv_f86c9_17 : decode cJ9_floorDiv_f86c9 17 = .ok (.lload_n 0, 1) := by decide +kernel
theorem dJ9_floorDiv_f86c9_18 : decode cJ9_floorDiv_f86c9 18 = .ok (.lcmp, 1) := by decide +kernel
theorem dJ9_floorDiv_f86c9_19 : decode cJ9_floorDiv_f86c9 19 = .ok (.ifCond .eq 8, 3) := by decide +kernel
theorem dJ9_floorDiv_f86c9_22 : decode cJ9_floorDiv_f86c9 22 = .ok (.lload 4, 2) := by decide +kernel
theorem dJ9_floorDiv_f86c9_24 : decode cJ9_floorDiv_f86c9 24 = .ok (.lconst 1, 1) := by decide +kernel
theorem dJ9_floorDiv_f86c9_25 : decode cJ9_floorDiv_f86c9 25 = .ok (.lsub, 1) := by decide +kernel
theorem dJ9_floorDiv_f86c9_26 : decode cJ9_floorDiv_f86c9 26 = .ok (.lreturn, 1) := by decide +kernel
theorem dJ9_floorDiv_f86c9_27 : decode cJ9_floorDiv_f86c9 27 = .ok (.lload 4, 2) := by decide +kernel
theorem dJ9_floorDiv_f86c9_29 : decode cJ9_floorDiv_f86c9 29 = .ok (.lreturn, 1) := by decide +kernel
theorem dJ9_floorMod_7cf53_0 : decode cJ9_floorMod_7cf53 0 = .ok (.iload_n 0, 1) := by decide +kernel
theorem dJ9_floorMod_7cf53_1 : decode cJ9_floorMod_7cf53 1 = .ok (.iload_n 1, 1) := by decide +kernel
theorem dJ9_floorMod_7cf53_2 : decode cJ9_floorMod_7cf53 2 = .ok (.irem, 1) := by decide +kernel
theorem dJ9_floorMod_7cf53_3 : decode cJ9_floorMod_7cf53 3 = .ok (.istore_n 2, 1) := by decide +kernel
theorem dJ9_floorMod_7cf53_4 : decode cJ9_floorMod_7cf53 4 = .ok (.iload_n 0, 1) := by decide +kernel
theorem dJ9_floorMod_7cf53_5 : decode cJ9_floorMod_7cf53 5 = .ok (.iload_n 1, 1) := by decide +kernel
theorem dJ9_floorMod_7cf53_6 : decode cJ9_floorMod_7cf53 6 = .ok (.ixor, 1) := by decide +kernel
theorem dJ9_floorMod_7cf53_7 : decode cJ9_floorMod_7cf53 7 = .ok (.ifCond .ge 11, 3) := by decide +kernel
theorem dJ9_floorMod_7cf53_10 : decode cJ9_floorMod_7cf53 10 = .ok (.iload_n 2, 1) := by decide +kernel
theorem dJ9_floorMod_7cf53_11 : decode cJ9_floorMod_7cf53 11 = .ok (.ifCond .eq 7, 3) := by decide +kernel
theorem dJ9_floorMod_7cf53_14 : decode cJ9_floorMod_7cf53 14 = .ok (.iload_n 2, 1) := by decide +kernel
theorem dJ9_floorMod_7cf53_15 : decode cJ9_floorMod_7cf53 15 = .ok (.iload_n 1, 1) := by decide +kernel
theorem dJ9_floorMod_7cf53_16 : decode cJ9_floorMod_7cf53 16 = .ok (.iadd, 1) := by decide +kernel
theorem dJ9_floorMod_7cf53_17 : decode cJ9_floorMod_7cf53 17 = .ok (.ireturn, 1) := by decide +kernel
theorem dJ9_floorMod_7cf53_18 : decode cJ9_floorMod_7cf53 18 = .ok (.iload_n 2, 1) := by decide +kernel
theorem dJ9_floorMod_7cf53_19 : decode cJ9_floorMod_7cf53 19 = .ok (.ireturn, 1) := by decide +kernel
theorem dJ9_floorMod_f86c9_0 : decode cJ9_floorMod_f86c9 0 = .ok (.lload_n 0, 1) := by decide +kernel
theorem dJ9_floorMod_f86c9_1 : decode cJ9_floorMod_f86c9 1 = .ok (.lload_n 2, 1) := by decide +kernel
theorem dJ9_floorMod_f86c9_2 : decode cJ9_floorMod_f86c9 2 = .ok (.lrem, 1) := by decide +kernel
theorem dJ9_floorMod_f86c9_3 : decode cJ9_floorMod_f86c9 3 = .ok (.lstore 4, 2) := by decide +kernel
theorem dJ9_floorMod_f86c9_5 : decode cJ9_floorMod_f86c9 5 = .ok (.lload_n 0, 1) := by decide +kernel
theorem dJ9_floorMod_f86c9_6 : decode cJ9_floorMod_f86c9 6 = .ok (.lload_n 2, 1) := by decide +kernel
theorem dJ9_floorMod_f86c9_7 : decode cJ9_floorMod_f86c9 7 = .ok (.lxor, 1) := by decide +kernel
theorem dJ9_floorMod_f86c9_8 : decode cJ9_floorMod_f86c9 8 = .ok (.lconst 0, 1) := by decide +kernel
theorem dJ9_floorMod_f86c9_9 : decode cJ9_floorMod_f86c9 9 = .ok (.lcmp, 1) := by decide +kernel
theorem dJ9_floorMod_f86c9_10 : decode cJ9_floorMod_f86c9 10 = .ok (.ifCond .ge 15, 3) := by decide +kernel
theorem dJ9_floorMod_f86c9_13 : decode cJ9_floorMod_f86c9 13 = .ok (.lload 4, 2) := by decide +kernel
theorem dJ9_floorMod_f86c9_15 : decode cJ9_floorMod_f86c9 15 = .ok (.lconst 0, 1) := by decide +kernel
theorem dJ9_floorMod_f86c9_16 : decode cJ9_floorMod_f86c9 16 = .ok (.lcmp, 1) := by decide +kernel
theorem dJ9_floorMod_f86c9_17 : decode cJ9_floorMod_f86c9 17 = .ok (.ifCond .eq 8, 3) := by decide +kernel
theorem dJ9_floorMod_f86c9_20 : decode cJ9_floorMod_f86c9 20 = .ok (.lload 4, 2) := by decide +kernel
theorem dJ9_floorMod_f86c9_22 : decode cJ9_floorMod_f86c9 22 = .ok (.lload_n 2, 1) := by decide +kernel
theorem dJ9_floorMod_f86c9_23 : decode cJ9_floorMod_f86c9 23 = .ok (.ladd, 1) := by decide +kernel
theorem dJ9_floorMod_f86c9_24 : decode cJ9_floorMod_f86c9 24 = .ok (.lreturn, 1) := by decide +kernel
theorem dJ9_floorMod_f86c9_25 : decode cJ9_floorMod_f86c9 25 = .ok (.lload 4, 2) := by decide +kernel
theorem dJ9_floorMod_f86c9_27 : decode cJ9_floorMod_f86c9 27 = .ok (.lreturn, 1) := by decide +kernel
theorem dJ9_abs_0f7a4_0 : decode cJ9_abs_0f7a4 0 = .ok (.iload_n 0, 1) := by decide +kernel
theorem dJ9_abs_0f7a4_1 : decode cJ9_abs_0f7a4 1 = .ok (.ifCond .ge 8, 3) := by decide +kernel
theorem dJ9_abs_0f7a4_4 : decode cJ9_abs_0f7a4 4 = .ok (.iload_n 0, 1) := by decide +kernel
theorem dJ9_abs_0f7a4_5 : decode cJ9_abs_0f7a4 5 = .ok (.ineg, 1) := by decide +kernel
theorem dJ9_abs_0f7a4_6 : decode cJ9_abs_0f7a4 6 = .ok (.goto 4, 3) := by decide +kernel
theorem dJ9_abs_0f7a4_9 : decode cJ9_abs_0f7a4 9 = .ok (.iload_n 0, 1) := by decide +kernel
theorem dJ9_abs_0f7a4_10 : decode cJ9_abs_0f7a4 10 = .ok (.ireturn, 1) := by decide +kernel
theorem dJ9_max_7cf53_0 : decode cJ9_max_7cf53 0 = .ok (.iload_n 0, 1) := by decide +kernel
theorem dJ9_max_7cf53_1 : decode cJ9_max_7cf53 1 = .ok (.iload_n 1, 1) := by decide +kernel
theorem dJ9_max_7cf53_2 : decode cJ9_max_7cf53 2 = .ok (.if_icmp .lt 7, 3) := by decide +kernel
theorem dJ9_max_7cf53_5 : decode cJ9_max_7cf53 5 = .ok (.iload_n 0, 1) := by decide +kernel
theorem dJ9_max_7cf53_6 : decode cJ9_max_7cf53 6 = .ok (.goto 4, 3) := by decide +kernel
theorem dJ9_max_7cf53_9 : decode cJ9_max_7cf53 9 = .ok (.iload_n 1, 1) := by decide +kernel
theorem dJ9_max_7cf53_10 : decode cJ9_max_7cf53 10 = .ok (.ireturn, 1) := by decide +kernel
theorem dJ9_max_f86c9_0 : decode cJ9_max_f86c9 0 = .ok (.lload_n 0, 1) := by decide +kernel
theorem dJ9_max_f86c9_1 : decode cJ9_max_f86c9 1 = .ok (.lload_n 2, 1) := by decide +kernel
theorem dJ9_max_f86c9_2 : decode cJ9_max_f86c9 2 = .ok (.lcmp, 1) := by decide +kernel
theorem dJ9_max_f86c9_3 : decode cJ9_max_f86c9 3 = .ok (.ifCond .lt 7, 3) := by decide +kernel
theorem dJ9_max_f86c9_6 : decode cJ9_max_f86c9 6 = .ok (.lload_n 0, 1) := by decide +kernel
theorem dJ9_max_f86c9_7 : decode cJ9_max_f86c9 7 = .ok (.goto 4, 3) := by decide +kernel
theorem dJ9_max_f86c9_10 : decode cJ9_max_f86c9 10 = .ok (.lload_n 2, 1) := by decide +kernel
theorem dJ9_max_f86c9_11 : decode cJ9_max_f86c9 11 = .ok (.lreturn, 1) := by decide +kernel
theorem dJ9_min_7cf53_0 : decode cJ9_min_7cf53 0 = .ok (.iload_n 0, 1) := by decide +kernel
theorem dJ9_min_7cf53_1 : decode cJ9_min_7cf53 1 = .ok (.iload_n 1, 1) := by decide +kernel
theorem dJ9_min_7cf53_2 : decode cJ9_min_7cf53 2 = .ok (.if_icmp .gt 7, 3) := by decide +kernel
theorem dJ9_min_7cf53_5 : decode cJ9_min_7cf53 5 = .ok (.iload_n 0, 1) := by decide +kernel
theorem dJ9_min_7cf53_6 : decode cJ9_min_7cf53 6 = .ok (.goto 4, 3) := by decide +kernel
theorem dJ9_min_7cf53_9 : decode cJ9_min_7cf53 9 = .ok (.iload_n 1, 1) := by decide +kernel
theorem dJ9_min_7cf53_10 : decode cJ9_min_7cf53 10 = .ok (.ireturn, 1) := by decide +kernel
theorem dJ9_min_f86c9_0 : decode cJ9_min_f86c9 0 = .ok (.lload_n 0, 1) := by decide +kernel
theorem dJ9_min_f86c9_1 : decode cJ9_min_f86c9 1 = .ok (.lload_n 2, 1) := by decide +kernel
theorem dJ9_min_f86c9_2 : decode cJ9_min_f86c9 2 = .ok (.lcmp, 1) := by decide +kernel
theorem dJ9_min_f86c9_3 : decode cJ9_min_f86c9 3 = .ok (.ifCond .gt 7, 3) := by decide +kernel
theorem dJ9_min_f86c9_6 : decode cJ9_min_f86c9 6 = .ok (.lload_n 0, 1) := by decide +kernel
theorem dJ9_min_f86c9_7 : decode cJ9_min_f86c9 7 = .ok (.goto 4, 3) := by decide +kernel
theorem dJ9_min_f86c9_10 : decode cJ9_min_f86c9 10 = .ok (.lload_n 2, 1) := by decide +kernel
theorem dJ9_min_f86c9_11 : decode cJ9_min_f86c9 11 = .ok (.lreturn, 1) := by decide +kernel
theorem dJ0_length_8abf5_0 : decode cJ0_length_8abf5 0 = .ok (.aload_n 0, 1) := by decide +kernel
theorem dJ0_length_8abf5_1 : decode cJ0_length_8abf5 1 = .ok (.getfield 9, 3) := by decide +kernel
theorem dJ0_length_8abf5_4 : decode cJ0_length_8abf5 4 = .ok (.arraylength, 1) := by decide +kernel
theorem dJ0_length_8abf5_5 : decode cJ0_length_8abf5 5 = .ok (.aload_n 0, 1) := by decide +kernel
theorem dJ0_length_8abf5_6 : decode cJ0_length_8abf5 6 = .ok (.invokevirtual 335, 3) := by decide +kernel
theorem dJ0_length_8abf5_9 : decode cJ0_length_8abf5 9 = .ok (.ishr, 1) := by decide +kernel
theorem dJ0_length_8abf5_10 : decode cJ0_length_8abf5 10 = .ok (.ireturn, 1) := by decide +kernel
theorem dJ0_charAt_5068e_0 : decode cJ0_charAt_5068e 0 = .ok (.aload_n 0, 1) := by decide +kernel
theorem dJ0_charAt_5068e_1 : decode cJ0_charAt_5068e 1 = .ok (.invokevirtual 492, 3) := by decide +kernel
theorem dJ0_charAt_5068e_4 : decode cJ0_charAt_5068e 4 = .ok (.ifCond .eq 12, 3) := by decide +kernel
theorem dJ0_charAt_5068e_7 : decode cJ0_charAt_5068e 7 = .ok (.aload_n 0, 1) := by decide +kernel
theorem dJ0_charAt_5068e_8 : decode cJ0_charAt_5068e 8 = .ok (.getfield 9, 3) := by decide +kernel
theorem dJ0_charAt_5068e_11 : decode cJ0_charAt_5068e 11 = .ok (.iload_n 1, 1) := by decide +kernel
theorem dJ0_charAt_5068e_12 : decode cJ0_charAt_5068e 12 = .ok (.invokestatic 495, 3) := by decide +kernel
theorem dJ0_charAt_5068e_15 : decode cJ0_charAt_5068e 15 = .ok (.ireturn, 1) := by decide +kernel
theorem dJ0_charAt_5068e_16 : decode cJ0_charAt_5068e 16 = .ok (.aload_n 0, 1) := by decide +kernel
theorem dJ0_charAt_5068e_17 : decode cJ0_charAt_5068e 17 = .ok (.getfield 9, 3) := by decide +kernel
theorem dJ0_charAt_5068e_20 : decode cJ0_charAt_5068e 20 = .ok (.iload_n 1, 1) := by decide +kernel
theorem dJ0_charAt_5068e_21 : decode cJ0_charAt_5068e 21 = .ok (.invokestatic 498, 3) := by decide +kernel
theorem dJ0_charAt_5068e_24 : decode cJ0_charAt_5068e 24 = .ok (.ireturn, 1) := by decide +kernel
theorem dJ0_coder_7d493_0 : decode cJ0_coder_7d493 0 = .ok (.getstatic 38, 3) := by decide +kernel
theorem dJ0_coder_7d493_3 : decode cJ0_coder_7d493 3 = .ok (.ifCond .eq 10, 3) := by decide +kernel
theorem dJ0_coder_7d493_6 : decode cJ0_coder_7d493 6 = .ok (.aload_n 0, 1) := by decide +kernel
theorem dJ0_coder_7d493_7 : decode cJ0_coder_7d493 7 = .ok (.getfield 15, 3) := by decide +kernel
theorem dJ0_coder_7d493_10 : decode cJ0_coder_7d493 10 = .ok (.goto 4, 3) := by decide +kernel
theorem dJ0_coder_7d493_13 : decode cJ0_coder_7d493 13 = .ok (.iconst 1, 1) := by decide +kernel
theorem dJ0_coder_7d493_14 : decode cJ0_coder_7d493 14 = .ok (.ireturn, 1) := by decide +kernel
theorem dJ0_isLatin1_aae02_0 : decode cJ0_isLatin1_aae02 0 = .ok (.getstatic 38, 3) := by decide +kernel
theorem dJ0_isLatin1_aae02_3 : decode cJ0_isLatin1_aae02 3 = .ok (.ifCond .eq 14, 3) := by decide +kernel
theorem dJ0_isLatin1_aae02_6 : decode cJ0_isLatin1_aae02 6 = .ok (.aload_n 0, 1) := by decide +kernel
theorem dJ0_isLatin1_aae02_7 : decode cJ0_isLatin1_aae02 7 = .ok (.getfield 15, 3) := by decide +kernel
theorem dJ0_isLatin1_aae02_10 : decode cJ0_isLatin1_aae02 10 = .ok (.ifCond .ne 7, 3) := by decide +kernel
theorem dJ0_isLatin1_aae02_13 : decode cJ0_isLatin1_aae02 13 = .ok (.iconst 1, 1) := by decide +kernel
theorem dJ0_isLatin1_aae02_14 : decode cJ0_isLatin1_aae02 14 = .ok (.goto 4, 3) := by decide +kernel
theorem dJ0_isLatin1_aae02_17 : decode cJ0_isLatin1_aae02 17 = .ok (.iconst 0, 1) := by decide +kernel
theorem dJ0_isLatin1_aae02_18 : decode cJ0_isLatin1_aae02 18 = .ok (.ireturn, 1) := by decide +kernel
theorem dJ0_checkIndex_df160_0 : decode cJ0_checkIndex_df160 0 = .ok (.iload_n 0, 1) := by decide +kernel
theorem dJ0_checkIndex_df160_1 : decode cJ0_checkIndex_df160 1 = .ok (.iload_n 1, 1) := by decide +kernel
theorem dJ0_checkIndex_df160_2 : decode cJ0_checkIndex_df160 2 = .ok (.getstatic 1053, 3) := by decide +kernel
theorem dJ0_checkIndex_df160_5 : decode cJ0_checkIndex_df160 5 = .ok (.invokestatic 1059, 3) := by decide +kernel
theorem dJ0_checkIndex_df160_8 : decode cJ0_checkIndex_df160 8 = .ok (.pop, 1) := by decide +kernel
theorem dJ0_checkIndex_df160_9 : decode cJ0_checkIndex_df160 9 = .ok (.return_, 1) := by decide +kernel
theorem dJ1_charAt_3b067_0 : decode cJ1_charAt_3b067 0 = .ok (.iload_n 1, 1) := by decide +kernel
theorem dJ1_charAt_3b067_1 : decode cJ1_charAt_3b067 1 = .ok (.aload_n 0, 1) := by decide +kernel
theorem dJ1_charAt_3b067_2 : decode cJ1_charAt_3b067 2 = .ok (.arraylength, 1) := by decide +kernel
theorem dJ1_charAt_3b067_3 : decode cJ1_charAt_3b067 3 = .ok (.invokestatic 9, 3) := by decide +kernel
theorem dJ1_charAt_3b067_6 : decode cJ1_charAt_3b067 6 = .ok (.aload_n 0, 1) := by decide +kernel
theorem dJ1_charAt_3b067_7 : decode cJ1_charAt_3b067 7 = .ok (.iload_n 1, 1) := by decide +kernel
theorem dJ1_charAt_3b067_8 : decode cJ1_charAt_3b067 8 = .ok (.baload, 1) := by decide +kernel
theorem dJ1_charAt_3b067_9 : decode cJ1_charAt_3b067 9 = .ok (.sipush 255, 3) := by decide +kernel
theorem dJ1_charAt_3b067_12 : decode cJ1_charAt_3b067 12 = .ok (.iand, 1) := by decide +kernel
theorem dJ1_charAt_3b067_13 : decode cJ1_charAt_3b067 13 = .ok (.i2c, 1) := by decide +kernel
theorem dJ1_charAt_3b067_14 : decode cJ1_charAt_3b067 14 = .ok (.ireturn, 1) := by decide +kernel
theorem dJ2_getChar_3b067_0 : decode cJ2_getChar_3b067 0 = .ok (.getstatic 44, 3) := by decide +kernel
theorem dJ2_getChar_3b067_3 : decode cJ2_getChar_3b067 3 = .ok (.ifCond .ne 25, 3) := by decide +kernel
theorem dJ2_getChar_3b067_6 : decode cJ2_getChar_3b067 6 = .ok (.iload_n 1, 1) := by decide +kernel
theorem dJ2_getChar_3b067_7 : decode cJ2_getChar_3b067 7 = .ok (.ifCond .lt 11, 3) := by decide +kernel
theorem dJ2_getChar_3b067_10 : decode cJ2_getChar_3b067 10 = .ok (.iload_n 1, 1) := by decide +kernel
theorem dJ2_getChar_3b067_11 : decode cJ2_getChar_3b067 11 = .ok (.aload_n 0, 1) := by decide +kernel
theorem dJ2_getChar_3b067_12 : decode cJ2_getChar_3b067 12 = .ok (.invokestatic 48, 3) := by decide +kernel
theorem dJ2_getChar_3b067_15 : decode cJ2_getChar_3b067 15 = .ok (.if_icmp .lt 13, 3) := by decide +kernel
theorem dJ2_getChar_3b067_18 : decode cJ2_getChar_3b067 18 = .ok (.new 52, 3) := by decide +kernel
theorem dJ2_getChar_3b067_21 : decode cJ2_getChar_3b067 21 = .ok (.dup, 1) := by decide +kernel
theorem dJ2_getChar_3b067_22 : decode cJ2_getChar_3b067 22 = .ok (.ldc 54, 2) := by decide +kernel
theorem dJ2_getChar_3b067_24 : decode cJ2_getChar_3b067 24 = .ok (.invokespecial 56, 3) := by decide +kernel
theorem dJ2_getChar_3b067_27 : decode cJ2_getChar_3b067 27 = .ok (.athrow, 1) := by decide +kernel
theorem dJ2_getChar_3b067_28 : decode cJ2_getChar_3b067 28 = .ok (.iload_n 1, 1) := by decide +kernel
theorem dJ2_getChar_3b067_29 : decode cJ2_getChar_3b067 29 = .ok (.iconst 1, 1) := by decide +kernel
theorem dJ2_getChar_3b067_30 : decode cJ2_getChar_3b067 30 = .ok (.ishl, 1) := by decide +kernel
theorem dJ2_getChar_3b067_31 : decode cJ2_getChar_3b067 31 = .ok (.istore_n 1, 1) := by decide +kernel
theorem dJ2_getChar_3b067_32 : decode cJ2_getChar_3b067 32 = .ok (.aload_n 0, 1) := by decide +kernel
theorem dJ2_getChar_3b067_33 : decode cJ2_getChar_3b067 33 = .ok (.iload_n 1, 1) := by decide +kernel
theorem dJ2_getChar_3b067_34 : decode cJ2_getChar_3b067 34 = .ok (.iinc 1 1, 3) := by decide +kernel
theorem dJ2_getChar_3b067_37 : decode cJ2_getChar_3b067 37 = .ok (.baload, 1) := by decide +kernel
theorem dJ2_getChar_3b067_38 : decode cJ2_getChar_3b067 38 = .ok (.sipush 255, 3) := by decide +kernel
theorem dJ2_getChar_3b067_41 : decode cJ2_getChar_3b067 41 = .ok (.iand, 1) := by decide +kernel
theorem dJ2_getChar_3b067_42 : decode cJ2_getChar_3b067 42 = .ok (.getstatic 59, 3) := by decide +kernel
theorem dJ2_getChar_3b067_45 : decode cJ2_getChar_3b067 45 = .ok (.ishl, 1) := by decide +kernel
theorem dJ2_getChar_3b067_46 : decode cJ2_getChar_3b067 46 = .ok (.aload_n 0, 1) := by decide +kernel
theorem dJ2_getChar_3b067_47 : decode cJ2_getChar_3b067 47 = .ok (.iload_n 1, 1) := by decide +kernel
theorem dJ2_getChar_3b067_48 : decode cJ2_getChar_3b067 48 = .ok (.baload, 1) := by decide +kernel
theorem dJ2_getChar_3b067_49 : decode cJ2_getChar_3b067 49 = .ok (.sipush 255, 3) := by decide +kernel
theorem dJ2_getChar_3b067_52 : decode cJ2_getChar_3b067 52 = .ok (.iand, 1) := by decide +kernel
theorem dJ2_getChar_3b067_53 : decode cJ2_getChar_3b067 53 = .ok (.getstatic 63, 3) := by decide +kernel
theorem dJ2_getChar_3b067_56 : decode cJ2_getChar_3b067 56 = .ok (.ishl, 1) := by decide +kernel
theorem dJ2_getChar_3b067_57 : decode cJ2_getChar_3b067 57 = .ok (.ior, 1) := by decide +kernel
theorem dJ2_getChar_3b067_58 : decode cJ2_getChar_3b067 58 = .ok (.i2c, 1) := by decide +kernel
theorem dJ2_getChar_3b067_59 : decode cJ2_getChar_3b067 59 = .ok (.ireturn, 1) := by decide +kernel
theorem dJ2_length_9d52b_0 : decode cJ2_length_9d52b 0 = .ok (.aload_n 0, 1) := by decide +kernel
theorem dJ2_length_9d52b_1 : decode cJ2_length_9d52b 1 = .ok (.arraylength, 1) := by decide +kernel
theorem dJ2_length_9d52b_2 : decode cJ2_length_9d52b 2 = .ok (.iconst 1, 1) := by decide +kernel
theorem dJ2_length_9d52b_3 : decode cJ2_length_9d52b 3 = .ok (.ishr, 1) := by decide +kernel
theorem dJ2_length_9d52b_4 : decode cJ2_length_9d52b 4 = .ok (.ireturn, 1) := by decide +kernel
theorem dJ2_charAt_3b067_0 : decode cJ2_charAt_3b067 0 = .ok (.iload_n 1, 1) := by decide +kernel
theorem dJ2_charAt_3b067_1 : decode cJ2_charAt_3b067 1 = .ok (.aload_n 0, 1) := by decide +kernel
theorem dJ2_charAt_3b067_2 : decode cJ2_charAt_3b067 2 = .ok (.invokestatic 67, 3) := by decide +kernel
theorem dJ2_charAt_3b067_5 : decode cJ2_charAt_3b067 5 = .ok (.aload_n 0, 1) := by decide +kernel
theorem dJ2_charAt_3b067_6 : decode cJ2_charAt_3b067 6 = .ok (.iload_n 1, 1) := by decide +kernel
theorem dJ2_charAt_3b067_7 : decode cJ2_charAt_3b067 7 = .ok (.invokestatic 71, 3) := by decide +kernel
theorem dJ2_charAt_3b067_10 : decode cJ2_charAt_3b067 10 = .ok (.ireturn, 1) := by decide +kernel
theorem dJ2_checkIndex_2214a_0 : decode cJ2_checkIndex_2214a 0 = .ok (.iload_n 0, 1) := by decide +kernel
theorem dJ2_checkIndex_2214a_1 : decode cJ2_checkIndex_2214a 1 = .ok (.aload_n 1, 1) := by decide +kernel
theorem dJ2_checkIndex_2214a_2 : decode cJ2_checkIndex_2214a 2 = .ok (.invokestatic 48, 3) := by decide +kernel
theorem dJ2_checkIndex_2214a_5 : decode cJ2_checkIndex_2214a 5 = .ok (.invokestatic 414, 3) := by decide +kernel
theorem dJ2_checkIndex_2214a_8 : decode cJ2_checkIndex_2214a 8 = .ok (.return_, 1) := by decide +kernel
theorem dJ7_fill_53178_0 : decode cJ7_fill_53178 0 = .ok (.iconst 0, 1) := by decide +kernel
theorem dJ7_fill_53178_1 : decode cJ7_fill_53178 1 = .ok (.istore_n 2, 1) := by decide +kernel
theorem dJ7_fill_53178_2 : decode cJ7_fill_53178 2 = .ok (.aload_n 0, 1) := by decide +kernel
theorem dJ7_fill_53178_3 : decode cJ7_fill_53178 3 = .ok (.arraylength, 1) := by decide +kernel
theorem dJ7_fill_53178_4 : decode cJ7_fill_53178 4 = .ok (.istore_n 3, 1) := by decide +kernel
theorem dJ7_fill_53178_5 : decode cJ7_fill_53178 5 = .ok (.iload_n 2, 1) := by decide +kernel
theorem dJ7_fill_53178_6 : decode cJ7_fill_53178 6 = .ok (.iload_n 3, 1) := by decide +kernel
theorem dJ7_fill_53178_7 : decode cJ7_fill_53178 7 = .ok (.if_icmp .ge 13, 3) := by decide +kernel
theorem dJ7_fill_53178_10 : decode cJ7_fill_53178 10 = .ok (.aload_n 0, 1) := by decide +kernel
theorem dJ7_fill_53178_11 : decode cJ7_fill_53178 11 = .ok (.iload_n 2, 1) := by decide +kernel
theorem dJ7_fill_53178_12 : decode cJ7_fill_53178 12 = .ok (.iload_n 1, 1) := by decide +kernel
theorem dJ7_fill_53178_13 : decode cJ7_fill_53178 13 = .ok (.iastore, 1) := by decide +kernel
theorem dJ7_fill_53178_14 : decode cJ7_fill_53178 14 = .ok (.iinc 2 1, 3) := by decide +kernel
theorem dJ7_fill_53178_17 : decode cJ7_fill_53178 17 = .ok (.goto (-12), 3) := by decide +kernel
theorem dJ7_fill_53178_20 : decode cJ7_fill_53178 20 = .ok (.return_, 1) := by decide +kernel
theorem dJ3_checkIndex_8e157_0 : decode cJ3_checkIndex_8e157 0 = .ok (.iload_n 0, 1) := by decide +kernel
theorem dJ3_checkIndex_8e157_1 : decode cJ3_checkIndex_8e157 1 = .ok (.ifCond .lt 8, 3) := by decide +kernel
theorem dJ3_checkIndex_8e157_4 : decode cJ3_checkIndex_8e157 4 = .ok (.iload_n 0, 1) := by decide +kernel
theorem dJ3_checkIndex_8e157_5 : decode cJ3_checkIndex_8e157 5 = .ok (.iload_n 1, 1) := by decide +kernel
theorem dJ3_checkIndex_8e157_6 : decode cJ3_checkIndex_8e157 6 = .ok (.if_icmp .lt 10, 3) := by decide +kernel
theorem dJ3_checkIndex_8e157_9 : decode cJ3_checkIndex_8e157 9 = .ok (.aload_n 2, 1) := by decide +kernel
theorem dJ3_checkIndex_8e157_10 : decode cJ3_checkIndex_8e157 10 = .ok (.iload_n 0, 1) := by decide +kernel
theorem dJ3_checkIndex_8e157_11 : decode cJ3_checkIndex_8e157 11 = .ok (.iload_n 1, 1) := by decide +kernel
theorem dJ3_checkIndex_8e157_12 : decode cJ3_checkIndex_8e157 12 = .ok (.invokestatic 95, 3) := by decide +kernel
theorem dJ3_checkIndex_8e157_15 : decode cJ3_checkIndex_8e157 15 = .ok (.athrow, 1) := by decide +kernel
theorem dJ3_checkIndex_8e157_16 : decode cJ3_checkIndex_8e157 16 = .ok (.iload_n 0, 1) := by decide +kernel
theorem dJ3_checkIndex_8e157_17 : decode cJ3_checkIndex_8e157 17 = .ok (.ireturn, 1) := by decide +kernel
theorem dL_law_0 : decode cL_law 0 = .ok (.new 7, 3) := by decide +kernel
theorem dL_law_3 : decode cL_law 3 = .ok (.dup, 1) := by decide +kernel
theorem dL_law_4 : decode cL_law 4 = .ok (.invokespecial 9, 3) := by decide +kernel
theorem dL_law_7 : decode cL_law 7 = .ok (.astore_n 1, 1) := by decide +kernel
theorem dL_law_8 : decode cL_law 8 = .ok (.new 10, 3) := by decide +kernel
theorem dL_law_11 : decode cL_law 11 = .ok (.dup, 1) := by decide +kernel
theorem dL_law_12 : decode cL_law 12 = .ok (.invokespecial 12, 3) := by decide +kernel
theorem dL_law_15 : decode cL_law 15 = .ok (.astore_n 2, 1) := by decide +kernel
theorem dL_law_16 : decode cL_law 16 = .ok (.iconst 0, 1) := by decide +kernel
theorem dL_law_17 : decode cL_law 17 = .ok (.istore_n 3, 1) := by decide +kernel
theorem dL_law_18 : decode cL_law 18 = .ok (.iload_n 3, 1) := by decide +kernel
theorem dL_law_19 : decode cL_law 19 = .ok (.aload_n 0, 1) := by decide +kernel
theorem dL_law_20 : decode cL_law 20 = .ok (.arraylength, 1) := by decide +kernel
theorem dL_law_21 : decode cL_law 21 = .ok (.bipush 6, 2) := by decide +kernel
theorem dL_law_23 : decode cL_law 23 = .ok (.isub, 1) := by decide +kernel
theorem dL_law_24 : decode cL_law 24 = .ok (.if_icmp .gt 1044, 3) := by decide +kernel
theorem dL_law_27 : decode cL_law 27 = .ok (.aload_n 0, 1) := by decide +kernel
theorem dL_law_28 : decode cL_law 28 = .ok (.iload_n 3, 1) := by decide +kernel
theorem dL_law_29 : decode cL_law 29 = .ok (.iaload, 1) := by decide +kernel
theorem dL_law_30 : decode cL_law 30 = .ok (.bipush 31, 2) := by decide +kernel
theorem dL_law_32 : decode cL_law 32 = .ok (.iand, 1) := by decide +kernel
theorem dL_law_33 : decode cL_law 33 = .ok (.tableswitch 1029 0 31 #[143, 206, 229, 242, 265, 288, 321, 364, 397, 430, 473, 496, 529, 542, 585, 628, 651, 674, 697, 710, 743, 766, 789, 822, 865, 888, 901, 924, 957, 970, 993, 1006], 143) := by decide +kernel
theorem dL_law_176 : decode cL_law 176 = .ok (.aload_n 1, 1) := by decide +kernel
theorem dL_law_177 : decode cL_law 177 = .ok (.aload_n 0, 1) := by decide +kernel
theorem dL_law_178 : decode cL_law 178 = .ok (.iload_n 3, 1) := by decide +kernel
theorem dL_law_179 : decode cL_law 179 = .ok (.iconst 1, 1) := by decide +kernel
theorem dL_law_180 : decode cL_law 180 = .ok (.iadd, 1) := by decide +kernel
theorem dL_law_181 : decode cL_law 181 = .ok (.iaload, 1) := by decide +kernel
theorem dL_law_182 : decode cL_law 182 = .ok (.aload_n 0, 1) := by decide +kernel
theorem dL_law_183 : decode cL_law 183 = .ok (.iload_n 3, 1) := by decide +kernel
theorem dL_law_184 : decode cL_law 184 = .ok (.iconst 2, 1) := by decide +kernel
theorem dL_law_185 : decode cL_law 185 = .ok (.iadd, 1) := by decide +kernel
theorem dL_law_186 : decode cL_law 186 = .ok (.iaload, 1) := by decide +kernel
theorem dL_law_187 : decode cL_law 187 = .ok (.aload_n 0, 1) := by decide +kernel
theorem dL_law_188 : decode cL_law 188 = .ok (.iload_n 3, 1) := by decide +kernel
theorem dL_law_189 : decode cL_law 189 = .ok (.iconst 3, 1) := by decide +kernel
theorem dL_law_190 : decode cL_law 190 = .ok (.iadd, 1) := by decide +kernel
theorem dL_law_191 : decode cL_law 191 = .ok (.iaload, 1) := by decide +kernel
theorem dL_law_192 : decode cL_law 192 = .ok (.aload_n 0, 1) := by decide +kernel
theorem dL_law_193 : decode cL_law 193 = .ok (.iload_n 3, 1) := by decide +kernel
theorem dL_law_194 : decode cL_law 194 = .ok (.iconst 4, 1) := by decide +kernel
theorem dL_law_195 : decode cL_law 195 = .ok (.iadd, 1) := by decide +kernel
theorem dL_law_196 : decode cL_law 196 = .ok (.iaload, 1) := by decide +kernel
theorem dL_law_197 : decode cL_law 197 = .ok (.aload_n 0, 1) := by decide +kernel
theorem dL_law_198 : decode cL_law 198 = .ok (.iload_n 3, 1) := by decide +kernel
theorem dL_law_199 : decode cL_law 199 = .ok (.iconst 5, 1) := by decide +kernel
theorem dL_law_200 : decode cL_law 200 = .ok (.iadd, 1) := by decide +kernel
theorem dL_law_201 : decode cL_law 201 = .ok (.iaload, 1) := by decide +kernel
theorem dL_law_202 : decode cL_law 202 = .ok (.invokevirtual 13, 3) := by decide +kernel
theorem dL_law_205 : decode cL_law 205 = .ok (.aload_n 2, 1) := by decide +kernel
theorem dL_law_206 : decode cL_law 206 = .ok (.aload_n 0, 1) := by decide +kernel
theorem dL_law_207 : decode cL_law 207 = .ok (.iload_n 3, 1) := by decide +kernel
theorem dL_law_208 : decode cL_law 208 = .ok (.iconst 1, 1) := by decide +kernel
theorem dL_law_209 : decode cL_law 209 = .ok (.iadd, 1) := by decide +kernel
theorem dL_law_210 : decode cL_law 210 = .ok (.iaload, 1) := by decide +kernel
theorem dL_law_211 : decode cL_law 211 = .ok (.aload_n 0, 1) := by decide +kernel
theorem dL_law_212 : decode cL_law 212 = .ok (.iload_n 3, 1) := by decide +kernel
theorem dL_law_213 : decode cL_law 213 = .ok (.iconst 2, 1) := by decide +kernel
theorem dL_law_214 : decode cL_law 214 = .ok (.iadd, 1) := by decide +kernel
theorem dL_law_215 : decode cL_law 215 = .ok (.iaload, 1) := by decide +kernel
theorem dL_law_216 : decode cL_law 216 = .ok (.aload_n 0, 1) := by decide +kernel
theorem dL_law_217 : decode cL_law 217 = .ok (.iload_n 3, 1) := by decide +kernel
theorem dL_law_218 : decode cL_law 218 = .ok (.iconst 3, 1) := by decide +kernel
theorem dL_law_219 : decode cL_law 219 = .ok (.iadd, 1) := by decide +kernel
theorem dL_law_220 : decode cL_law 220 = .ok (.iaload, 1) := by decide +kernel
theorem dL_law_221 : decode cL_law 221 = .ok (.aload_n 0, 1) := by decide +kernel
theorem dL_law_222 : decode cL_law 222 = .ok (.iload_n 3, 1) := by decide +kernel
theorem dL_law_223 : decode cL_law 223 = .ok (.iconst 4, 1) := by decide +kernel
theorem dL_law_224 : decode cL_law 224 = .ok (.iadd, 1) := by decide +kernel
theorem dL_law_225 : decode cL_law 225 = .ok (.iaload, 1) := by decide +kernel
theorem dL_law_226 : decode cL_law 226 = .ok (.aload_n 0, 1) := by decide +kernel
theorem dL_law_227 : decode cL_law 227 = .ok (.iload_n 3, 1) := by decide +kernel
theorem dL_law_228 : decode cL_law 228 = .ok (.iconst 5, 1) := by decide +kernel
theorem dL_law_229 : decode cL_law 229 = .ok (.iadd, 1) := by decide +kernel
theorem dL_law_230 : decode cL_law 230 = .ok (.iaload, 1) := by decide +kernel
theorem dL_law_231 : decode cL_law 231 = .ok (.invokevirtual 17, 3) := by decide +kernel
theorem dL_law_234 : decode cL_law 234 = .ok (.if_icmp .eq 828, 3) := by decide +kernel
theorem dL_law_237 : decode cL_law 237 = .ok (.iconst 0, 1) := by decide +kernel
theorem dL_law_238 : decode cL_law 238 = .ok (.ireturn, 1) := by decide +kernel
theorem dL_law_239 : decode cL_law 239 = .ok (.aload_n 1, 1) := by decide +kernel
theorem dL_law_240 : decode cL_law 240 = .ok (.aload_n 0, 1) := by decide +kernel
theorem dL_law_241 : decode cL_law 241 = .ok (.iload_n 3, 1) := by decide +kernel
theorem dL_law_242 : decode cL_law 242 = .ok (.iconst 1, 1) := by decide +kernel
theorem dL_law_243 : decode cL_law 243 = .ok (.iadd, 1) := by decide +kernel
theorem dL_law_244 : decode cL_law 244 = .ok (.iaload, 1) := by decide +kernel
theorem dL_law_245 : decode cL_law 245 = .ok (.invokevirtual 18, 3) := by decide +kernel
theorem dL_law_248 : decode cL_law 248 = .ok (.aload_n 2, 1) := by decide +kernel
theorem dL_law_249 : decode cL_law 249 = .ok (.aload_n 0, 1) := by decide +kernel
theorem dL_law_250 : decode cL_law 250 = .ok (.iload_n 3, 1) := by decide +kernel
theorem dL_law_251 : decode cL_law 251 = .ok (.iconst 1, 1) := by decide +kernel
theorem dL_law_252 : decode cL_law 252 = .ok (.iadd, 1) := by decide +kernel
theorem dL_law_253 : decode cL_law 253 = .ok (.iaload, 1) := by decide +kernel
theorem dL_law_254 : decode cL_law 254 = .ok (.invokevirtual 22, 3) := by decide +kernel
theorem dL_law_257 : decode cL_law 257 = .ok (.if_icmp .eq 805, 3) := by decide +kernel
theorem dL_law_260 : decode cL_law 260 = .ok (.iconst 0, 1) := by decide +kernel
theorem dL_law_261 : decode cL_law 261 = .ok (.ireturn, 1) := by decide +kernel
theorem dL_law_262 : decode cL_law 262 = .ok (.aload_n 1, 1) := by decide +kernel
theorem dL_law_263 : decode cL_law 263 = .ok (.invokevirtual 23, 3) := by decide +kernel
theorem dL_law_266 : decode cL_law 266 = .ok (.aload_n 2, 1) := by decide +kernel
theorem dL_law_267 : decode cL_law 267 = .ok (.invokevirtual 27, 3) := by decide +kernel
theorem dL_law_270 : decode cL_law 270 = .ok (.if_icmp .eq 792, 3) := by decide +kernel
theorem dL_law_273 : decode cL_law 273 = .ok (.iconst 0, 1) := by decide +kernel
theorem dL_law_274 : decode cL_law 274 = .ok (.ireturn, 1) := by decide +kernel
theorem dL_law_275 : decode cL_law 275 = .ok (.aload_n 1, 1) := by decide +kernel
theorem dL_law_276 : decode cL_law 276 = .ok (.aload_n 0, 1) := by decide +kernel
theorem dL_law_277 : decode cL_law 277 = .ok (.iload_n 3, 1) := by decide +kernel
theorem dL_law_278 : decode cL_law 278 = .ok (.iconst 1, 1) := by decide +kernel
theorem dL_law_279 : decode cL_law 279 = .ok (.iadd, 1) := by decide +kernel
theorem dL_law_280 : decode cL_law 280 = .ok (.iaload, 1) := by decide +kernel
theorem dL_law_281 : decode cL_law 281 = .ok (.invokevirtual 28, 3) := by decide +kernel
theorem dL_law_284 : decode cL_law 284 = .ok (.aload_n 2, 1) := by decide +kernel
theorem dL_law_285 : decode cL_law 285 = .ok (.aload_n 0, 1) := by decide +kernel
theorem dL_law_286 : decode cL_law 286 = .ok (.iload_n 3, 1) := by decide +kernel
theorem dL_law_287 : decode cL_law 287 = .ok (.iconst 1, 1) := by decide +kernel
theorem dL_law_288 : decode cL_law 288 = .ok (.iadd, 1) := by decide +kernel
theorem dL_law_289 : decode cL_law 289 = .ok (.iaload, 1) := by decide +kernel
theorem dL_law_290 : decode cL_law 290 = .ok (.invokevirtual 32, 3) := by decide +kernel
theorem dL_law_293 : decode cL_law 293 = .ok (.if_icmp .eq 769, 3) := by decide +kernel
theorem dL_law_296 : decode cL_law 296 = .ok (.iconst 0, 1) := by decide +kernel
theorem dL_law_297 : decode cL_law 297 = .ok (.ireturn, 1) := by decide +kernel
theorem dL_law_298 : decode cL_law 298 = .ok (.aload_n 1, 1) := by decide +kernel
theorem dL_law_299 : decode cL_law 299 = .ok (.aload_n 0, 1) := by decide +kernel
theorem dL_law_300 : decode cL_law 300 = .ok (.iload_n 3, 1) := by decide +kernel
theorem dL_law_301 : decode cL_law 301 = .ok (.iconst 1, 1) := by decide +kernel
theorem dL_law_302 : decode cL_law 302 = .ok (.iadd, 1) := by decide +kernel
theorem dL_law_303 : decode cL_law 303 = .ok (.iaload, 1) := by decide +kernel
theorem dL_law_304 : decode cL_law 304 = .ok (.invokevirtual 33, 3) := by decide +kernel
theorem dL_law_307 : decode cL_law 307 = .ok (.aload_n 2, 1) := by decide +kernel
theorem dL_law_308 : decode cL_law 308 = .ok (.aload_n 0, 1) := by decide +kernel
theorem dL_law_309 : decode cL_law 309 = .ok (.iload_n 3, 1) := by decide +kernel
theorem dL_law_310 : decode cL_law 310 = .ok (.iconst 1, 1) := by decide +kernel
theorem dL_law_311 : decode cL_law 311 = .ok (.iadd, 1) := by decide +kernel
theorem dL_law_312 : decode cL_law 312 = .ok (.iaload, 1) := by decide +kernel
theorem dL_law_313 : decode cL_law 313 = .ok (.invokevirtual 36, 3) := by decide +kernel
theorem dL_law_316 : decode cL_law 316 = .ok (.if_icmp .eq 746, 3) := by decide +kernel
theorem dL_law_319 : decode cL_law 319 = .ok (.iconst 0, 1) := by decide +kernel
theorem dL_law_320 : decode cL_law 320 = .ok (.ireturn, 1) := by decide +kernel
theorem dL_law_321 : decode cL_law 321 = .ok (.aload_n 1, 1) := by decide +kernel
theorem dL_law_322 : decode cL_law 322 = .ok (.aload_n 0, 1) := by decide +kernel
theorem dL_law_323 : decode cL_law 323 = .ok (.iload_n 3, 1) := by decide +kernel
theorem dL_law_324 : decode cL_law 324 = .ok (.iconst 1, 1) := by decide +kernel
theorem dL_law_325 : decode cL_law 325 = .ok (.iadd, 1) := by decide +kernel
theorem dL_law_326 : decode cL_law 326 = .ok (.iaload, 1) := by decide +kernel
theorem dL_law_327 : decode cL_law 327 = .ok (.aload_n 0, 1) := by decide +kernel
theorem dL_law_328 : decode cL_law 328 = .ok (.iload_n 3, 1) := by decide +kernel
theorem dL_law_329 : decode cL_law 329 = .ok (.iconst 2, 1) := by decide +kernel
theorem dL_law_330 : decode cL_law 330 = .ok (.iadd, 1) := by decide +kernel
theorem dL_law_331 : decode cL_law 331 = .ok (.iaload, 1) := by decide +kernel
theorem dL_law_332 : decode cL_law 332 = .ok (.invokevirtual 37, 3) := by decide +kernel
theorem dL_law_335 : decode cL_law 335 = .ok (.aload_n 2, 1) := by decide +kernel
theorem dL_law_336 : decode cL_law 336 = .ok (.aload_n 0, 1) := by decide +kernel
theorem dL_law_337 : decode cL_law 337 = .ok (.iload_n 3, 1) := by decide +kernel
theorem dL_law_338 : decode cL_law 338 = .ok (.iconst 1, 1) := by decide +kernel
theorem dL_law_339 : decode cL_law 339 = .ok (.iadd, 1) := by decide +kernel
theorem dL_law_340 : decode cL_law 340 = .ok (.iaload, 1) := by decide +kernel
theorem dL_law_341 : decode cL_law 341 = .ok (.aload_n 0, 1) := by decide +kernel
theorem dL_law_342 : decode cL_law 342 = .ok (.iload_n 3, 1) := by decide +kernel
theorem dL_law_343 : decode cL_law 343 = .ok (.iconst 2, 1) := by decide +kernel
theorem dL_law_344 : decode cL_law 344 = .ok (.iadd, 1) := by decide +kernel
theorem dL_law_345 : decode cL_law 345 = .ok (.iaload, 1) := by decide +kernel
theorem dL_law_346 : decode cL_law 346 = .ok (.invokevirtual 41, 3) := by decide +kernel
theorem dL_law_349 : decode cL_law 349 = .ok (.if_icmp .eq 713, 3) := by decide +kernel
theorem dL_law_352 : decode cL_law 352 = .ok (.iconst 0, 1) := by decide +kernel
theorem dL_law_353 : decode cL_law 353 = .ok (.ireturn, 1) := by decide +kernel
theorem dL_law_354 : decode cL_law 354 = .ok (.aload_n 1, 1) := by decide +kernel
theorem dL_law_355 : decode cL_law 355 = .ok (.aload_n 0, 1) := by decide +kernel
theorem dL_law_356 : decode cL_law 356 = .ok (.iload_n 3, 1) := by decide +kernel
theorem dL_law_357 : decode cL_law 357 = .ok (.iconst 1, 1) := by decide +kernel
theorem dL_law_358 : decode cL_law 358 = .ok (.iadd, 1) := by decide +kernel
theorem dL_law_359 : decode cL_law 359 = .ok (.iaload, 1) := by decide +kernel
theorem dL_law_360 : decode cL_law 360 = .ok (.aload_n 0, 1) := by decide +kernel
theorem dL_law_361 : decode cL_law 361 = .ok (.iload_n 3, 1) := by decide +kernel
theorem dL_law_362 : decode cL_law 362 = .ok (.iconst 2, 1) := by decide +kernel
theorem dL_law_363 : decode cL_law 363 = .ok (.iadd, 1) := by decide +kernel
theorem dL_law_364 : decode cL_law 364 = .ok (.iaload, 1) := by decide +kernel
theorem dL_law_365 : decode cL_law 365 = .ok (.aload_n 0, 1) := by decide +kernel
theorem dL_law_366 : decode cL_law 366 = .ok (.iload_n 3, 1) := by decide +kernel
theorem dL_law_367 : decode cL_law 367 = .ok (.iconst 3, 1) := by decide +kernel
theorem dL_law_368 : decode cL_law 368 = .ok (.iadd, 1) := by decide +kernel
theorem dL_law_369 : decode cL_law 369 = .ok (.iaload, 1) := by decide +kernel
theorem dL_law_370 : decode cL_law 370 = .ok (.invokevirtual 42, 3) := by decide +kernel
theorem dL_law_373 : decode cL_law 373 = .ok (.aload_n 2, 1) := by decide +kernel
theorem dL_law_374 : decode cL_law 374 = .ok (.aload_n 0, 1) := by decide +kernel
theorem dL_law_375 : decode cL_law 375 = .ok (.iload_n 3, 1) := by decide +kernel
theorem dL_law_376 : decode cL_law 376 = .ok (.iconst 1, 1) := by decide +kernel
theorem dL_law_377 : decode cL_law 377 = .ok (.iadd, 1) := by decide +kernel
theorem dL_law_378 : decode cL_law 378 = .ok (.iaload, 1) := by decide +kernel
theorem dL_law_379 : decode cL_law 379 = .ok (.aload_n 0, 1) := by decide +kernel
theorem dL_law_380 : decode cL_law 380 = .ok (.iload_n 3, 1) := by decide +kernel
theorem dL_law_381 : decode cL_law 381 = .ok (.iconst 2, 1) := by decide +kernel
theorem dL_law_382 : decode cL_law 382 = .ok (.iadd, 1) := by decide +kernel
theorem dL_law_383 : decode cL_law 383 = .ok (.iaload, 1) := by decide +kernel
theorem dL_law_384 : decode cL_law 384 = .ok (.aload_n 0, 1) := by decide +kernel
theorem dL_law_385 : decode cL_law 385 = .ok (.iload_n 3, 1) := by decide +kernel
theorem dL_law_386 : decode cL_law 386 = .ok (.iconst 3, 1) := by decide +kernel
theorem dL_law_387 : decode cL_law 387 = .ok (.iadd, 1) := by decide +kernel
theorem dL_law_388 : decode cL_law 388 = .ok (.iaload, 1) := by decide +kernel
theorem dL_law_389 : decode cL_law 389 = .ok (.invokevirtual 46, 3) := by decide +kernel
theorem dL_law_392 : decode cL_law 392 = .ok (.if_icmp .eq 670, 3) := by decide +kernel
theorem dL_law_395 : decode cL_law 395 = .ok (.iconst 0, 1) := by decide +kernel
theorem dL_law_396 : decode cL_law 396 = .ok (.ireturn, 1) := by decide +kernel
theorem dL_law_397 : decode cL_law 397 = .ok (.aload_n 1, 1) := by decide +kernel
theorem dL_law_398 : decode cL_law 398 = .ok (.aload_n 0, 1) := by decide +kernel
theorem dL_law_399 : decode cL_law 399 = .ok (.iload_n 3, 1) := by decide +kernel
theorem dL_law_400 : decode cL_law 400 = .ok (.iconst 1, 1) := by decide +kernel
theorem dL_law_401 : decode cL_law 401 = .ok (.iadd, 1) := by decide +kernel
theorem dL_law_402 : decode cL_law 402 = .ok (.iaload, 1) := by decide +kernel
theorem dL_law_403 : decode cL_law 403 = .ok (.aload_n 0, 1) := by decide +kernel
theorem dL_law_404 : decode cL_law 404 = .ok (.iload_n 3, 1) := by decide +kernel
theorem dL_law_405 : decode cL_law 405 = .ok (.iconst 2, 1) := by decide +kernel
theorem dL_law_406 : decode cL_law 406 = .ok (.iadd, 1) := by decide +kernel
theorem dL_law_407 : decode cL_law 407 = .ok (.iaload, 1) := by decide +kernel
theorem dL_law_408 : decode cL_law 408 = .ok (.invokevirtual 47, 3) := by decide +kernel
theorem dL_law_411 : decode cL_law 411 = .ok (.aload_n 2, 1) := by decide +kernel
theorem dL_law_412 : decode cL_law 412 = .ok (.aload_n 0, 1) := by decide +kernel
theorem dL_law_413 : decode cL_law 413 = .ok (.iload_n 3, 1) := by decide +kernel
theorem dL_law_414 : decode cL_law 414 = .ok (.iconst 1, 1) := by decide +kernel
theorem dL_law_415 : decode cL_law 415 = .ok (.iadd, 1) := by decide +kernel
theorem dL_law_416 : decode cL_law 416 = .ok (.iaload, 1) := by decide +kernel
theorem dL_law_417 : decode cL_law 417 = .ok (.aload_n 0, 1) := by decide +kernel
theorem dL_law_418 : decode cL_law 418 = .ok (.iload_n 3, 1) := by decide +kernel
theorem dL_law_419 : decode cL_law 419 = .ok (.iconst 2, 1) := by decide +kernel
theorem dL_law_420 : decode cL_law 420 = .ok (.iadd, 1) := by decide +kernel
theorem dL_law_421 : decode cL_law 421 = .ok (.iaload, 1) := by decide +kernel
theorem dL_law_422 : decode cL_law 422 = .ok (.invokevirtual 50, 3) := by decide +kernel
theorem dL_law_425 : decode cL_law 425 = .ok (.if_icmp .eq 637, 3) := by decide +kernel
theorem dL_law_428 : decode cL_law 428 = .ok (.iconst 0, 1) := by decide +kernel
theorem dL_law_429 : decode cL_law 429 = .ok (.ireturn, 1) := by decide +kernel
theorem dL_law_430 : decode cL_law 430 = .ok (.aload_n 1, 1) := by decide +kernel
theorem dL_law_431 : decode cL_law 431 = .ok (.aload_n 0, 1) := by decide +kernel
theorem dL_law_432 : decode cL_law 432 = .ok (.iload_n 3, 1) := by decide +kernel
theorem dL_law_433 : decode cL_law 433 = .ok (.iconst 1, 1) := by decide +kernel
theorem dL_law_434 : decode cL_law 434 = .ok (.iadd, 1) := by decide +kernel
theorem dL_law_435 : decode cL_law 435 = .ok (.iaload, 1) := by decide +kernel
theorem dL_law_436 : decode cL_law 436 = .ok (.aload_n 0, 1) := by decide +kernel
theorem dL_law_437 : decode cL_law 437 = .ok (.iload_n 3, 1) := by decide +kernel
theorem dL_law_438 : decode cL_law 438 = .ok (.iconst 2, 1) := by decide +kernel
theorem dL_law_439 : decode cL_law 439 = .ok (.iadd, 1) := by decide +kernel
theorem dL_law_440 : decode cL_law 440 = .ok (.iaload, 1) := by decide +kernel
theorem dL_law_441 : decode cL_law 441 = .ok (.invokevirtual 51, 3) := by decide +kernel
theorem dL_law_444 : decode cL_law 444 = .ok (.aload_n 2, 1) := by decide +kernel
theorem dL_law_445 : decode cL_law 445 = .ok (.aload_n 0, 1) := by decide +kernel
theorem dL_law_446 : decode cL_law 446 = .ok (.iload_n 3, 1) := by decide +kernel
theorem dL_law_447 : decode cL_law 447 = .ok (.iconst 1, 1) := by decide +kernel
theorem dL_law_448 : decode cL_law 448 = .ok (.iadd, 1) := by decide +kernel
theorem dL_law_449 : decode cL_law 449 = .ok (.iaload, 1) := by decide +kernel
theorem dL_law_450 : decode cL_law 450 = .ok (.aload_n 0, 1) := by decide +kernel
theorem dL_law_451 : decode cL_law 451 = .ok (.iload_n 3, 1) := by decide +kernel
theorem dL_law_452 : decode cL_law 452 = .ok (.iconst 2, 1) := by decide +kernel
theorem dL_law_453 : decode cL_law 453 = .ok (.iadd, 1) := by decide +kernel
theorem dL_law_454 : decode cL_law 454 = .ok (.iaload, 1) := by decide +kernel
theorem dL_law_455 : decode cL_law 455 = .ok (.invokevirtual 54, 3) := by decide +kernel
theorem dL_law_458 : decode cL_law 458 = .ok (.if_icmp .eq 604, 3) := by decide +kernel
theorem dL_law_461 : decode cL_law 461 = .ok (.iconst 0, 1) := by decide +kernel
theorem dL_law_462 : decode cL_law 462 = .ok (.ireturn, 1) := by decide +kernel
theorem dL_law_463 : decode cL_law 463 = .ok (.aload_n 1, 1) := by decide +kernel
theorem dL_law_464 : decode cL_law 464 = .ok (.aload_n 0, 1) := by decide +kernel
theorem dL_law_465 : decode cL_law 465 = .ok (.iload_n 3, 1) := by decide +kernel
theorem dL_law_466 : decode cL_law 466 = .ok (.iconst 1, 1) := by decide +kernel
theorem dL_law_467 : decode cL_law 467 = .ok (.iadd, 1) := by decide +kernel
theorem dL_law_468 : decode cL_law 468 = .ok (.iaload, 1) := by decide +kernel
theorem dL_law_469 : decode cL_law 469 = .ok (.aload_n 0, 1) := by decide +kernel
theorem dL_law_470 : decode cL_law 470 = .ok (.iload_n 3, 1) := by decide +kernel
theorem dL_law_471 : decode cL_law 471 = .ok (.iconst 2, 1) := by decide +kernel
theorem dL_law_472 : decode cL_law 472 = .ok (.iadd, 1) := by decide +kernel
theorem dL_law_473 : decode cL_law 473 = .ok (.iaload, 1) := by decide +kernel
theorem dL_law_474 : decode cL_law 474 = .ok (.aload_n 0, 1) := by decide +kernel
theorem dL_law_475 : decode cL_law 475 = .ok (.iload_n 3, 1) := by decide +kernel
theorem dL_law_476 : decode cL_law 476 = .ok (.iconst 3, 1) := by decide +kernel
theorem dL_law_477 : decode cL_law 477 = .ok (.iadd, 1) := by decide +kernel
theorem dL_law_478 : decode cL_law 478 = .ok (.iaload, 1) := by decide +kernel
theorem dL_law_479 : decode cL_law 479 = .ok (.invokevirtual 55, 3) := by decide +kernel
theorem dL_law_482 : decode cL_law 482 = .ok (.aload_n 2, 1) := by decide +kernel
theorem dL_law_483 : decode cL_law 483 = .ok (.aload_n 0, 1) := by decide +kernel
theorem dL_law_484 : decode cL_law 484 = .ok (.iload_n 3, 1) := by decide +kernel
theorem dL_law_485 : decode cL_law 485 = .ok (.iconst 1, 1) := by decide +kernel
theorem dL_law_486 : decode cL_law 486 = .ok (.iadd, 1) := by decide +kernel
theorem dL_law_487 : decode cL_law 487 = .ok (.iaload, 1) := by decide +kernel
theorem dL_law_488 : decode cL_law 488 = .ok (.aload_n 0, 1) := by decide +kernel
theorem dL_law_489 : decode cL_law 489 = .ok (.iload_n 3, 1) := by decide +kernel
theorem dL_law_490 : decode cL_law 490 = .ok (.iconst 2, 1) := by decide +kernel
theorem dL_law_491 : decode cL_law 491 = .ok (.iadd, 1) := by decide +kernel
theorem dL_law_492 : decode cL_law 492 = .ok (.iaload, 1) := by decide +kernel
theorem dL_law_493 : decode cL_law 493 = .ok (.aload_n 0, 1) := by decide +kernel
theorem dL_law_494 : decode cL_law 494 = .ok (.iload_n 3, 1) := by decide +kernel
theorem dL_law_495 : decode cL_law 495 = .ok (.iconst 3, 1) := by decide +kernel
theorem dL_law_496 : decode cL_law 496 = .ok (.iadd, 1) := by decide +kernel
theorem dL_law_497 : decode cL_law 497 = .ok (.iaload, 1) := by decide +kernel
theorem dL_law_498 : decode cL_law 498 = .ok (.invokevirtual 58, 3) := by decide +kernel
theorem dL_law_501 : decode cL_law 501 = .ok (.if_icmp .eq 561, 3) := by decide +kernel
theorem dL_law_504 : decode cL_law 504 = .ok (.iconst 0, 1) := by decide +kernel
theorem dL_law_505 : decode cL_law 505 = .ok (.ireturn, 1) := by decide +kernel
theorem dL_law_506 : decode cL_law 506 = .ok (.aload_n 1, 1) := by decide +kernel
theorem dL_law_507 : decode cL_law 507 = .ok (.aload_n 0, 1) := by decide +kernel
theorem dL_law_508 : decode cL_law 508 = .ok (.iload_n 3, 1) := by decide +kernel
theorem dL_law_509 : decode cL_law 509 = .ok (.iconst 1, 1) := by decide +kernel
theorem dL_law_510 : decode cL_law 510 = .ok (.iadd, 1) := by decide +kernel
theorem dL_law_511 : decode cL_law 511 = .ok (.iaload, 1) := by decide +kernel
theorem dL_law_512 : decode cL_law 512 = .ok (.invokevirtual 59, 3) := by decide +kernel
theorem dL_law_515 : decode cL_law 515 = .ok (.aload_n 2, 1) := by decide +kernel
theorem dL_law_516 : decode cL_law 516 = .ok (.aload_n 0, 1) := by decide +kernel
theorem dL_law_517 : decode cL_law 517 = .ok (.iload_n 3, 1) := by decide +kernel
theorem dL_law_518 : decode cL_law 518 = .ok (.iconst 1, 1) := by decide +kernel
theorem dL_law_519 : decode cL_law 519 = .ok (.iadd, 1) := by decide +kernel
theorem dL_law_520 : decode cL_law 520 = .ok (.iaload, 1) := by decide +kernel
theorem dL_law_521 : decode cL_law 521 = .ok (.invokevirtual 62, 3) := by decide +kernel
theorem dL_law_524 : decode cL_law 524 = .ok (.if_icmp .eq 538, 3) := by decide +kernel
theorem dL_law_527 : decode cL_law 527 = .ok (.iconst 0, 1) := by decide +kernel
theorem dL_law_528 : decode cL_law 528 = .ok (.ireturn, 1) := by decide +kernel
theorem dL_law_529 : decode cL_law 529 = .ok (.aload_n 1, 1) := by decide +kernel
theorem dL_law_530 : decode cL_law 530 = .ok (.aload_n 0, 1) := by decide +kernel
theorem dL_law_531 : decode cL_law 531 = .ok (.iload_n 3, 1) := by decide +kernel
theorem dL_law_532 : decode cL_law 532 = .ok (.iconst 1, 1) := by decide +kernel
theorem dL_law_533 : decode cL_law 533 = .ok (.iadd, 1) := by decide +kernel
theorem dL_law_534 : decode cL_law 534 = .ok (.iaload, 1) := by decide +kernel
theorem dL_law_535 : decode cL_law 535 = .ok (.aload_n 0, 1) := by decide +kernel
theorem dL_law_536 : decode cL_law 536 = .ok (.iload_n 3, 1) := by decide +kernel
theorem dL_law_537 : decode cL_law 537 = .ok (.iconst 2, 1) := by decide +kernel
theorem dL_law_538 : decode cL_law 538 = .ok (.iadd, 1) := by decide +kernel
theorem dL_law_539 : decode cL_law 539 = .ok (.iaload, 1) := by decide +kernel
theorem dL_law_540 : decode cL_law 540 = .ok (.invokevirtual 63, 3) := by decide +kernel
theorem dL_law_543 : decode cL_law 543 = .ok (.aload_n 2, 1) := by decide +kernel
theorem dL_law_544 : decode cL_law 544 = .ok (.aload_n 0, 1) := by decide +kernel
theorem dL_law_545 : decode cL_law 545 = .ok (.iload_n 3, 1) := by decide +kernel
theorem dL_law_546 : decode cL_law 546 = .ok (.iconst 1, 1) := by decide +kernel
theorem dL_law_547 : decode cL_law 547 = .ok (.iadd, 1) := by decide +kernel
theorem dL_law_548 : decode cL_law 548 = .ok (.iaload, 1) := by decide +kernel
theorem dL_law_549 : decode cL_law 549 = .ok (.aload_n 0, 1) := by decide +kernel
theorem dL_law_550 : decode cL_law 550 = .ok (.iload_n 3, 1) := by decide +kernel
theorem dL_law_551 : decode cL_law 551 = .ok (.iconst 2, 1) := by decide +kernel
theorem dL_law_552 : decode cL_law 552 = .ok (.iadd, 1) := by decide +kernel
theorem dL_law_553 : decode cL_law 553 = .ok (.iaload, 1) := by decide +kernel
theorem dL_law_554 : decode cL_law 554 = .ok (.invokevirtual 66, 3) := by decide +kernel
theorem dL_law_557 : decode cL_law 557 = .ok (.if_icmp .eq 505, 3) := by decide +kernel
theorem dL_law_560 : decode cL_law 560 = .ok (.iconst 0, 1) := by decide +kernel
theorem dL_law_561 : decode cL_law 561 = .ok (.ireturn, 1) := by decide +kernel
theorem dL_law_562 : decode cL_law 562 = .ok (.aload_n 1, 1) := by decide +kernel
theorem dL_law_563 : decode cL_law 563 = .ok (.invokevirtual 67, 3) := by decide +kernel
theorem dL_law_566 : decode cL_law 566 = .ok (.aload_n 2, 1) := by decide +kernel
theorem dL_law_567 : decode cL_law 567 = .ok (.invokevirtual 70, 3) := by decide +kernel
theorem dL_law_570 : decode cL_law 570 = .ok (.if_icmp .eq 492, 3) := by decide +kernel
theorem dL_law_573 : decode cL_law 573 = .ok (.iconst 0, 1) := by decide +kernel
theorem dL_law_574 : decode cL_law 574 = .ok (.ireturn, 1) := by decide +kernel
theorem dL_law_575 : decode cL_law 575 = .ok (.aload_n 1, 1) := by decide +kernel
theorem dL_law_576 : decode cL_law 576 = .ok (.aload_n 0, 1) := by decide +kernel
theorem dL_law_577 : decode cL_law 577 = .ok (.iload_n 3, 1) := by decide +kernel
theorem dL_law_578 : decode cL_law 578 = .ok (.iconst 1, 1) := by decide +kernel
theorem dL_law_579 : decode cL_law 579 = .ok (.iadd, 1) := by decide +kernel
theorem dL_law_580 : decode cL_law 580 = .ok (.iaload, 1) := by decide +kernel
theorem dL_law_581 : decode cL_law 581 = .ok (.aload_n 0, 1) := by decide +kernel
theorem dL_law_582 : decode cL_law 582 = .ok (.iload_n 3, 1) := by decide +kernel
theorem dL_law_583 : decode cL_law 583 = .ok (.iconst 2, 1) := by decide +kernel
theorem dL_law_584 : decode cL_law 584 = .ok (.iadd, 1) := by decide +kernel
theorem dL_law_585 : decode cL_law 585 = .ok (.iaload, 1) := by decide +kernel
theorem dL_law_586 : decode cL_law 586 = .ok (.aload_n 0, 1) := by decide +kernel
theorem dL_law_587 : decode cL_law 587 = .ok (.iload_n 3, 1) := by decide +kernel
theorem dL_law_588 : decode cL_law 588 = .ok (.iconst 3, 1) := by decide +kernel
theorem dL_law_589 : decode cL_law 589 = .ok (.iadd, 1) := by decide +kernel
theorem dL_law_590 : decode cL_law 590 = .ok (.iaload, 1) := by decide +kernel
theorem dL_law_591 : decode cL_law 591 = .ok (.invokevirtual 71, 3) := by decide +kernel
theorem dL_law_594 : decode cL_law 594 = .ok (.aload_n 2, 1) := by decide +kernel
theorem dL_law_595 : decode cL_law 595 = .ok (.aload_n 0, 1) := by decide +kernel
theorem dL_law_596 : decode cL_law 596 = .ok (.iload_n 3, 1) := by decide +kernel
theorem dL_law_597 : decode cL_law 597 = .ok (.iconst 1, 1) := by decide +kernel
theorem dL_law_598 : decode cL_law 598 = .ok (.iadd, 1) := by decide +kernel
theorem dL_law_599 : decode cL_law 599 = .ok (.iaload, 1) := by decide +kernel
theorem dL_law_600 : decode cL_law 600 = .ok (.aload_n 0, 1) := by decide +kernel
theorem dL_law_601 : decode cL_law 601 = .ok (.iload_n 3, 1) := by decide +kernel
theorem dL_law_602 : decode cL_law 602 = .ok (.iconst 2, 1) := by decide +kernel
theorem dL_law_603 : decode cL_law 603 = .ok (.iadd, 1) := by decide +kernel
theorem dL_law_604 : decode cL_law 604 = .ok (.iaload, 1) := by decide +kernel
theorem dL_law_605 : decode cL_law 605 = .ok (.aload_n 0, 1) := by decide +kernel
theorem dL_law_606 : decode cL_law 606 = .ok (.iload_n 3, 1) := by decide +kernel
theorem dL_law_607 : decode cL_law 607 = .ok (.iconst 3, 1) := by decide +kernel
theorem dL_law_608 : decode cL_law 608 = .ok (.iadd, 1) := by decide +kernel
theorem dL_law_609 : decode cL_law 609 = .ok (.iaload, 1) := by decide +kernel
theorem dL_law_610 : decode cL_law 610 = .ok (.invokevirtual 74, 3) := by decide +kernel
theorem dL_law_613 : decode cL_law 613 = .ok (.if_icmp .eq 449, 3) := by decide +kernel
theorem dL_law_616 : decode cL_law 616 = .ok (.iconst 0, 1) := by decide +kernel
theorem dL_law_617 : decode cL_law 617 = .ok (.ireturn, 1) := by decide +kernel
theorem dL_law_618 : decode cL_law 618 = .ok (.aload_n 1, 1) := by decide +kernel
theorem dL_law_619 : decode cL_law 619 = .ok (.aload_n 0, 1) := by decide +kernel
theorem dL_law_620 : decode cL_law 620 = .ok (.iload_n 3, 1) := by decide +kernel
theorem dL_law_621 : decode cL_law 621 = .ok (.iconst 1, 1) := by decide +kernel
theorem dL_law_622 : decode cL_law 622 = .ok (.iadd, 1) := by decide +kernel
theorem dL_law_623 : decode cL_law 623 = .ok (.iaload, 1) := by decide +kernel
theorem dL_law_624 : decode cL_law 624 = .ok (.aload_n 0, 1) := by decide +kernel
theorem dL_law_625 : decode cL_law 625 = .ok (.iload_n 3, 1) := by decide +kernel
theorem dL_law_626 : decode cL_law 626 = .ok (.iconst 2, 1) := by decide +kernel
theorem dL_law_627 : decode cL_law 627 = .ok (.iadd, 1) := by decide +kernel
theorem dL_law_628 : decode cL_law 628 = .ok (.iaload, 1) := by decide +kernel
theorem dL_law_629 : decode cL_law 629 = .ok (.aload_n 0, 1) := by decide +kernel
theorem dL_law_630 : decode cL_law 630 = .ok (.iload_n 3, 1) := by decide +kernel
theorem dL_law_631 : decode cL_law 631 = .ok (.iconst 3, 1) := by decide +kernel
theorem dL_law_632 : decode cL_law 632 = .ok (.iadd, 1) := by decide +kernel
theorem dL_law_633 : decode cL_law 633 = .ok (.iaload, 1) := by decide +kernel
theorem dL_law_634 : decode cL_law 634 = .ok (.invokevirtual 75, 3) := by decide +kernel
theorem dL_law_637 : decode cL_law 637 = .ok (.aload_n 2, 1) := by decide +kernel
theorem dL_law_638 : decode cL_law 638 = .ok (.aload_n 0, 1) := by decide +kernel
theorem dL_law_639 : decode cL_law 639 = .ok (.iload_n 3, 1) := by decide +kernel
theorem dL_law_640 : decode cL_law 640 = .ok (.iconst 1, 1) := by decide +kernel
theorem dL_law_641 : decode cL_law 641 = .ok (.iadd, 1) := by decide +kernel
theorem dL_law_642 : decode cL_law 642 = .ok (.iaload, 1) := by decide +kernel
theorem dL_law_643 : decode cL_law 643 = .ok (.aload_n 0, 1) := by decide +kernel
theorem dL_law_644 : decode cL_law 644 = .ok (.iload_n 3, 1) := by decide +kernel
theorem dL_law_645 : decode cL_law 645 = .ok (.iconst 2, 1) := by decide +kernel
theorem dL_law_646 : decode cL_law 646 = .ok (.iadd, 1) := by decide +kernel
theorem dL_law_647 : decode cL_law 647 = .ok (.iaload, 1) := by decide +kernel
theorem dL_law_648 : decode cL_law 648 = .ok (.aload_n 0, 1) := by decide +kernel
theorem dL_law_649 : decode cL_law 649 = .ok (.iload_n 3, 1) := by decide +kernel
theorem dL_law_650 : decode cL_law 650 = .ok (.iconst 3, 1) := by decide +kernel
theorem dL_law_651 : decode cL_law 651 = .ok (.iadd, 1) := by decide +kernel
theorem dL_law_652 : decode cL_law 652 = .ok (.iaload, 1) := by decide +kernel
theorem dL_law_653 : decode cL_law 653 = .ok (.invokevirtual 78, 3) := by decide +kernel
theorem dL_law_656 : decode cL_law 656 = .ok (.if_icmp .eq 406, 3) := by decide +kernel
theorem dL_law_659 : decode cL_law 659 = .ok (.iconst 0, 1) := by decide +kernel
theorem dL_law_660 : decode cL_law 660 = .ok (.ireturn, 1) := by decide +kernel
theorem dL_law_661 : decode cL_law 661 = .ok (.aload_n 1, 1) := by decide +kernel
theorem dL_law_662 : decode cL_law 662 = .ok (.aload_n 0, 1) := by decide +kernel
theorem dL_law_663 : decode cL_law 663 = .ok (.iload_n 3, 1) := by decide +kernel
theorem dL_law_664 : decode cL_law 664 = .ok (.iconst 1, 1) := by decide +kernel
theorem dL_law_665 : decode cL_law 665 = .ok (.iadd, 1) := by decide +kernel
theorem dL_law_666 : decode cL_law 666 = .ok (.iaload, 1) := by decide +kernel
theorem dL_law_667 : decode cL_law 667 = .ok (.invokevirtual 79, 3) := by decide +kernel
theorem dL_law_670 : decode cL_law 670 = .ok (.aload_n 2, 1) := by decide +kernel
theorem dL_law_671 : decode cL_law 671 = .ok (.aload_n 0, 1) := by decide +kernel
theorem dL_law_672 : decode cL_law 672 = .ok (.iload_n 3, 1) := by decide +kernel
theorem dL_law_673 : decode cL_law 673 = .ok (.iconst 1, 1) := by decide +kernel
theorem dL_law_674 : decode cL_law 674 = .ok (.iadd, 1) := by decide +kernel
theorem dL_law_675 : decode cL_law 675 = .ok (.iaload, 1) := by decide +kernel
theorem dL_law_676 : decode cL_law 676 = .ok (.invokevirtual 82, 3) := by decide +kernel
theorem dL_law_679 : decode cL_law 679 = .ok (.if_icmp .eq 383, 3) := by decide +kernel
theorem dL_law_682 : decode cL_law 682 = .ok (.iconst 0, 1) := by decide +kernel
theorem dL_law_683 : decode cL_law 683 = .ok (.ireturn, 1) := by decide +kernel
theorem dL_law_684 : decode cL_law 684 = .ok (.aload_n 1, 1) := by decide +kernel
theorem dL_law_685 : decode cL_law 685 = .ok (.aload_n 0, 1) := by decide +kernel
theorem dL_law_686 : decode cL_law 686 = .ok (.iload_n 3, 1) := by decide +kernel
theorem dL_law_687 : decode cL_law 687 = .ok (.iconst 1, 1) := by decide +kernel
theorem dL_law_688 : decode cL_law 688 = .ok (.iadd, 1) := by decide +kernel
theorem dL_law_689 : decode cL_law 689 = .ok (.iaload, 1) := by decide +kernel
theorem dL_law_690 : decode cL_law 690 = .ok (.invokevirtual 83, 3) := by decide +kernel
theorem dL_law_693 : decode cL_law 693 = .ok (.aload_n 2, 1) := by decide +kernel
theorem dL_law_694 : decode cL_law 694 = .ok (.aload_n 0, 1) := by decide +kernel
theorem dL_law_695 : decode cL_law 695 = .ok (.iload_n 3, 1) := by decide +kernel
theorem dL_law_696 : decode cL_law 696 = .ok (.iconst 1, 1) := by decide +kernel
theorem dL_law_697 : decode cL_law 697 = .ok (.iadd, 1) := by decide +kernel
theorem dL_law_698 : decode cL_law 698 = .ok (.iaload, 1) := by decide +kernel
theorem dL_law_699 : decode cL_law 699 = .ok (.invokevirtual 86, 3) := by decide +kernel
theorem dL_law_702 : decode cL_law 702 = .ok (.if_icmp .eq 360, 3) := by decide +kernel
theorem dL_law_705 : decode cL_law 705 = .ok (.iconst 0, 1) := by decide +kernel
theorem dL_law_706 : decode cL_law 706 = .ok (.ireturn, 1) := by decide +kernel
theorem dL_law_707 : decode cL_law 707 = .ok (.aload_n 1, 1) := by decide +kernel
theorem dL_law_708 : decode cL_law 708 = .ok (.aload_n 0, 1) := by decide +kernel
theorem dL_law_709 : decode cL_law 709 = .ok (.iload_n 3, 1) := by decide +kernel
theorem dL_law_710 : decode cL_law 710 = .ok (.iconst 1, 1) := by decide +kernel
theorem dL_law_711 : decode cL_law 711 = .ok (.iadd, 1) := by decide +kernel
theorem dL_law_712 : decode cL_law 712 = .ok (.iaload, 1) := by decide +kernel
theorem dL_law_713 : decode cL_law 713 = .ok (.invokevirtual 87, 3) := by decide +kernel
theorem dL_law_716 : decode cL_law 716 = .ok (.aload_n 2, 1) := by decide +kernel
theorem dL_law_717 : decode cL_law 717 = .ok (.aload_n 0, 1) := by decide +kernel
theorem dL_law_718 : decode cL_law 718 = .ok (.iload_n 3, 1) := by decide +kernel
theorem dL_law_719 : decode cL_law 719 = .ok (.iconst 1, 1) := by decide +kernel
theorem dL_law_720 : decode cL_law 720 = .ok (.iadd, 1) := by decide +kernel
theorem dL_law_721 : decode cL_law 721 = .ok (.iaload, 1) := by decide +kernel
theorem dL_law_722 : decode cL_law 722 = .ok (.invokevirtual 90, 3) := by decide +kernel
theorem dL_law_725 : decode cL_law 725 = .ok (.if_icmp .eq 337, 3) := by decide +kernel
theorem dL_law_728 : decode cL_law 728 = .ok (.iconst 0, 1) := by decide +kernel
theorem dL_law_729 : decode cL_law 729 = .ok (.ireturn, 1) := by decide +kernel
theorem dL_law_730 : decode cL_law 730 = .ok (.aload_n 1, 1) := by decide +kernel
theorem dL_law_731 : decode cL_law 731 = .ok (.invokevirtual 91, 3) := by decide +kernel
theorem dL_law_734 : decode cL_law 734 = .ok (.aload_n 2, 1) := by decide +kernel
theorem dL_law_735 : decode cL_law 735 = .ok (.invokevirtual 94, 3) := by decide +kernel
theorem dL_law_738 : decode cL_law 738 = .ok (.if_icmp .eq 324, 3) := by decide +kernel
theorem dL_law_741 : decode cL_law 741 = .ok (.iconst 0, 1) := by decide +kernel
theorem dL_law_742 : decode cL_law 742 = .ok (.ireturn, 1) := by decide +kernel
theorem dL_law_743 : decode cL_law 743 = .ok (.aload_n 1, 1) := by decide +kernel
theorem dL_law_744 : decode cL_law 744 = .ok (.aload_n 0, 1) := by decide +kernel
theorem dL_law_745 : decode cL_law 745 = .ok (.iload_n 3, 1) := by decide +kernel
theorem dL_law_746 : decode cL_law 746 = .ok (.iconst 1, 1) := by decide +kernel
theorem dL_law_747 : decode cL_law 747 = .ok (.iadd, 1) := by decide +kernel
theorem dL_law_748 : decode cL_law 748 = .ok (.iaload, 1) := by decide +kernel
theorem dL_law_749 : decode cL_law 749 = .ok (.aload_n 0, 1) := by decide +kernel
theorem dL_law_750 : decode cL_law 750 = .ok (.iload_n 3, 1) := by decide +kernel
theorem dL_law_751 : decode cL_law 751 = .ok (.iconst 2, 1) := by decide +kernel
theorem dL_law_752 : decode cL_law 752 = .ok (.iadd, 1) := by decide +kernel
theorem dL_law_753 : decode cL_law 753 = .ok (.iaload, 1) := by decide +kernel
theorem dL_law_754 : decode cL_law 754 = .ok (.invokevirtual 95, 3) := by decide +kernel
theorem dL_law_757 : decode cL_law 757 = .ok (.aload_n 2, 1) := by decide +kernel
theorem dL_law_758 : decode cL_law 758 = .ok (.aload_n 0, 1) := by decide +kernel
theorem dL_law_759 : decode cL_law 759 = .ok (.iload_n 3, 1) := by decide +kernel
theorem dL_law_760 : decode cL_law 760 = .ok (.iconst 1, 1) := by decide +kernel
theorem dL_law_761 : decode cL_law 761 = .ok (.iadd, 1) := by decide +kernel
theorem dL_law_762 : decode cL_law 762 = .ok (.iaload, 1) := by decide +kernel
theorem dL_law_763 : decode cL_law 763 = .ok (.aload_n 0, 1) := by decide +kernel
theorem dL_law_764 : decode cL_law 764 = .ok (.iload_n 3, 1) := by decide +kernel
theorem dL_law_765 : decode cL_law 765 = .ok (.iconst 2, 1) := by decide +kernel
theorem dL_law_766 : decode cL_law 766 = .ok (.iadd, 1) := by decide +kernel
theorem dL_law_767 : decode cL_law 767 = .ok (.iaload, 1) := by decide +kernel
theorem dL_law_768 : decode cL_law 768 = .ok (.invokevirtual 98, 3) := by decide +kernel
theorem dL_law_771 : decode cL_law 771 = .ok (.if_icmp .eq 291, 3) := by decide +kernel
theorem dL_law_774 : decode cL_law 774 = .ok (.iconst 0, 1) := by decide +kernel
theorem dL_law_775 : decode cL_law 775 = .ok (.ireturn, 1) := by decide +kernel
theorem dL_law_776 : decode cL_law 776 = .ok (.aload_n 1, 1) := by decide +kernel
theorem dL_law_777 : decode cL_law 777 = .ok (.aload_n 0, 1) := by decide +kernel
theorem dL_law_778 : decode cL_law 778 = .ok (.iload_n 3, 1) := by decide +kernel
theorem dL_law_779 : decode cL_law 779 = .ok (.iconst 1, 1) := by decide +kernel
theorem dL_law_780 : decode cL_law 780 = .ok (.iadd, 1) := by decide +kernel
theorem dL_law_781 : decode cL_law 781 = .ok (.iaload, 1) := by decide +kernel
theorem dL_law_782 : decode cL_law 782 = .ok (.invokevirtual 99, 3) := by decide +kernel
theorem dL_law_785 : decode cL_law 785 = .ok (.aload_n 2, 1) := by decide +kernel
theorem dL_law_786 : decode cL_law 786 = .ok (.aload_n 0, 1) := by decide +kernel
theorem dL_law_787 : decode cL_law 787 = .ok (.iload_n 3, 1) := by decide +kernel
theorem dL_law_788 : decode cL_law 788 = .ok (.iconst 1, 1) := by decide +kernel
theorem dL_law_789 : decode cL_law 789 = .ok (.iadd, 1) := by decide +kernel
theorem dL_law_790 : decode cL_law 790 = .ok (.iaload, 1) := by decide +kernel
theorem dL_law_791 : decode cL_law 791 = .ok (.invokevirtual 102, 3) := by decide +kernel
theorem dL_law_794 : decode cL_law 794 = .ok (.if_icmp .eq 268, 3) := by decide +kernel
theorem dL_law_797 : decode cL_law 797 = .ok (.iconst 0, 1) := by decide +kernel
theorem dL_law_798 : decode cL_law 798 = .ok (.ireturn, 1) := by decide +kernel
theorem dL_law_799 : decode cL_law 799 = .ok (.aload_n 1, 1) := by decide +kernel
theorem dL_law_800 : decode cL_law 800 = .ok (.aload_n 0, 1) := by decide +kernel
theorem dL_law_801 : decode cL_law 801 = .ok (.iload_n 3, 1) := by decide +kernel
theorem dL_law_802 : decode cL_law 802 = .ok (.iconst 1, 1) := by decide +kernel
theorem dL_law_803 : decode cL_law 803 = .ok (.iadd, 1) := by decide +kernel
theorem dL_law_804 : decode cL_law 804 = .ok (.iaload, 1) := by decide +kernel
theorem dL_law_805 : decode cL_law 805 = .ok (.invokevirtual 103, 3) := by decide +kernel
theorem dL_law_808 : decode cL_law 808 = .ok (.aload_n 2, 1) := by decide +kernel
theorem dL_law_809 : decode cL_law 809 = .ok (.aload_n 0, 1) := by decide +kernel
theorem dL_law_810 : decode cL_law 810 = .ok (.iload_n 3, 1) := by decide +kernel
theorem dL_law_811 : decode cL_law 811 = .ok (.iconst 1, 1) := by decide +kernel
theorem dL_law_812 : decode cL_law 812 = .ok (.iadd, 1) := by decide +kernel
theorem dL_law_813 : decode cL_law 813 = .ok (.iaload, 1) := by decide +kernel
theorem dL_law_814 : decode cL_law 814 = .ok (.invokevirtual 106, 3) := by decide +kernel
theorem dL_law_817 : decode cL_law 817 = .ok (.if_icmp .eq 245, 3) := by decide +kernel
theorem dL_law_820 : decode cL_law 820 = .ok (.iconst 0, 1) := by decide +kernel
theorem dL_law_821 : decode cL_law 821 = .ok (.ireturn, 1) := by decide +kernel
theorem dL_law_822 : decode cL_law 822 = .ok (.aload_n 1, 1) := by decide +kernel
theorem dL_law_823 : decode cL_law 823 = .ok (.aload_n 0, 1) := by decide +kernel
theorem dL_law_824 : decode cL_law 824 = .ok (.iload_n 3, 1) := by decide +kernel
theorem dL_law_825 : decode cL_law 825 = .ok (.iconst 1, 1) := by decide +kernel
theorem dL_law_826 : decode cL_law 826 = .ok (.iadd, 1) := by decide +kernel
theorem dL_law_827 : decode cL_law 827 = .ok (.iaload, 1) := by decide +kernel
theorem dL_law_828 : decode cL_law 828 = .ok (.aload_n 0, 1) := by decide +kernel
theorem dL_law_829 : decode cL_law 829 = .ok (.iload_n 3, 1) := by decide +kernel
theorem dL_law_830 : decode cL_law 830 = .ok (.iconst 2, 1) := by decide +kernel
theorem dL_law_831 : decode cL_law 831 = .ok (.iadd, 1) := by decide +kernel
theorem dL_law_832 : decode cL_law 832 = .ok (.iaload, 1) := by decide +kernel
theorem dL_law_833 : decode cL_law 833 = .ok (.invokevirtual 107, 3) := by decide +kernel
theorem dL_law_836 : decode cL_law 836 = .ok (.aload_n 2, 1) := by decide +kernel
theorem dL_law_837 : decode cL_law 837 = .ok (.aload_n 0, 1) := by decide +kernel
theorem dL_law_838 : decode cL_law 838 = .ok (.iload_n 3, 1) := by decide +kernel
theorem dL_law_839 : decode cL_law 839 = .ok (.iconst 1, 1) := by decide +kernel
theorem dL_law_840 : decode cL_law 840 = .ok (.iadd, 1) := by decide +kernel
theorem dL_law_841 : decode cL_law 841 = .ok (.iaload, 1) := by decide +kernel
theorem dL_law_842 : decode cL_law 842 = .ok (.aload_n 0, 1) := by decide +kernel
theorem dL_law_843 : decode cL_law 843 = .ok (.iload_n 3, 1) := by decide +kernel
theorem dL_law_844 : decode cL_law 844 = .ok (.iconst 2, 1) := by decide +kernel
theorem dL_law_845 : decode cL_law 845 = .ok (.iadd, 1) := by decide +kernel
theorem dL_law_846 : decode cL_law 846 = .ok (.iaload, 1) := by decide +kernel
theorem dL_law_847 : decode cL_law 847 = .ok (.invokevirtual 111, 3) := by decide +kernel
theorem dL_law_850 : decode cL_law 850 = .ok (.if_icmp .eq 212, 3) := by decide +kernel
theorem dL_law_853 : decode cL_law 853 = .ok (.iconst 0, 1) := by decide +kernel
theorem dL_law_854 : decode cL_law 854 = .ok (.ireturn, 1) := by decide +kernel
theorem dL_law_855 : decode cL_law 855 = .ok (.aload_n 1, 1) := by decide +kernel
theorem dL_law_856 : decode cL_law 856 = .ok (.aload_n 0, 1) := by decide +kernel
theorem dL_law_857 : decode cL_law 857 = .ok (.iload_n 3, 1) := by decide +kernel
theorem dL_law_858 : decode cL_law 858 = .ok (.iconst 1, 1) := by decide +kernel
theorem dL_law_859 : decode cL_law 859 = .ok (.iadd, 1) := by decide +kernel
theorem dL_law_860 : decode cL_law 860 = .ok (.iaload, 1) := by decide +kernel
theorem dL_law_861 : decode cL_law 861 = .ok (.aload_n 0, 1) := by decide +kernel
theorem dL_law_862 : decode cL_law 862 = .ok (.iload_n 3, 1) := by decide +kernel
theorem dL_law_863 : decode cL_law 863 = .ok (.iconst 2, 1) := by decide +kernel
theorem dL_law_864 : decode cL_law 864 = .ok (.iadd, 1) := by decide +kernel
theorem dL_law_865 : decode cL_law 865 = .ok (.iaload, 1) := by decide +kernel
theorem dL_law_866 : decode cL_law 866 = .ok (.aload_n 0, 1) := by decide +kernel
theorem dL_law_867 : decode cL_law 867 = .ok (.iload_n 3, 1) := by decide +kernel
theorem dL_law_868 : decode cL_law 868 = .ok (.iconst 3, 1) := by decide +kernel
theorem dL_law_869 : decode cL_law 869 = .ok (.iadd, 1) := by decide +kernel
theorem dL_law_870 : decode cL_law 870 = .ok (.iaload, 1) := by decide +kernel
theorem dL_law_871 : decode cL_law 871 = .ok (.invokevirtual 112, 3) := by decide +kernel
theorem dL_law_874 : decode cL_law 874 = .ok (.aload_n 2, 1) := by decide +kernel
theorem dL_law_875 : decode cL_law 875 = .ok (.aload_n 0, 1) := by decide +kernel
theorem dL_law_876 : decode cL_law 876 = .ok (.iload_n 3, 1) := by decide +kernel
theorem dL_law_877 : decode cL_law 877 = .ok (.iconst 1, 1) := by decide +kernel
theorem dL_law_878 : decode cL_law 878 = .ok (.iadd, 1) := by decide +kernel
theorem dL_law_879 : decode cL_law 879 = .ok (.iaload, 1) := by decide +kernel
theorem dL_law_880 : decode cL_law 880 = .ok (.aload_n 0, 1) := by decide +kernel
theorem dL_law_881 : decode cL_law 881 = .ok (.iload_n 3, 1) := by decide +kernel
theorem dL_law_882 : decode cL_law 882 = .ok (.iconst 2, 1) := by decide +kernel
theorem dL_law_883 : decode cL_law 883 = .ok (.iadd, 1) := by decide +kernel
theorem dL_law_884 : decode cL_law 884 = .ok (.iaload, 1) := by decide +kernel
theorem dL_law_885 : decode cL_law 885 = .ok (.aload_n 0, 1) := by decide +kernel
theorem dL_law_886 : decode cL_law 886 = .ok (.iload_n 3, 1) := by decide +kernel
theorem dL_law_887 : decode cL_law 887 = .ok (.iconst 3, 1) := by decide +kernel
theorem dL_law_888 : decode cL_law 888 = .ok (.iadd, 1) := by decide +kernel
theorem dL_law_889 : decode cL_law 889 = .ok (.iaload, 1) := by decide +kernel
theorem dL_law_890 : decode cL_law 890 = .ok (.invokevirtual 116, 3) := by decide +kernel
theorem dL_law_893 : decode cL_law 893 = .ok (.if_icmp .eq 169, 3) := by decide +kernel
theorem dL_law_896 : decode cL_law 896 = .ok (.iconst 0, 1) := by decide +kernel
theorem dL_law_897 : decode cL_law 897 = .ok (.ireturn, 1) := by decide +kernel
theorem dL_law_898 : decode cL_law 898 = .ok (.aload_n 1, 1) := by decide +kernel
theorem dL_law_899 : decode cL_law 899 = .ok (.aload_n 0, 1) := by decide +kernel
theorem dL_law_900 : decode cL_law 900 = .ok (.iload_n 3, 1) := by decide +kernel
theorem dL_law_901 : decode cL_law 901 = .ok (.iconst 1, 1) := by decide +kernel
theorem dL_law_902 : decode cL_law 902 = .ok (.iadd, 1) := by decide +kernel
theorem dL_law_903 : decode cL_law 903 = .ok (.iaload, 1) := by decide +kernel
theorem dL_law_904 : decode cL_law 904 = .ok (.invokevirtual 117, 3) := by decide +kernel
theorem dL_law_907 : decode cL_law 907 = .ok (.aload_n 2, 1) := by decide +kernel
theorem dL_law_908 : decode cL_law 908 = .ok (.aload_n 0, 1) := by decide +kernel
theorem dL_law_909 : decode cL_law 909 = .ok (.iload_n 3, 1) := by decide +kernel
theorem dL_law_910 : decode cL_law 910 = .ok (.iconst 1, 1) := by decide +kernel
theorem dL_law_911 : decode cL_law 911 = .ok (.iadd, 1) := by decide +kernel
theorem dL_law_912 : decode cL_law 912 = .ok (.iaload, 1) := by decide +kernel
theorem dL_law_913 : decode cL_law 913 = .ok (.invokevirtual 120, 3) := by decide +kernel
theorem dL_law_916 : decode cL_law 916 = .ok (.if_icmp .eq 146, 3) := by decide +kernel
theorem dL_law_919 : decode cL_law 919 = .ok (.iconst 0, 1) := by decide +kernel
theorem dL_law_920 : decode cL_law 920 = .ok (.ireturn, 1) := by decide +kernel
theorem dL_law_921 : decode cL_law 921 = .ok (.aload_n 1, 1) := by decide +kernel
theorem dL_law_922 : decode cL_law 922 = .ok (.invokevirtual 121, 3) := by decide +kernel
theorem dL_law_925 : decode cL_law 925 = .ok (.aload_n 2, 1) := by decide +kernel
theorem dL_law_926 : decode cL_law 926 = .ok (.invokevirtual 125, 3) := by decide +kernel
theorem dL_law_929 : decode cL_law 929 = .ok (.if_icmp .eq 133, 3) := by decide +kernel
theorem dL_law_932 : decode cL_law 932 = .ok (.iconst 0, 1) := by decide +kernel
theorem dL_law_933 : decode cL_law 933 = .ok (.ireturn, 1) := by decide +kernel
theorem dL_law_934 : decode cL_law 934 = .ok (.aload_n 1, 1) := by decide +kernel
theorem dL_law_935 : decode cL_law 935 = .ok (.aload_n 0, 1) := by decide +kernel
theorem dL_law_936 : decode cL_law 936 = .ok (.iload_n 3, 1) := by decide +kernel
theorem dL_law_937 : decode cL_law 937 = .ok (.iconst 1, 1) := by decide +kernel
theorem dL_law_938 : decode cL_law 938 = .ok (.iadd, 1) := by decide +kernel
theorem dL_law_939 : decode cL_law 939 = .ok (.iaload, 1) := by decide +kernel
theorem dL_law_940 : decode cL_law 940 = .ok (.invokevirtual 126, 3) := by decide +kernel
theorem dL_law_943 : decode cL_law 943 = .ok (.aload_n 2, 1) := by decide +kernel
theorem dL_law_944 : decode cL_law 944 = .ok (.aload_n 0, 1) := by decide +kernel
theorem dL_law_945 : decode cL_law 945 = .ok (.iload_n 3, 1) := by decide +kernel
theorem dL_law_946 : decode cL_law 946 = .ok (.iconst 1, 1) := by decide +kernel
theorem dL_law_947 : decode cL_law 947 = .ok (.iadd, 1) := by decide +kernel
theorem dL_law_948 : decode cL_law 948 = .ok (.iaload, 1) := by decide +kernel
theorem dL_law_949 : decode cL_law 949 = .ok (.invokevirtual 129, 3) := by decide +kernel
theorem dL_law_952 : decode cL_law 952 = .ok (.if_icmp .eq 110, 3) := by decide +kernel
theorem dL_law_955 : decode cL_law 955 = .ok (.iconst 0, 1) := by decide +kernel
theorem dL_law_956 : decode cL_law 956 = .ok (.ireturn, 1) := by decide +kernel
theorem dL_law_957 : decode cL_law 957 = .ok (.aload_n 1, 1) := by decide +kernel
theorem dL_law_958 : decode cL_law 958 = .ok (.aload_n 0, 1) := by decide +kernel
theorem dL_law_959 : decode cL_law 959 = .ok (.iload_n 3, 1) := by decide +kernel
theorem dL_law_960 : decode cL_law 960 = .ok (.iconst 1, 1) := by decide +kernel
theorem dL_law_961 : decode cL_law 961 = .ok (.iadd, 1) := by decide +kernel
theorem dL_law_962 : decode cL_law 962 = .ok (.iaload, 1) := by decide +kernel
theorem dL_law_963 : decode cL_law 963 = .ok (.aload_n 0, 1) := by decide +kernel
theorem dL_law_964 : decode cL_law 964 = .ok (.iload_n 3, 1) := by decide +kernel
theorem dL_law_965 : decode cL_law 965 = .ok (.iconst 2, 1) := by decide +kernel
theorem dL_law_966 : decode cL_law 966 = .ok (.iadd, 1) := by decide +kernel
theorem dL_law_967 : decode cL_law 967 = .ok (.iaload, 1) := by decide +kernel
theorem dL_law_968 : decode cL_law 968 = .ok (.invokevirtual 130, 3) := by decide +kernel
theorem dL_law_971 : decode cL_law 971 = .ok (.aload_n 2, 1) := by decide +kernel
theorem dL_law_972 : decode cL_law 972 = .ok (.aload_n 0, 1) := by decide +kernel
theorem dL_law_973 : decode cL_law 973 = .ok (.iload_n 3, 1) := by decide +kernel
theorem dL_law_974 : decode cL_law 974 = .ok (.iconst 1, 1) := by decide +kernel
theorem dL_law_975 : decode cL_law 975 = .ok (.iadd, 1) := by decide +kernel
theorem dL_law_976 : decode cL_law 976 = .ok (.iaload, 1) := by decide +kernel
theorem dL_law_977 : decode cL_law 977 = .ok (.aload_n 0, 1) := by decide +kernel
theorem dL_law_978 : decode cL_law 978 = .ok (.iload_n 3, 1) := by decide +kernel
theorem dL_law_979 : decode cL_law 979 = .ok (.iconst 2, 1) := by decide +kernel
theorem dL_law_980 : decode cL_law 980 = .ok (.iadd, 1) := by decide +kernel
theorem dL_law_981 : decode cL_law 981 = .ok (.iaload, 1) := by decide +kernel
theorem dL_law_982 : decode cL_law 982 = .ok (.invokevirtual 133, 3) := by decide +kernel
theorem dL_law_985 : decode cL_law 985 = .ok (.if_icmp .eq 77, 3) := by decide +kernel
theorem dL_law_988 : decode cL_law 988 = .ok (.iconst 0, 1) := by decide +kernel
theorem dL_law_989 : decode cL_law 989 = .ok (.ireturn, 1) := by decide +kernel
theorem dL_law_990 : decode cL_law 990 = .ok (.aload_n 1, 1) := by decide +kernel
theorem dL_law_991 : decode cL_law 991 = .ok (.invokevirtual 134, 3) := by decide +kernel
theorem dL_law_994 : decode cL_law 994 = .ok (.aload_n 2, 1) := by decide +kernel
theorem dL_law_995 : decode cL_law 995 = .ok (.invokevirtual 137, 3) := by decide +kernel
theorem dL_law_998 : decode cL_law 998 = .ok (.if_icmp .eq 64, 3) := by decide +kernel
theorem dL_law_1001 : decode cL_law 1001 = .ok (.iconst 0, 1) := by decide +kernel
theorem dL_law_1002 : decode cL_law 1002 = .ok (.ireturn, 1) := by decide +kernel
theorem dL_law_1003 : decode cL_law 1003 = .ok (.aload_n 1, 1) := by decide +kernel
theorem dL_law_1004 : decode cL_law 1004 = .ok (.aload_n 0, 1) := by decide +kernel
theorem dL_law_1005 : decode cL_law 1005 = .ok (.iload_n 3, 1) := by decide +kernel
theorem dL_law_1006 : decode cL_law 1006 = .ok (.iconst 1, 1) := by decide +kernel
theorem dL_law_1007 : decode cL_law 1007 = .ok (.iadd, 1) := by decide +kernel
theorem dL_law_1008 : decode cL_law 1008 = .ok (.iaload, 1) := by decide +kernel
theorem dL_law_1009 : decode cL_law 1009 = .ok (.invokevirtual 138, 3) := by decide +kernel
theorem dL_law_1012 : decode cL_law 1012 = .ok (.aload_n 2, 1) := by decide +kernel
theorem dL_law_1013 : decode cL_law 1013 = .ok (.aload_n 0, 1) := by decide +kernel
theorem dL_law_1014 : decode cL_law 1014 = .ok (.iload_n 3, 1) := by decide +kernel
theorem dL_law_1015 : decode cL_law 1015 = .ok (.iconst 1, 1) := by decide +kernel
theorem dL_law_1016 : decode cL_law 1016 = .ok (.iadd, 1) := by decide +kernel
theorem dL_law_1017 : decode cL_law 1017 = .ok (.iaload, 1) := by decide +kernel
theorem dL_law_1018 : decode cL_law 1018 = .ok (.invokevirtual 141, 3) := by decide +kernel
theorem dL_law_1021 : decode cL_law 1021 = .ok (.if_icmp .eq 41, 3) := by decide +kernel
theorem dL_law_1024 : decode cL_law 1024 = .ok (.iconst 0, 1) := by decide +kernel
theorem dL_law_1025 : decode cL_law 1025 = .ok (.ireturn, 1) := by decide +kernel
theorem dL_law_1026 : decode cL_law 1026 = .ok (.aload_n 1, 1) := by decide +kernel
theorem dL_law_1027 : decode cL_law 1027 = .ok (.invokevirtual 142, 3) := by decide +kernel
theorem dL_law_1030 : decode cL_law 1030 = .ok (.aload_n 2, 1) := by decide +kernel
theorem dL_law_1031 : decode cL_law 1031 = .ok (.invokevirtual 145, 3) := by decide +kernel
theorem dL_law_1034 : decode cL_law 1034 = .ok (.if_icmp .eq 28, 3) := by decide +kernel
theorem dL_law_1037 : decode cL_law 1037 = .ok (.iconst 0, 1) := by decide +kernel
theorem dL_law_1038 : decode cL_law 1038 = .ok (.ireturn, 1) := by decide +kernel
theorem dL_law_1039 : decode cL_law 1039 = .ok (.aload_n 1, 1) := by decide +kernel
theorem dL_law_1040 : decode cL_law 1040 = .ok (.aload_n 0, 1) := by decide +kernel
theorem dL_law_1041 : decode cL_law 1041 = .ok (.iload_n 3, 1) := by decide +kernel
theorem dL_law_1042 : decode cL_law 1042 = .ok (.iconst 1, 1) := by decide +kernel
theorem dL_law_1043 : decode cL_law 1043 = .ok (.iadd, 1) := by decide +kernel
theorem dL_law_1044 : decode cL_law 1044 = .ok (.iaload, 1) := by decide +kernel
theorem dL_law_1045 : decode cL_law 1045 = .ok (.invokevirtual 146, 3) := by decide +kernel
theorem dL_law_1048 : decode cL_law 1048 = .ok (.aload_n 2, 1) := by decide +kernel
theorem dL_law_1049 : decode cL_law 1049 = .ok (.aload_n 0, 1) := by decide +kernel
theorem dL_law_1050 : decode cL_law 1050 = .ok (.iload_n 3, 1) := by decide +kernel
theorem dL_law_1051 : decode cL_law 1051 = .ok (.iconst 1, 1) := by decide +kernel
theorem dL_law_1052 : decode cL_law 1052 = .ok (.iadd, 1) := by decide +kernel
theorem dL_law_1053 : decode cL_law 1053 = .ok (.iaload, 1) := by decide +kernel
theorem dL_law_1054 : decode cL_law 1054 = .ok (.invokevirtual 149, 3) := by decide +kernel
theorem dL_law_1057 : decode cL_law 1057 = .ok (.if_icmp .eq 5, 3) := by decide +kernel
theorem dL_law_1060 : decode cL_law 1060 = .ok (.iconst 0, 1) := by decide +kernel
theorem dL_law_1061 : decode cL_law 1061 = .ok (.ireturn, 1) := by decide +kernel
theorem dL_law_1062 : decode cL_law 1062 = .ok (.iinc 3 6, 3) := by decide +kernel
theorem dL_law_1065 : decode cL_law 1065 = .ok (.goto (-1047), 3) := by decide +kernel
theorem dL_law_1068 : decode cL_law 1068 = .ok (.iconst 1, 1) := by decide +kernel
theorem dL_law_1069 : decode cL_law 1069 = .ok (.ireturn, 1) := by decide +kernel
