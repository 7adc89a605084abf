theorem dX8_addDigit_73 : decode cX8_addDigit 73 = .ok (.iload_n 3, 1) := by decide +kernel
theorem dX8_addDigit_74 : decode cX8_addDigit 74 = .ok (.iaload, 1) := by decide +kernel
theorem dX8_addDigit_75 : decode cX8_addDigit 75 = .ok (.imul, 1) := by decide +kernel
theorem dX8_addDigit_76 : decode cX8_addDigit 76 = .ok (.iload_n 2, 1) := by decide +kernel
theorem dX8_addDigit_77 : decode cX8_addDigit 77 = .ok (.iadd, 1) := by decide +kernel
theorem dX8_addDigit_78 : decode cX8_addDigit 78 = .ok (.bipush 48, 2) := by decide +kernel
theorem dX8_addDigit_80 : decode cX8_addDigit 80 = .ok (.isub, 1) := by decide +kernel
theorem dX8_addDigit_81 : decode cX8_addDigit 81 = .ok (.goto 4, 3) := by decide +kernel
theorem dX8_addDigit_84 : decode cX8_addDigit 84 = .ok (.iload_n 1, 1) := by decide +kernel
theorem dX8_addDigit_85 : decode cX8_addDigit 85 = .ok (.iastore, 1) := by decide +kernel
theorem dX8_addDigit_86 : decode cX8_addDigit 86 = .ok (.iload 4, 2) := by decide +kernel
theorem dX8_addDigit_88 : decode cX8_addDigit 88 = .ok (.ireturn, 1) := by decide +kernel
theorem dX8_markOwnWord_0 : decode cX8_markOwnWord 0 = .ok (.iload_n 1, 1) := by decide +kernel
theorem dX8_markOwnWord_1 : decode cX8_markOwnWord 1 = .ok (.ifCond .lt 22, 3) := by decide +kernel
theorem dX8_markOwnWord_4 : decode cX8_markOwnWord 4 = .ok (.iload_n 1, 1) := by decide +kernel
theorem dX8_markOwnWord_5 : decode cX8_markOwnWord 5 = .ok (.aload_n 0, 1) := by decide +kernel
theorem dX8_markOwnWord_6 : decode cX8_markOwnWord 6 = .ok (.getfield 17, 3) := by decide +kernel
theorem dX8_markOwnWord_9 : decode cX8_markOwnWord 9 = .ok (.arraylength, 1) := by decide +kernel
theorem dX8_markOwnWord_10 : decode cX8_markOwnWord 10 = .ok (.if_icmp .ge 13, 3) := by decide +kernel
theorem dX8_markOwnWord_13 : decode cX8_markOwnWord 13 = .ok (.aload_n 0, 1) := by decide +kernel
theorem dX8_markOwnWord_14 : decode cX8_markOwnWord 14 = .ok (.getfield 17, 3) := by decide +kernel
theorem dX8_markOwnWord_17 : decode cX8_markOwnWord 17 = .ok (.iload_n 1, 1) := by decide +kernel
theorem dX8_markOwnWord_18 : decode cX8_markOwnWord 18 = .ok (.iaload, 1) := by decide +kernel
theorem dX8_markOwnWord_19 : decode cX8_markOwnWord 19 = .ok (.iconst 1, 1) := by decide +kernel
theorem dX8_markOwnWord_20 : decode cX8_markOwnWord 20 = .ok (.if_icmp .eq 4, 3) := by decide +kernel
theorem dX8_markOwnWord_23 : decode cX8_markOwnWord 23 = .ok (.return_, 1) := by decide +kernel
theorem dX8_markOwnWord_24 : decode cX8_markOwnWord 24 = .ok (.iconst 0, 1) := by decide +kernel
theorem dX8_markOwnWord_25 : decode cX8_markOwnWord 25 = .ok (.istore_n 2, 1) := by decide +kernel
theorem dX8_markOwnWord_26 : decode cX8_markOwnWord 26 = .ok (.iload_n 2, 1) := by decide +kernel
theorem dX8_markOwnWord_27 : decode cX8_markOwnWord 27 = .ok (.bipush 28, 2) := by decide +kernel
theorem dX8_markOwnWord_29 : decode cX8_markOwnWord 29 = .ok (.if_icmp .ge 48, 3) := by decide +kernel
theorem dX8_markOwnWord_32 : decode cX8_markOwnWord 32 = .ok (.aload_n 0, 1) := by decide +kernel
theorem dX8_markOwnWord_33 : decode cX8_markOwnWord 33 = .ok (.getfield 17, 3) := by decide +kernel
theorem dX8_markOwnWord_36 : decode cX8_markOwnWord 36 = .ok (.iload_n 1, 1) := by decide +kernel
theorem dX8_markOwnWord_37 : decode cX8_markOwnWord 37 = .ok (.iaload, 1) := by decide +kernel
theorem dX8_markOwnWord_38 : decode cX8_markOwnWord 38 = .ok (.iconst 1, 1) := by decide +kernel
theorem dX8_markOwnWord_39 : decode cX8_markOwnWord 39 = .ok (.if_icmp .ne 32, 3) := by decide +kernel
theorem dX8_markOwnWord_42 : decode cX8_markOwnWord 42 = .ok (.aload_n 0, 1) := by decide +kernel
theorem dX8_markOwnWord_43 : decode cX8_markOwnWord 43 = .ok (.getfield 11, 3) := by decide +kernel
theorem dX8_markOwnWord_46 : decode cX8_markOwnWord 46 = .ok (.iload_n 2, 1) := by decide +kernel
theorem dX8_markOwnWord_47 : decode cX8_markOwnWord 47 = .ok (.iaload, 1) := by decide +kernel
theorem dX8_markOwnWord_48 : decode cX8_markOwnWord 48 = .ok (.aload_n 0, 1) := by decide +kernel
theorem dX8_markOwnWord_49 : decode cX8_markOwnWord 49 = .ok (.getfield 23, 3) := by decide +kernel
theorem dX8_markOwnWord_52 : decode cX8_markOwnWord 52 = .ok (.iload_n 1, 1) := by decide +kernel
theorem dX8_markOwnWord_53 : decode cX8_markOwnWord 53 = .ok (.iaload, 1) := by decide +kernel
theorem dX8_markOwnWord_54 : decode cX8_markOwnWord 54 = .ok (.if_icmp .ne 17, 3) := by decide +kernel
theorem dX8_markOwnWord_57 : decode cX8_markOwnWord 57 = .ok (.aload_n 0, 1) := by decide +kernel
theorem dX8_markOwnWord_58 : decode cX8_markOwnWord 58 = .ok (.getfield 17, 3) := by decide +kernel
theorem dX8_markOwnWord_61 : decode cX8_markOwnWord 61 = .ok (.iload_n 1, 1) := by decide +kernel
theorem dX8_markOwnWord_62 : decode cX8_markOwnWord 62 = .ok (.iconst 2, 1) := by decide +kernel
theorem dX8_markOwnWord_63 : decode cX8_markOwnWord 63 = .ok (.iastore, 1) := by decide +kernel
theorem dX8_markOwnWord_64 : decode cX8_markOwnWord 64 = .ok (.aload_n 0, 1) := by decide +kernel
theorem dX8_markOwnWord_65 : decode cX8_markOwnWord 65 = .ok (.getfield 23, 3) := by decide +kernel
theorem dX8_markOwnWord_68 : decode cX8_markOwnWord 68 = .ok (.iload_n 1, 1) := by decide +kernel
theorem dX8_markOwnWord_69 : decode cX8_markOwnWord 69 = .ok (.iload_n 2, 1) := by decide +kernel
theorem dX8_markOwnWord_70 : decode cX8_markOwnWord 70 = .ok (.iastore, 1) := by decide +kernel
theorem dX8_markOwnWord_71 : decode cX8_markOwnWord 71 = .ok (.iinc 2 1, 3) := by decide +kernel
theorem dX8_markOwnWord_74 : decode cX8_markOwnWord 74 = .ok (.goto (-48), 3) := by decide +kernel
theorem dX8_markOwnWord_77 : decode cX8_markOwnWord 77 = .ok (.return_, 1) := by decide +kernel
theorem dX8_isBlank_0 : decode cX8_isBlank 0 = .ok (.iload_n 0, 1) := by decide +kernel
theorem dX8_isBlank_1 : decode cX8_isBlank 1 = .ok (.bipush 10, 2) := by decide +kernel
theorem dX8_isBlank_3 : decode cX8_isBlank 3 = .ok (.if_icmp .eq 9, 3) := by decide +kernel
theorem dX8_isBlank_6 : decode cX8_isBlank 6 = .ok (.iload_n 0, 1) := by decide +kernel
theorem dX8_isBlank_7 : decode cX8_isBlank 7 = .ok (.bipush 32, 2) := by decide +kernel
theorem dX8_isBlank_9 : decode cX8_isBlank 9 = .ok (.if_icmp .ne 7, 3) := by decide +kernel
theorem dX8_isBlank_12 : decode cX8_isBlank 12 = .ok (.iconst 1, 1) := by decide +kernel
theorem dX8_isBlank_13 : decode cX8_isBlank 13 = .ok (.goto 4, 3) := by decide +kernel
theorem dX8_isBlank_16 : decode cX8_isBlank 16 = .ok (.iconst 0, 1) := by decide +kernel
theorem dX8_isBlank_17 : decode cX8_isBlank 17 = .ok (.ireturn, 1) := by decide +kernel
theorem dX8_isLetter_0 : decode cX8_isLetter 0 = .ok (.iload_n 0, 1) := by decide +kernel
theorem dX8_isLetter_1 : decode cX8_isLetter 1 = .ok (.bipush 97, 2) := by decide +kernel
theorem dX8_isLetter_3 : decode cX8_isLetter 3 = .ok (.if_icmp .lt 13, 3) := by decide +kernel
theorem dX8_isLetter_6 : decode cX8_isLetter 6 = .ok (.iload_n 0, 1) := by decide +kernel
theorem dX8_isLetter_7 : decode cX8_isLetter 7 = .ok (.bipush 122, 2) := by decide +kernel
theorem dX8_isLetter_9 : decode cX8_isLetter 9 = .ok (.if_icmp .gt 7, 3) := by decide +kernel
theorem dX8_isLetter_12 : decode cX8_isLetter 12 = .ok (.iconst 1, 1) := by decide +kernel
theorem dX8_isLetter_13 : decode cX8_isLetter 13 = .ok (.goto 4, 3) := by decide +kernel
theorem dX8_isLetter_16 : decode cX8_isLetter 16 = .ok (.iconst 0, 1) := by decide +kernel
theorem dX8_isLetter_17 : decode cX8_isLetter 17 = .ok (.ireturn, 1) := by decide +kernel
theorem dX8_isDigit_0 : decode cX8_isDigit 0 = .ok (.iload_n 0, 1) := by decide +kernel
theorem dX8_isDigit_1 : decode cX8_isDigit 1 = .ok (.bipush 48, 2) := by decide +kernel
theorem dX8_isDigit_3 : decode cX8_isDigit 3 = .ok (.if_icmp .lt 13, 3) := by decide +kernel
theorem dX8_isDigit_6 : decode cX8_isDigit 6 = .ok (.iload_n 0, 1) := by decide +kernel
theorem dX8_isDigit_7 : decode cX8_isDigit 7 = .ok (.bipush 57, 2) := by decide +kernel
theorem dX8_isDigit_9 : decode cX8_isDigit 9 = .ok (.if_icmp .gt 7, 3) := by decide +kernel
theorem dX8_isDigit_12 : decode cX8_isDigit 12 = .ok (.iconst 1, 1) := by decide +kernel
theorem dX8_isDigit_13 : decode cX8_isDigit 13 = .ok (.goto 4, 3) := by decide +kernel
theorem dX8_isDigit_16 : decode cX8_isDigit 16 = .ok (.iconst 0, 1) := by decide +kernel
theorem dX8_isDigit_17 : decode cX8_isDigit 17 = .ok (.ireturn, 1) := by decide +kernel
theorem dX8_refuseHere_0 : decode cX8_refuseHere 0 = .ok (.aload_n 0, 1) := by decide +kernel
theorem dX8_refuseHere_1 : decode cX8_refuseHere 1 = .ok (.getfield 62, 3) := by decide +kernel
theorem dX8_refuseHere_4 : decode cX8_refuseHere 4 = .ok (.ifCond .ne 16, 3) := by decide +kernel
theorem dX8_refuseHere_7 : decode cX8_refuseHere 7 = .ok (.aload_n 0, 1) := by decide +kernel
theorem dX8_refuseHere_8 : decode cX8_refuseHere 8 = .ok (.iload_n 1, 1) := by decide +kernel
theorem dX8_refuseHere_9 : decode cX8_refuseHere 9 = .ok (.putfield 62, 3) := by decide +kernel
theorem dX8_refuseHere_12 : decode cX8_refuseHere 12 = .ok (.aload_n 0, 1) := by decide +kernel
theorem dX8_refuseHere_13 : decode cX8_refuseHere 13 = .ok (.aload_n 0, 1) := by decide +kernel
theorem dX8_refuseHere_14 : decode cX8_refuseHere 14 = .ok (.getfield 101, 3) := by decide +kernel
theorem dX8_refuseHere_17 : decode cX8_refuseHere 17 = .ok (.putfield 65, 3) := by decide +kernel
theorem dX8_refuseHere_20 : decode cX8_refuseHere 20 = .ok (.aload_n 0, 1) := by decide +kernel
theorem dX8_refuseHere_21 : decode cX8_refuseHere 21 = .ok (.iconst 0, 1) := by decide +kernel
theorem dX8_refuseHere_22 : decode cX8_refuseHere 22 = .ok (.putfield 104, 3) := by decide +kernel
theorem dX8_refuseHere_25 : decode cX8_refuseHere 25 = .ok (.aload_n 0, 1) := by decide +kernel
theorem dX8_refuseHere_26 : decode cX8_refuseHere 26 = .ok (.iconst 0, 1) := by decide +kernel
theorem dX8_refuseHere_27 : decode cX8_refuseHere 27 = .ok (.putfield 107, 3) := by decide +kernel
theorem dX8_refuseHere_30 : decode cX8_refuseHere 30 = .ok (.return_, 1) := by decide +kernel
theorem dX8_next_0 : decode cX8_next 0 = .ok (.aload_n 0, 1) := by decide +kernel
theorem dX8_next_1 : decode cX8_next 1 = .ok (.getfield 62, 3) := by decide +kernel
theorem dX8_next_4 : decode cX8_next 4 = .ok (.ifCond .eq 4, 3) := by decide +kernel
theorem dX8_next_7 : decode cX8_next 7 = .ok (.return_, 1) := by decide +kernel
theorem dX8_next_8 : decode cX8_next 8 = .ok (.aload_n 0, 1) := by decide +kernel
theorem dX8_next_9 : decode cX8_next 9 = .ok (.dup, 1) := by decide +kernel
theorem dX8_next_10 : decode cX8_next 10 = .ok (.getfield 68, 3) := by decide +kernel
theorem dX8_next_13 : decode cX8_next 13 = .ok (.iconst 1, 1) := by decide +kernel
theorem dX8_next_14 : decode cX8_next 14 = .ok (.iadd, 1) := by decide +kernel
theorem dX8_next_15 : decode cX8_next 15 = .ok (.putfield 68, 3) := by decide +kernel
theorem dX8_next_18 : decode cX8_next 18 = .ok (.aload_n 0, 1) := by decide +kernel
theorem dX8_next_19 : decode cX8_next 19 = .ok (.getfield 68, 3) := by decide +kernel
theorem dX8_next_22 : decode cX8_next 22 = .ok (.ifCond .lt 26, 3) := by decide +kernel
theorem dX8_next_25 : decode cX8_next 25 = .ok (.aload_n 0, 1) := by decide +kernel
theorem dX8_next_26 : decode cX8_next 26 = .ok (.getfield 68, 3) := by decide +kernel
theorem dX8_next_29 : decode cX8_next 29 = .ok (.aload_n 0, 1) := by decide +kernel
theorem dX8_next_30 : decode cX8_next 30 = .ok (.getfield 48, 3) := by decide +kernel
theorem dX8_next_33 : decode cX8_next 33 = .ok (.if_icmp .ge 15, 3) := by decide +kernel
theorem dX8_next_36 : decode cX8_next 36 = .ok (.aload_n 0, 1) := by decide +kernel
theorem dX8_next_37 : decode cX8_next 37 = .ok (.getfield 68, 3) := by decide +kernel
theorem dX8_next_40 : decode cX8_next 40 = .ok (.aload_n 0, 1) := by decide +kernel
theorem dX8_next_41 : decode cX8_next 41 = .ok (.getfield 17, 3) := by decide +kernel
theorem dX8_next_44 : decode cX8_next 44 = .ok (.arraylength, 1) := by decide +kernel
theorem dX8_next_45 : decode cX8_next 45 = .ok (.if_icmp .lt 25, 3) := by decide +kernel
theorem dX8_next_48 : decode cX8_next 48 = .ok (.aload_n 0, 1) := by decide +kernel
theorem dX8_next_49 : decode cX8_next 49 = .ok (.iconst 0, 1) := by decide +kernel
theorem dX8_next_50 : decode cX8_next 50 = .ok (.putfield 104, 3) := by decide +kernel
theorem dX8_next_53 : decode cX8_next 53 = .ok (.aload_n 0, 1) := by decide +kernel
theorem dX8_next_54 : decode cX8_next 54 = .ok (.aload_n 0, 1) := by decide +kernel
theorem dX8_next_55 : decode cX8_next 55 = .ok (.getfield 26, 3) := by decide +kernel
theorem dX8_next_58 : decode cX8_next 58 = .ok (.getfield 52, 3) := by decide +kernel
theorem dX8_next_61 : decode cX8_next 61 = .ok (.putfield 101, 3) := by decide +kernel
theorem dX8_next_64 : decode cX8_next 64 = .ok (.aload_n 0, 1) := by decide +kernel
theorem dX8_next_65 : decode cX8_next 65 = .ok (.iconst 0, 1) := by decide +kernel
theorem dX8_next_66 : decode cX8_next 66 = .ok (.putfield 107, 3) := by decide +kernel
theorem dX8_next_69 : decode cX8_next 69 = .ok (.return_, 1) := by decide +kernel
theorem dX8_next_70 : decode cX8_next 70 = .ok (.aload_n 0, 1) := by decide +kernel
theorem dX8_next_71 : decode cX8_next 71 = .ok (.aload_n 0, 1) := by decide +kernel
theorem dX8_next_72 : decode cX8_next 72 = .ok (.getfield 17, 3) := by decide +kernel
theorem dX8_next_75 : decode cX8_next 75 = .ok (.aload_n 0, 1) := by decide +kernel
theorem dX8_next_76 : decode cX8_next 76 = .ok (.getfield 68, 3) := by decide +kernel
theorem dX8_next_79 : decode cX8_next 79 = .ok (.iaload, 1) := by decide +kernel
theorem dX8_next_80 : decode cX8_next 80 = .ok (.putfield 104, 3) := by decide +kernel
theorem dX8_next_83 : decode cX8_next 83 = .ok (.aload_n 0, 1) := by decide +kernel
theorem dX8_next_84 : decode cX8_next 84 = .ok (.aload_n 0, 1) := by decide +kernel
theorem dX8_next_85 : decode cX8_next 85 = .ok (.getfield 20, 3) := by decide +kernel
theorem dX8_next_88 : decode cX8_next 88 = .ok (.aload_n 0, 1) := by decide +kernel
theorem dX8_next_89 : decode cX8_next 89 = .ok (.getfield 68, 3) := by decide +kernel
theorem dX8_next_92 : decode cX8_next 92 = .ok (.iaload, 1) := by decide +kernel
theorem dX8_next_93 : decode cX8_next 93 = .ok (.putfield 101, 3) := by decide +kernel
theorem dX8_next_96 : decode cX8_next 96 = .ok (.aload_n 0, 1) := by decide +kernel
theorem dX8_next_97 : decode cX8_next 97 = .ok (.aload_n 0, 1) := by decide +kernel
theorem dX8_next_98 : decode cX8_next 98 = .ok (.getfield 23, 3) := by decide +kernel
theorem dX8_next_101 : decode cX8_next 101 = .ok (.aload_n 0, 1) := by decide +kernel
theorem dX8_next_102 : decode cX8_next 102 = .ok (.getfield 68, 3) := by decide +kernel
theorem dX8_next_105 : decode cX8_next 105 = .ok (.iaload, 1) := by decide +kernel
theorem dX8_next_106 : decode cX8_next 106 = .ok (.putfield 107, 3) := by decide +kernel
theorem dX8_next_109 : decode cX8_next 109 = .ok (.aload_n 0, 1) := by decide +kernel
theorem dX8_next_110 : decode cX8_next 110 = .ok (.getfield 104, 3) := by decide +kernel
theorem dX8_next_113 : decode cX8_next 113 = .ok (.iconst 5, 1) := by decide +kernel
theorem dX8_next_114 : decode cX8_next 114 = .ok (.if_icmp .ne 16, 3) := by decide +kernel
theorem dX8_next_117 : decode cX8_next 117 = .ok (.aload_n 0, 1) := by decide +kernel
theorem dX8_next_118 : decode cX8_next 118 = .ok (.aload_n 0, 1) := by decide +kernel
theorem dX8_next_119 : decode cX8_next 119 = .ok (.getfield 107, 3) := by decide +kernel
theorem dX8_next_122 : decode cX8_next 122 = .ok (.putfield 101, 3) := by decide +kernel
theorem dX8_next_125 : decode cX8_next 125 = .ok (.aload_n 0, 1) := by decide +kernel
theorem dX8_next_126 : decode cX8_next 126 = .ok (.iconst 1, 1) := by decide +kernel
theorem dX8_next_127 : decode cX8_next 127 = .ok (.invokevirtual 110, 3) := by decide +kernel
theorem dX8_next_130 : decode cX8_next 130 = .ok (.return_, 1) := by decide +kernel
theorem dX8_refuseMore_0 : decode cX8_refuseMore 0 = .ok (.aload_n 0, 1) := by decide +kernel
theorem dX8_refuseMore_1 : decode cX8_refuseMore 1 = .ok (.getfield 68, 3) := by decide +kernel
theorem dX8_refuseMore_4 : decode cX8_refuseMore 4 = .ok (.iconst 1, 1) := by decide +kernel
theorem dX8_refuseMore_5 : decode cX8_refuseMore 5 = .ok (.iadd, 1) := by decide +kernel
theorem dX8_refuseMore_6 : decode cX8_refuseMore 6 = .ok (.istore_n 1, 1) := by decide +kernel
theorem dX8_refuseMore_7 : decode cX8_refuseMore 7 = .ok (.iload_n 1, 1) := by decide +kernel
theorem dX8_refuseMore_8 : decode cX8_refuseMore 8 = .ok (.ifCond .lt 36, 3) := by decide +kernel
theorem dX8_refuseMore_11 : decode cX8_refuseMore 11 = .ok (.iload_n 1, 1) := by decide +kernel
theorem dX8_refuseMore_12 : decode cX8_refuseMore 12 = .ok (.aload_n 0, 1) := by decide +kernel
theorem dX8_refuseMore_13 : decode cX8_refuseMore 13 = .ok (.getfield 48, 3) := by decide +kernel
theorem dX8_refuseMore_16 : decode cX8_refuseMore 16 = .ok (.if_icmp .ge 28, 3) := by decide +kernel
theorem dX8_refuseMore_19 : decode cX8_refuseMore 19 = .ok (.iload_n 1, 1) := by decide +kernel
theorem dX8_refuseMore_20 : decode cX8_refuseMore 20 = .ok (.aload_n 0, 1) := by decide +kernel
theorem dX8_refuseMore_21 : decode cX8_refuseMore 21 = .ok (.getfield 20, 3) := by decide +kernel
theorem dX8_refuseMore_24 : decode cX8_refuseMore 24 = .ok (.arraylength, 1) := by decide +kernel
theorem dX8_refuseMore_25 : decode cX8_refuseMore 25 = .ok (.if_icmp .ge 19, 3) := by decide +kernel
theorem dX8_refuseMore_28 : decode cX8_refuseMore 28 = .ok (.aload_n 0, 1) := by decide +kernel
theorem dX8_refuseMore_29 : decode cX8_refuseMore 29 = .ok (.aload_n 0, 1) := by decide +kernel
theorem dX8_refuseMore_30 : decode cX8_refuseMore 30 = .ok (.getfield 20, 3) := by decide +kernel
theorem dX8_refuseMore_33 : decode cX8_refuseMore 33 = .ok (.iload_n 1, 1) := by decide +kernel
theorem dX8_refuseMore_34 : decode cX8_refuseMore 34 = .ok (.iaload, 1) := by decide +kernel
theorem dX8_refuseMore_35 : decode cX8_refuseMore 35 = .ok (.putfield 101, 3) := by decide +kernel
theorem dX8_refuseMore_38 : decode cX8_refuseMore 38 = .ok (.aload_n 0, 1) := by decide +kernel
theorem dX8_refuseMore_39 : decode cX8_refuseMore 39 = .ok (.bipush 6, 2) := by decide +kernel
theorem dX8_refuseMore_41 : decode cX8_refuseMore 41 = .ok (.invokevirtual 110, 3) := by decide +kernel
theorem dX8_refuseMore_44 : decode cX8_refuseMore 44 = .ok (.return_, 1) := by decide +kernel
theorem dX8_isMark_0 : decode cX8_isMark 0 = .ok (.aload_n 0, 1) := by decide +kernel
theorem dX8_isMark_1 : decode cX8_isMark 1 = .ok (.getfield 104, 3) := by decide +kernel
theorem dX8_isMark_4 : decode cX8_isMark 4 = .ok (.iconst 4, 1) := by decide +kernel
theorem dX8_isMark_5 : decode cX8_isMark 5 = .ok (.if_icmp .ne 15, 3) := by decide +kernel
theorem dX8_isMark_8 : decode cX8_isMark 8 = .ok (.aload_n 0, 1) := by decide +kernel
theorem dX8_isMark_9 : decode cX8_isMark 9 = .ok (.getfield 107, 3) := by decide +kernel
theorem dX8_isMark_12 : decode cX8_isMark 12 = .ok (.iload_n 1, 1) := by decide +kernel
theorem dX8_isMark_13 : decode cX8_isMark 13 = .ok (.if_icmp .ne 7, 3) := by decide +kernel
theorem dX8_isMark_16 : decode cX8_isMark 16 = .ok (.iconst 1, 1) := by decide +kernel
theorem dX8_isMark_17 : decode cX8_isMark 17 = .ok (.goto 4, 3) := by decide +kernel
theorem dX8_isMark_20 : decode cX8_isMark 20 = .ok (.iconst 0, 1) := by decide +kernel
theorem dX8_isMark_21 : decode cX8_isMark 21 = .ok (.ireturn, 1) := by decide +kernel
theorem dX8_isWord_0 : decode cX8_isWord 0 = .ok (.aload_n 0, 1) := by decide +kernel
theorem dX8_isWord_1 : decode cX8_isWord 1 = .ok (.getfield 104, 3) := by decide +kernel
theorem dX8_isWord_4 : decode cX8_isWord 4 = .ok (.iconst 2, 1) := by decide +kernel
theorem dX8_isWord_5 : decode cX8_isWord 5 = .ok (.if_icmp .ne 15, 3) := by decide +kernel
theorem dX8_isWord_8 : decode cX8_isWord 8 = .ok (.aload_n 0, 1) := by decide +kernel
theorem dX8_isWord_9 : decode cX8_isWord 9 = .ok (.getfield 107, 3) := by decide +kernel
theorem dX8_isWord_12 : decode cX8_isWord 12 = .ok (.iload_n 1, 1) := by decide +kernel
theorem dX8_isWord_13 : decode cX8_isWord 13 = .ok (.if_icmp .ne 7, 3) := by decide +kernel
theorem dX8_isWord_16 : decode cX8_isWord 16 = .ok (.iconst 1, 1) := by decide +kernel
theorem dX8_isWord_17 : decode cX8_isWord 17 = .ok (.goto 4, 3) := by decide +kernel
theorem dX8_isWord_20 : decode cX8_isWord 20 = .ok (.iconst 0, 1) := by decide +kernel
theorem dX8_isWord_21 : decode cX8_isWord 21 = .ok (.ireturn, 1) := by decide +kernel
theorem dX8_takeMark_0 : decode cX8_takeMark 0 = .ok (.aload_n 0, 1) := by decide +kernel
theorem dX8_takeMark_1 : decode cX8_takeMark 1 = .ok (.iload_n 1, 1) := by decide +kernel
theorem dX8_takeMark_2 : decode cX8_takeMark 2 = .ok (.invokevirtual 113, 3) := by decide +kernel
theorem dX8_takeMark_5 : decode cX8_takeMark 5 = .ok (.ifCond .ne 8, 3) := by decide +kernel
theorem dX8_takeMark_8 : decode cX8_takeMark 8 = .ok (.aload_n 0, 1) := by decide +kernel
theorem dX8_takeMark_9 : decode cX8_takeMark 9 = .ok (.iconst 1, 1) := by decide +kernel
theorem dX8_takeMark_10 : decode cX8_takeMark 10 = .ok (.invokevirtual 110, 3) := by decide +kernel
theorem dX8_takeMark_13 : decode cX8_takeMark 13 = .ok (.aload_n 0, 1) := by decide +kernel
theorem dX8_takeMark_14 : decode cX8_takeMark 14 = .ok (.invokevirtual 71, 3) := by decide +kernel
theorem dX8_takeMark_17 : decode cX8_takeMark 17 = .ok (.return_, 1) := by decide +kernel
theorem dX8_takeWord_0 : decode cX8_takeWord 0 = .ok (.aload_n 0, 1) := by decide +kernel
theorem dX8_takeWord_1 : decode cX8_takeWord 1 = .ok (.iload_n 1, 1) := by decide +kernel
theorem dX8_takeWord_2 : decode cX8_takeWord 2 = .ok (.invokevirtual 117, 3) := by decide +kernel
theorem dX8_takeWord_5 : decode cX8_takeWord 5 = .ok (.ifCond .ne 8, 3) := by decide +kernel
theorem dX8_takeWord_8 : decode cX8_takeWord 8 = .ok (.aload_n 0, 1) := by decide +kernel
theorem dX8_takeWord_9 : decode cX8_takeWord 9 = .ok (.iconst 1, 1) := by decide +kernel
theorem dX8_takeWord_10 : decode cX8_takeWord 10 = .ok (.invokevirtual 110, 3) := by decide +kernel
theorem dX8_takeWord_13 : decode cX8_takeWord 13 = .ok (.aload_n 0, 1) := by decide +kernel
theorem dX8_takeWord_14 : decode cX8_takeWord 14 = .ok (.invokevirtual 71, 3) := by decide +kernel
theorem dX8_takeWord_17 : decode cX8_takeWord 17 = .ok (.return_, 1) := by decide +kernel
theorem dX8_takeNumber_0 : decode cX8_takeNumber 0 = .ok (.aload_n 0, 1) := by decide +kernel
theorem dX8_takeNumber_1 : decode cX8_takeNumber 1 = .ok (.getfield 104, 3) := by decide +kernel
theorem dX8_takeNumber_4 : decode cX8_takeNumber 4 = .ok (.iconst 3, 1) := by decide +kernel
theorem dX8_takeNumber_5 : decode cX8_takeNumber 5 = .ok (.if_icmp .eq 11, 3) := by decide +kernel
theorem dX8_takeNumber_8 : decode cX8_takeNumber 8 = .ok (.aload_n 0, 1) := by decide +kernel
theorem dX8_takeNumber_9 : decode cX8_takeNumber 9 = .ok (.iconst 1, 1) := by decide +kernel
theorem dX8_takeNumber_10 : decode cX8_takeNumber 10 = .ok (.invokevirtual 110, 3) := by decide +kernel
theorem dX8_takeNumber_13 : decode cX8_takeNumber 13 = .ok (.goto 24, 3) := by decide +kernel
theorem dX8_takeNumber_16 : decode cX8_takeNumber 16 = .ok (.aload_n 0, 1) := by decide +kernel
theorem dX8_takeNumber_17 : decode cX8_takeNumber 17 = .ok (.getfield 107, 3) := by decide +kernel
theorem dX8_takeNumber_20 : decode cX8_takeNumber 20 = .ok (.iload_n 1, 1) := by decide +kernel
theorem dX8_takeNumber_21 : decode cX8_takeNumber 21 = .ok (.if_icmp .lt 11, 3) := by decide +kernel
theorem dX8_takeNumber_24 : decode cX8_takeNumber 24 = .ok (.aload_n 0, 1) := by decide +kernel
theorem dX8_takeNumber_25 : decode cX8_takeNumber 25 = .ok (.getfield 107, 3) := by decide +kernel
theorem dX8_takeNumber_28 : decode cX8_takeNumber 28 = .ok (.iload_n 2, 1) := by decide +kernel
theorem dX8_takeNumber_29 : decode cX8_takeNumber 29 = .ok (.if_icmp .le 8, 3) := by decide +kernel
theorem dX8_takeNumber_32 : decode cX8_takeNumber 32 = .ok (.aload_n 0, 1) := by decide +kernel
theorem dX8_takeNumber_33 : decode cX8_takeNumber 33 = .ok (.iconst 4, 1) := by decide +kernel
theorem dX8_takeNumber_34 : decode cX8_takeNumber 34 = .ok (.invokevirtual 110, 3) := by decide +kernel
theorem dX8_takeNumber_37 : decode cX8_takeNumber 37 = .ok (.aload_n 0, 1) := by decide +kernel
theorem dX8_takeNumber_38 : decode cX8_takeNumber 38 = .ok (.getfield 107, 3) := by decide +kernel
theorem dX8_takeNumber_41 : decode cX8_takeNumber 41 = .ok (.istore_n 3, 1) := by decide +kernel
theorem dX8_takeNumber_42 : decode cX8_takeNumber 42 = .ok (.aload_n 0, 1) := by decide +kernel
theorem dX8_takeNumber_43 : decode cX8_takeNumber 43 = .ok (.invokevirtual 71, 3) := by decide +kernel
theorem dX8_takeNumber_46 : decode cX8_takeNumber 46 = .ok (.iload_n 3, 1) := by decide +kernel
theorem dX8_takeNumber_47 : decode cX8_takeNumber 47 = .ok (.ireturn, 1) := by decide +kernel
theorem dX9_init_0 : decode cX9_init 0 = .ok (.aload_n 0, 1) := by decide +kernel
theorem dX9_init_1 : decode cX9_init 1 = .ok (.invokespecial 5, 3) := by decide +kernel
theorem dX9_init_4 : decode cX9_init 4 = .ok (.aload_n 0, 1) := by decide +kernel
theorem dX9_init_5 : decode cX9_init 5 = .ok (.bipush 48, 2) := by decide +kernel
theorem dX9_init_7 : decode cX9_init 7 = .ok (.newarray .int, 2) := by decide +kernel
theorem dX9_init_9 : decode cX9_init 9 = .ok (.putfield 13, 3) := by decide +kernel
theorem dX9_init_12 : decode cX9_init 12 = .ok (.aload_n 0, 1) := by decide +kernel
theorem dX9_init_13 : decode cX9_init 13 = .ok (.bipush 10, 2) := by decide +kernel
theorem dX9_init_15 : decode cX9_init 15 = .ok (.bipush 41, 2) := by decide +kernel
theorem dX9_init_17 : decode cX9_init 17 = .ok (.multianewarray 17 2, 4) := by decide +kernel
theorem dX9_init_21 : decode cX9_init 21 = .ok (.putfield 19, 3) := by decide +kernel
theorem dX9_init_24 : decode cX9_init 24 = .ok (.aload_n 0, 1) := by decide +kernel
theorem dX9_init_25 : decode cX9_init 25 = .ok (.new 1, 3) := by decide +kernel
theorem dX9_init_28 : decode cX9_init 28 = .ok (.dup, 1) := by decide +kernel
theorem dX9_init_29 : decode cX9_init 29 = .ok (.aload_n 1, 1) := by decide +kernel
theorem dX9_init_30 : decode cX9_init 30 = .ok (.invokespecial 22, 3) := by decide +kernel
theorem dX9_init_33 : decode cX9_init 33 = .ok (.putfield 25, 3) := by decide +kernel
theorem dX9_init_36 : decode cX9_init 36 = .ok (.aload_n 0, 1) := by decide +kernel
theorem dX9_init_37 : decode cX9_init 37 = .ok (.iconst 0, 1) := by decide +kernel
theorem dX9_init_38 : decode cX9_init 38 = .ok (.putfield 29, 3) := by decide +kernel
theorem dX9_init_41 : decode cX9_init 41 = .ok (.return_, 1) := by decide +kernel
theorem dX9_forget_0 : decode cX9_forget 0 = .ok (.aload_n 0, 1) := by decide +kernel
theorem dX9_forget_1 : decode cX9_forget 1 = .ok (.iconst 0, 1) := by decide +kernel
theorem dX9_forget_2 : decode cX9_forget 2 = .ok (.putfield 29, 3) := by decide +kernel
theorem dX9_forget_5 : decode cX9_forget 5 = .ok (.return_, 1) := by decide +kernel
theorem dX9_takeRows_0 : decode cX9_takeRows 0 = .ok (.aload_n 1, 1) := by decide +kernel
theorem dX9_takeRows_1 : decode cX9_takeRows 1 = .ok (.getfield 33, 3) := by decide +kernel
theorem dX9_takeRows_4 : decode cX9_takeRows 4 = .ok (.iconst 3, 1) := by decide +kernel
theorem dX9_takeRows_5 : decode cX9_takeRows 5 = .ok (.idiv, 1) := by decide +kernel
theorem dX9_takeRows_6 : decode cX9_takeRows 6 = .ok (.istore_n 3, 1) := by decide +kernel
theorem dX9_takeRows_7 : decode cX9_takeRows 7 = .ok (.iload_n 3, 1) := by decide +kernel
theorem dX9_takeRows_8 : decode cX9_takeRows 8 = .ok (.iconst 1, 1) := by decide +kernel
theorem dX9_takeRows_9 : decode cX9_takeRows 9 = .ok (.if_icmp .lt 19, 3) := by decide +kernel
theorem dX9_takeRows_12 : decode cX9_takeRows 12 = .ok (.iload_n 3, 1) := by decide +kernel
theorem dX9_takeRows_13 : decode cX9_takeRows 13 = .ok (.bipush 16, 2) := by decide +kernel
theorem dX9_takeRows_15 : decode cX9_takeRows 15 = .ok (.if_icmp .gt 13, 3) := by decide +kernel
theorem dX9_takeRows_18 : decode cX9_takeRows 18 = .ok (.iload_n 3, 1) := by decide +kernel
theorem dX9_takeRows_19 : decode cX9_takeRows 19 = .ok (.iconst 3, 1) := by decide +kernel
theorem dX9_takeRows_20 : decode cX9_takeRows 20 = .ok (.imul, 1) := by decide +kernel
theorem dX9_takeRows_21 : decode cX9_takeRows 21 = .ok (.aload_n 1, 1) := by decide +kernel
theorem dX9_takeRows_22 : decode cX9_takeRows 22 = .ok (.getfield 33, 3) := by decide +kernel
theorem dX9_takeRows_25 : decode cX9_takeRows 25 = .ok (.if_icmp .eq 5, 3) := by decide +kernel
theorem dX9_takeRows_28 : decode cX9_takeRows 28 = .ok (.iconst 0, 1) := by decide +kernel
theorem dX9_takeRows_29 : decode cX9_takeRows 29 = .ok (.ireturn, 1) := by decide +kernel
theorem dX9_takeRows_30 : decode cX9_takeRows 30 = .ok (.iconst 0, 1) := by decide +kernel
theorem dX9_takeRows_31 : decode cX9_takeRows 31 = .ok (.istore 4, 2) := by decide +kernel
theorem dX9_takeRows_33 : decode cX9_takeRows 33 = .ok (.iload 4, 2) := by decide +kernel
theorem dX9_takeRows_35 : decode cX9_takeRows 35 = .ok (.iload_n 3, 1) := by decide +kernel
theorem dX9_takeRows_36 : decode cX9_takeRows 36 = .ok (.if_icmp .ge 51, 3) := by decide +kernel
theorem dX9_takeRows_39 : decode cX9_takeRows 39 = .ok (.aload_n 1, 1) := by decide +kernel
theorem dX9_takeRows_40 : decode cX9_takeRows 40 = .ok (.iconst 3, 1) := by decide +kernel
theorem dX9_takeRows_41 : decode cX9_takeRows 41 = .ok (.iload 4, 2) := by decide +kernel
theorem dX9_takeRows_43 : decode cX9_takeRows 43 = .ok (.imul, 1) := by decide +kernel
theorem dX9_takeRows_44 : decode cX9_takeRows 44 = .ok (.invokevirtual 38, 3) := by decide +kernel
theorem dX9_takeRows_47 : decode cX9_takeRows 47 = .ok (.bipush 40, 2) := by decide +kernel
theorem dX9_takeRows_49 : decode cX9_takeRows 49 = .ok (.if_icmp .gt 30, 3) := by decide +kernel
theorem dX9_takeRows_52 : decode cX9_takeRows 52 = .ok (.aload_n 2, 1) := by decide +kernel
theorem dX9_takeRows_53 : decode cX9_takeRows 53 = .ok (.aload_n 1, 1) := by decide +kernel
theorem dX9_takeRows_54 : decode cX9_takeRows 54 = .ok (.iconst 3, 1) := by decide +kernel
theorem dX9_takeRows_55 : decode cX9_takeRows 55 = .ok (.iload 4, 2) := by decide +kernel
theorem dX9_takeRows_57 : decode cX9_takeRows 57 = .ok (.imul, 1) := by decide +kernel
theorem dX9_takeRows_58 : decode cX9_takeRows 58 = .ok (.iconst 1, 1) := by decide +kernel
theorem dX9_takeRows_59 : decode cX9_takeRows 59 = .ok (.iadd, 1) := by decide +kernel
theorem dX9_takeRows_60 : decode cX9_takeRows 60 = .ok (.invokevirtual 38, 3) := by decide +kernel
theorem dX9_takeRows_63 : decode cX9_takeRows 63 = .ok (.aload_n 1, 1) := by decide +kernel
theorem dX9_takeRows_64 : decode cX9_takeRows 64 = .ok (.iconst 3, 1) := by decide +kernel
theorem dX9_takeRows_65 : decode cX9_takeRows 65 = .ok (.iload 4, 2) := by decide +kernel
theorem dX9_takeRows_67 : decode cX9_takeRows 67 = .ok (.imul, 1) := by decide +kernel
theorem dX9_takeRows_68 : decode cX9_takeRows 68 = .ok (.iconst 2, 1) := by decide +kernel
theorem dX9_takeRows_69 : decode cX9_takeRows 69 = .ok (.iadd, 1) := by decide +kernel
theorem dX9_takeRows_70 : decode cX9_takeRows 70 = .ok (.invokevirtual 38, 3) := by decide +kernel
theorem dX9_takeRows_73 : decode cX9_takeRows 73 = .ok (.invokevirtual 42, 3) := by decide +kernel
theorem dX9_takeRows_76 : decode cX9_takeRows 76 = .ok (.ifCond .ne 5, 3) := by decide +kernel
theorem dX9_takeRows_79 : decode cX9_takeRows 79 = .ok (.iconst 0, 1) := by decide +kernel
theorem dX9_takeRows_80 : decode cX9_takeRows 80 = .ok (.ireturn, 1) := by decide +kernel
theorem dX9_takeRows_81 : decode cX9_takeRows 81 = .ok (.iinc 4 1, 3) := by decide +kernel
theorem dX9_takeRows_84 : decode cX9_takeRows 84 = .ok (.goto (-51), 3) := by decide +kernel
theorem dX9_takeRows_87 : decode cX9_takeRows 87 = .ok (.iconst 0, 1) := by decide +kernel
theorem dX9_takeRows_88 : decode cX9_takeRows 88 = .ok (.istore 4, 2) := by decide +kernel
theorem dX9_takeRows_90 : decode cX9_takeRows 90 = .ok (.iload 4, 2) := by decide +kernel
theorem dX9_takeRows_92 : decode cX9_takeRows 92 = .ok (.iconst 3, 1) := by decide +kernel
theorem dX9_takeRows_93 : decode cX9_takeRows 93 = .ok (.iload_n 3, 1) := by decide +kernel
theorem dX9_takeRows_94 : decode cX9_takeRows 94 = .ok (.imul, 1) := by decide +kernel
theorem dX9_takeRows_95 : decode cX9_takeRows 95 = .ok (.if_icmp .ge 32, 3) := by decide +kernel
theorem dX9_takeRows_98 : decode cX9_takeRows 98 = .ok (.iload 4, 2) := by decide +kernel
theorem dX9_takeRows_100 : decode cX9_takeRows 100 = .ok (.aload_n 0, 1) := by decide +kernel
theorem dX9_takeRows_101 : decode cX9_takeRows 101 = .ok (.getfield 13, 3) := by decide +kernel
theorem dX9_takeRows_104 : decode cX9_takeRows 104 = .ok (.arraylength, 1) := by decide +kernel
theorem dX9_takeRows_105 : decode cX9_takeRows 105 = .ok (.if_icmp .ge 22, 3) := by decide +kernel
theorem dX9_takeRows_108 : decode cX9_takeRows 108 = .ok (.aload_n 0, 1) := by decide +kernel
theorem dX9_takeRows_109 : decode cX9_takeRows 109 = .ok (.getfield 13, 3) := by decide +kernel
theorem dX9_takeRows_112 : decode cX9_takeRows 112 = .ok (.iload 4, 2) := by decide +kernel
theorem dX9_takeRows_114 : decode cX9_takeRows 114 = .ok (.aload_n 1, 1) := by decide +kernel
theorem dX9_takeRows_115 : decode cX9_takeRows 115 = .ok (.iload 4, 2) := by decide +kernel
theorem dX9_takeRows_117 : decode cX9_takeRows 117 = .ok (.invokevirtual 38, 3) := by decide +kernel
theorem dX9_takeRows_120 : decode cX9_takeRows 120 = .ok (.iastore, 1) := by decide +kernel
theorem dX9_takeRows_121 : decode cX9_takeRows 121 = .ok (.iinc 4 1, 3) := by decide +kernel
theorem dX9_takeRows_124 : decode cX9_takeRows 124 = .ok (.goto (-34), 3) := by decide +kernel
theorem dX9_takeRows_127 : decode cX9_takeRows 127 = .ok (.aload_n 0, 1) := by decide +kernel
theorem dX9_takeRows_128 : decode cX9_takeRows 128 = .ok (.iload_n 3, 1) := by decide +kernel
theorem dX9_takeRows_129 : decode cX9_takeRows 129 = .ok (.putfield 29, 3) := by decide +kernel
theorem dX9_takeRows_132 : decode cX9_takeRows 132 = .ok (.iconst 1, 1) := by decide +kernel
theorem dX9_takeRows_133 : decode cX9_takeRows 133 = .ok (.ireturn, 1) := by decide +kernel
theorem dX9_biasBits_0 : decode cX9_biasBits 0 = .ok (.aload_n 0, 1) := by decide +kernel
theorem dX9_biasBits_1 : decode cX9_biasBits 1 = .ok (.aload_n 1, 1) := by decide +kernel
theorem dX9_biasBits_2 : decode cX9_biasBits 2 = .ok (.iload_n 2, 1) := by decide +kernel
theorem dX9_biasBits_3 : decode cX9_biasBits 3 = .ok (.invokevirtual 48, 3) := by decide +kernel
theorem dX9_biasBits_6 : decode cX9_biasBits 6 = .ok (.aload_n 0, 1) := by decide +kernel
theorem dX9_biasBits_7 : decode cX9_biasBits 7 = .ok (.invokevirtual 52, 3) := by decide +kernel
theorem dX9_biasBits_10 : decode cX9_biasBits 10 = .ok (.ireturn, 1) := by decide +kernel
theorem dX9_bitsLeft_0 : decode cX9_bitsLeft 0 = .ok (.iconst 0, 1) := by decide +kernel
theorem dX9_bitsLeft_1 : decode cX9_bitsLeft 1 = .ok (.istore_n 1, 1) := by decide +kernel
theorem dX9_bitsLeft_2 : decode cX9_bitsLeft 2 = .ok (.iconst 0, 1) := by decide +kernel
theorem dX9_bitsLeft_3 : decode cX9_bitsLeft 3 = .ok (.istore_n 2, 1) := by decide +kernel
theorem dX9_bitsLeft_4 : decode cX9_bitsLeft 4 = .ok (.iload_n 2, 1) := by decide +kernel
theorem dX9_bitsLeft_5 : decode cX9_bitsLeft 5 = .ok (.bipush 10, 2) := by decide +kernel
theorem dX9_bitsLeft_7 : decode cX9_bitsLeft 7 = .ok (.if_icmp .ge 27, 3) := by decide +kernel
theorem dX9_bitsLeft_10 : decode cX9_bitsLeft 10 = .ok (.iload_n 1, 1) := by decide +kernel
theorem dX9_bitsLeft_11 : decode cX9_bitsLeft 11 = .ok (.aload_n 0, 1) := by decide +kernel
theorem dX9_bitsLeft_12 : decode cX9_bitsLeft 12 = .ok (.iload_n 2, 1) := by decide +kernel
theorem dX9_bitsLeft_13 : decode cX9_bitsLeft 13 = .ok (.invokevirtual 56, 3) := by decide +kernel
theorem dX9_bitsLeft_16 : decode cX9_bitsLeft 16 = .ok (.ifCond .eq 9, 3) := by decide +kernel
theorem dX9_bitsLeft_19 : decode cX9_bitsLeft 19 = .ok (.iconst 1, 1) := by decide +kernel
theorem dX9_bitsLeft_20 : decode cX9_bitsLeft 20 = .ok (.iload_n 2, 1) := by decide +kernel
theorem dX9_bitsLeft_21 : decode cX9_bitsLeft 21 = .ok (.ishl, 1) := by decide +kernel
theorem dX9_bitsLeft_22 : decode cX9_bitsLeft 22 = .ok (.goto 4, 3) := by decide +kernel
theorem dX9_bitsLeft_25 : decode cX9_bitsLeft 25 = .ok (.iconst 0, 1) := by decide +kernel
theorem dX9_bitsLeft_26 : decode cX9_bitsLeft 26 = .ok (.ior, 1) := by decide +kernel
theorem dX9_bitsLeft_27 : decode cX9_bitsLeft 27 = .ok (.istore_n 1, 1) := by decide +kernel
theorem dX9_bitsLeft_28 : decode cX9_bitsLeft 28 = .ok (.iinc 2 1, 3) := by decide +kernel
theorem dX9_bitsLeft_31 : decode cX9_bitsLeft 31 = .ok (.goto (-27), 3) := by decide +kernel
theorem dX9_bitsLeft_34 : decode cX9_bitsLeft 34 = .ok (.iload_n 1, 1) := by decide +kernel
theorem dX9_bitsLeft_35 : decode cX9_bitsLeft 35 = .ok (.ireturn, 1) := by decide +kernel
theorem dX9_tellingSteps_0 : decode cX9_tellingSteps 0 = .ok (.aload_n 0, 1) := by decide +kernel
theorem dX9_tellingSteps_1 : decode cX9_tellingSteps 1 = .ok (.aload_n 1, 1) := by decide +kernel
theorem dX9_tellingSteps_2 : decode cX9_tellingSteps 2 = .ok (.iload_n 2, 1) := by decide +kernel
theorem dX9_tellingSteps_3 : decode cX9_tellingSteps 3 = .ok (.invokevirtual 48, 3) := by decide +kernel
theorem dX9_tellingSteps_6 : decode cX9_tellingSteps 6 = .ok (.aload_n 0, 1) := by decide +kernel
theorem dX9_tellingSteps_7 : decode cX9_tellingSteps 7 = .ok (.invokevirtual 52, 3) := by decide +kernel
theorem dX9_tellingSteps_10 : decode cX9_tellingSteps 10 = .ok (.istore_n 3, 1) := by decide +kernel
theorem dX9_tellingSteps_11 : decode cX9_tellingSteps 11 = .ok (.iconst (-1), 1) := by decide +kernel
theorem dX9_tellingSteps_12 : decode cX9_tellingSteps 12 = .ok (.istore 4, 2) := by decide +kernel
theorem dX9_tellingSteps_14 : decode cX9_tellingSteps 14 = .ok (.bipush 11, 2) := by decide +kernel
theorem dX9_tellingSteps_16 : decode cX9_tellingSteps 16 = .ok (.istore 5, 2) := by decide +kernel
theorem dX9_tellingSteps_18 : decode cX9_tellingSteps 18 = .ok (.aload_n 1, 1) := by decide +kernel
theorem dX9_tellingSteps_19 : decode cX9_tellingSteps 19 = .ok (.bipush 40, 2) := by decide +kernel
theorem dX9_tellingSteps_21 : decode cX9_tellingSteps 21 = .ok (.invokevirtual 60, 3) := by decide +kernel
theorem dX9_tellingSteps_24 : decode cX9_tellingSteps 24 = .ok (.istore 6, 2) := by decide +kernel
theorem dX9_tellingSteps_26 : decode cX9_tellingSteps 26 = .ok (.iconst 1, 1) := by decide +kernel
theorem dX9_tellingSteps_27 : decode cX9_tellingSteps 27 = .ok (.istore 7, 2) := by decide +kernel
theorem dX9_tellingSteps_29 : decode cX9_tellingSteps 29 = .ok (.iload_n 3, 1) := by decide +kernel
theorem dX9_tellingSteps_30 : decode cX9_tellingSteps 30 = .ok (.ifCond .eq 40, 3) := by decide +kernel
theorem dX9_tellingSteps_33 : decode cX9_tellingSteps 33 = .ok (.iload 7, 2) := by decide +kernel
theorem dX9_tellingSteps_35 : decode cX9_tellingSteps 35 = .ok (.iload 6, 2) := by decide +kernel
theorem dX9_tellingSteps_37 : decode cX9_tellingSteps 37 = .ok (.if_icmp .gt 33, 3) := by decide +kernel
theorem dX9_tellingSteps_40 : decode cX9_tellingSteps 40 = .ok (.aload_n 0, 1) := by decide +kernel
theorem dX9_tellingSteps_41 : decode cX9_tellingSteps 41 = .ok (.iload_n 3, 1) := by decide +kernel
theorem dX9_tellingSteps_42 : decode cX9_tellingSteps 42 = .ok (.iload 7, 2) := by decide +kernel
theorem dX9_tellingSteps_44 : decode cX9_tellingSteps 44 = .ok (.invokevirtual 63, 3) := by decide +kernel
theorem dX9_tellingSteps_47 : decode cX9_tellingSteps 47 = .ok (.istore 8, 2) := by decide +kernel
theorem dX9_tellingSteps_49 : decode cX9_tellingSteps 49 = .ok (.iload 8, 2) := by decide +kernel
theorem dX9_tellingSteps_51 : decode cX9_tellingSteps 51 = .ok (.iload 5, 2) := by decide +kernel
theorem dX9_tellingSteps_53 : decode cX9_tellingSteps 53 = .ok (.if_icmp .ge 11, 3) := by decide +kernel
theorem dX9_tellingSteps_56 : decode cX9_tellingSteps 56 = .ok (.iload 8, 2) := by decide +kernel
theorem dX9_tellingSteps_58 : decode cX9_tellingSteps 58 = .ok (.istore 5, 2) := by decide +kernel
theorem dX9_tellingSteps_60 : decode cX9_tellingSteps 60 = .ok (.iload 7, 2) := by decide +kernel
theorem dX9_tellingSteps_62 : decode cX9_tellingSteps 62 = .ok (.istore 4, 2) := by decide +kernel
theorem dX9_tellingSteps_64 : decode cX9_tellingSteps 64 = .ok (.iinc 7 1, 3) := by decide +kernel
theorem dX9_tellingSteps_67 : decode cX9_tellingSteps 67 = .ok (.goto (-38), 3) := by decide +kernel
theorem dX9_tellingSteps_70 : decode cX9_tellingSteps 70 = .ok (.iload 4, 2) := by decide +kernel
theorem dX9_tellingSteps_72 : decode cX9_tellingSteps 72 = .ok (.ireturn, 1) := by decide +kernel
theorem dX9_followAll_0 : decode cX9_followAll 0 = .ok (.aload_n 1, 1) := by decide +kernel
theorem dX9_followAll_1 : decode cX9_followAll 1 = .ok (.bipush 40, 2) := by decide +kernel
theorem dX9_followAll_3 : decode cX9_followAll 3 = .ok (.invokevirtual 60, 3) := by decide +kernel
theorem dX9_followAll_6 : decode cX9_followAll 6 = .ok (.istore_n 3, 1) := by decide +kernel
theorem dX9_followAll_7 : decode cX9_followAll 7 = .ok (.iconst 0, 1) := by decide +kernel
theorem dX9_followAll_8 : decode cX9_followAll 8 = .ok (.istore 4, 2) := by decide +kernel
theorem dX9_followAll_10 : decode cX9_followAll 10 = .ok (.iload 4, 2) := by decide +kernel
theorem dX9_followAll_12 : decode cX9_followAll 12 = .ok (.bipush 10, 2) := by decide +kernel
theorem dX9_followAll_14 : decode cX9_followAll 14 = .ok (.if_icmp .ge 91, 3) := by decide +kernel
theorem dX9_followAll_17 : decode cX9_followAll 17 = .ok (.aload_n 0, 1) := by decide +kernel
theorem dX9_followAll_18 : decode cX9_followAll 18 = .ok (.getfield 25, 3) := by decide +kernel
theorem dX9_followAll_21 : decode cX9_followAll 21 = .ok (.aload_n 1, 1) := by decide +kernel
theorem dX9_followAll_22 : decode cX9_followAll 22 = .ok (.invokevirtual 67, 3) := by decide +kernel
theorem dX9_followAll_25 : decode cX9_followAll 25 = .ok (.aload_n 0, 1) := by decide +kernel
theorem dX9_followAll_26 : decode cX9_followAll 26 = .ok (.getfield 25, 3) := by decide +kernel
theorem dX9_followAll_29 : decode cX9_followAll 29 = .ok (.iload_n 2, 1) := by decide +kernel
theorem dX9_followAll_30 : decode cX9_followAll 30 = .ok (.bipush 7, 2) := by decide +kernel
theorem dX9_followAll_32 : decode cX9_followAll 32 = .ok (.iload 4, 2) := by decide +kernel
theorem dX9_followAll_34 : decode cX9_followAll 34 = .ok (.invokevirtual 71, 3) := by decide +kernel
theorem dX9_followAll_37 : decode cX9_followAll 37 = .ok (.aload_n 0, 1) := by decide +kernel
theorem dX9_followAll_38 : decode cX9_followAll 38 = .ok (.getfield 19, 3) := by decide +kernel
theorem dX9_followAll_41 : decode cX9_followAll 41 = .ok (.iload 4, 2) := by decide +kernel
theorem dX9_followAll_43 : decode cX9_followAll 43 = .ok (.aaload, 1) := by decide +kernel
theorem dX9_followAll_44 : decode cX9_followAll 44 = .ok (.iconst (-1), 1) := by decide +kernel
theorem dX9_followAll_45 : decode cX9_followAll 45 = .ok (.invokestatic 75, 3) := by decide +kernel
theorem dX9_followAll_48 : decode cX9_followAll 48 = .ok (.iconst 0, 1) := by decide +kernel
theorem dX9_followAll_49 : decode cX9_followAll 49 = .ok (.istore 5, 2) := by decide +kernel
theorem dX9_followAll_51 : decode cX9_followAll 51 = .ok (.iload 5, 2) := by decide +kernel
theorem dX9_followAll_53 : decode cX9_followAll 53 = .ok (.iload_n 3, 1) := by decide +kernel
theorem dX9_followAll_54 : decode cX9_followAll 54 = .ok (.if_icmp .gt 45, 3) := by decide +kernel
theorem dX9_followAll_57 : decode cX9_followAll 57 = .ok (.iload 5, 2) := by decide +kernel
theorem dX9_followAll_59 : decode cX9_followAll 59 = .ok (.bipush 40, 2) := by decide +kernel
theorem dX9_followAll_61 : decode cX9_followAll 61 = .ok (.if_icmp .gt 38, 3) := by decide +kernel
theorem dX9_followAll_64 : decode cX9_followAll 64 = .ok (.iload 5, 2) := by decide +kernel
theorem dX9_followAll_66 : decode cX9_followAll 66 = .ok (.ifCond .le 12, 3) := by decide +kernel
theorem dX9_followAll_69 : decode cX9_followAll 69 = .ok (.aload_n 0, 1) := by decide +kernel
theorem dX9_followAll_70 : decode cX9_followAll 70 = .ok (.getfield 25, 3) := by decide +kernel
theorem dX9_followAll_73 : decode cX9_followAll 73 = .ok (.iconst 0, 1) := by decide +kernel
theorem dX9_followAll_74 : decode cX9_followAll 74 = .ok (.iconst 0, 1) := by decide +kernel
theorem dX9_followAll_75 : decode cX9_followAll 75 = .ok (.invokevirtual 81, 3) := by decide +kernel
theorem dX9_followAll_78 : decode cX9_followAll 78 = .ok (.aload_n 0, 1) := by decide +kernel
theorem dX9_followAll_79 : decode cX9_followAll 79 = .ok (.getfield 19, 3) := by decide +kernel
theorem dX9_followAll_82 : decode cX9_followAll 82 = .ok (.iload 4, 2) := by decide +kernel
theorem dX9_followAll_84 : decode cX9_followAll 84 = .ok (.aaload, 1) := by decide +kernel
theorem dX9_followAll_85 : decode cX9_followAll 85 = .ok (.iload 5, 2) := by decide +kernel
theorem dX9_followAll_87 : decode cX9_followAll 87 = .ok (.aload_n 0, 1) := by decide +kernel
theorem dX9_followAll_88 : decode cX9_followAll 88 = .ok (.iload_n 2, 1) := by decide +kernel
theorem dX9_followAll_89 : decode cX9_followAll 89 = .ok (.invokevirtual 85, 3) := by decide +kernel
theorem dX9_followAll_92 : decode cX9_followAll 92 = .ok (.iastore, 1) := by decide +kernel
theorem dX9_followAll_93 : decode cX9_followAll 93 = .ok (.iinc 5 1, 3) := by decide +kernel
theorem dX9_followAll_96 : decode cX9_followAll 96 = .ok (.goto (-45), 3) := by decide +kernel
theorem dX9_followAll_99 : decode cX9_followAll 99 = .ok (.iinc 4 1, 3) := by decide +kernel
theorem dX9_followAll_102 : decode cX9_followAll 102 = .ok (.goto (-92), 3) := by decide +kernel
theorem dX9_followAll_105 : decode cX9_followAll 105 = .ok (.return_, 1) := by decide +kernel
theorem dX9_placeOf_0 : decode cX9_placeOf 0 = .ok (.aload_n 0, 1) := by decide +kernel
theorem dX9_placeOf_1 : decode cX9_placeOf 1 = .ok (.getfield 25, 3) := by decide +kernel
theorem dX9_placeOf_4 : decode cX9_placeOf 4 = .ok (.iload_n 1, 1) := by decide +kernel
theorem dX9_placeOf_5 : decode cX9_placeOf 5 = .ok (.iconst 1, 1) := by decide +kernel
theorem dX9_placeOf_6 : decode cX9_placeOf 6 = .ok (.invokevirtual 88, 3) := by decide +kernel
theorem dX9_placeOf_9 : decode cX9_placeOf 9 = .ok (.bipush 9, 2) := by decide +kernel
theorem dX9_placeOf_11 : decode cX9_placeOf 11 = .ok (.imul, 1) := by decide +kernel
theorem dX9_placeOf_12 : decode cX9_placeOf 12 = .ok (.aload_n 0, 1) := by decide +kernel
theorem dX9_placeOf_13 : decode cX9_placeOf 13 = .ok (.getfield 25, 3) := by decide +kernel
theorem dX9_placeOf_16 : decode cX9_placeOf 16 = .ok (.iload_n 1, 1) := by decide +kernel
theorem dX9_placeOf_17 : decode cX9_placeOf 17 = .ok (.iconst 0, 1) := by decide +kernel
theorem dX9_placeOf_18 : decode cX9_placeOf 18 = .ok (.invokevirtual 88, 3) := by decide +kernel
theorem dX9_placeOf_21 : decode cX9_placeOf 21 = .ok (.iadd, 1) := by decide +kernel
theorem dX9_placeOf_22 : decode cX9_placeOf 22 = .ok (.ireturn, 1) := by decide +kernel
theorem dX9_fitsRows_0 : decode cX9_fitsRows 0 = .ok (.iload_n 1, 1) := by decide +kernel
theorem dX9_fitsRows_1 : decode cX9_fitsRows 1 = .ok (.ifCond .lt 13, 3) := by decide +kernel
theorem dX9_fitsRows_4 : decode cX9_fitsRows 4 = .ok (.iload_n 1, 1) := by decide +kernel
theorem dX9_fitsRows_5 : decode cX9_fitsRows 5 = .ok (.bipush 10, 2) := by decide +kernel
theorem dX9_fitsRows_7 : decode cX9_fitsRows 7 = .ok (.if_icmp .ge 7, 3) := by decide +kernel
theorem dX9_fitsRows_10 : decode cX9_fitsRows 10 = .ok (.iconst 1, 1) := by decide +kernel
theorem dX9_fitsRows_11 : decode cX9_fitsRows 11 = .ok (.goto 4, 3) := by decide +kernel
theorem dX9_fitsRows_14 : decode cX9_fitsRows 14 = .ok (.iconst 0, 1) := by decide +kernel
theorem dX9_fitsRows_15 : decode cX9_fitsRows 15 = .ok (.istore_n 2, 1) := by decide +kernel
theorem dX9_fitsRows_16 : decode cX9_fitsRows 16 = .ok (.iconst 0, 1) := by decide +kernel
theorem dX9_fitsRows_17 : decode cX9_fitsRows 17 = .ok (.istore_n 3, 1) := by decide +kernel
theorem dX9_fitsRows_18 : decode cX9_fitsRows 18 = .ok (.iload_n 2, 1) := by decide +kernel
theorem dX9_fitsRows_19 : decode cX9_fitsRows 19 = .ok (.ifCond .eq 91, 3) := by decide +kernel
theorem dX9_fitsRows_22 : decode cX9_fitsRows 22 = .ok (.iload_n 3, 1) := by decide +kernel
theorem dX9_fitsRows_23 : decode cX9_fitsRows 23 = .ok (.aload_n 0, 1) := by decide +kernel
theorem dX9_fitsRows_24 : decode cX9_fitsRows 24 = .ok (.getfield 29, 3) := by decide +kernel
theorem dX9_fitsRows_27 : decode cX9_fitsRows 27 = .ok (.if_icmp .ge 83, 3) := by decide +kernel
theorem dX9_fitsRows_30 : decode cX9_fitsRows 30 = .ok (.iload_n 3, 1) := by decide +kernel
theorem dX9_fitsRows_31 : decode cX9_fitsRows 31 = .ok (.bipush 16, 2) := by decide +kernel
theorem dX9_fitsRows_33 : decode cX9_fitsRows 33 = .ok (.if_icmp .ge 77, 3) := by decide +kernel
theorem dX9_fitsRows_36 : decode cX9_fitsRows 36 = .ok (.aload_n 0, 1) := by decide +kernel
theorem dX9_fitsRows_37 : decode cX9_fitsRows 37 = .ok (.getfield 13, 3) := by decide +kernel
theorem dX9_fitsRows_40 : decode cX9_fitsRows 40 = .ok (.iconst 3, 1) := by decide +kernel
theorem dX9_fitsRows_41 : decode cX9_fitsRows 41 = .ok (.iload_n 3, 1) := by decide +kernel
theorem dX9_fitsRows_42 : decode cX9_fitsRows 42 = .ok (.imul, 1) := by decide +kernel
theorem dX9_fitsRows_43 : decode cX9_fitsRows 43 = .ok (.iaload, 1) := by decide +kernel
theorem dX9_fitsRows_44 : decode cX9_fitsRows 44 = .ok (.istore 4, 2) := by decide +kernel
theorem dX9_fitsRows_46 : decode cX9_fitsRows 46 = .ok (.aload_n 0, 1) := by decide +kernel
theorem dX9_fitsRows_47 : decode cX9_fitsRows 47 = .ok (.getfield 13, 3) := by decide +kernel
theorem dX9_fitsRows_50 : decode cX9_fitsRows 50 = .ok (.iconst 3, 1) := by decide +kernel
theorem dX9_fitsRows_51 : decode cX9_fitsRows 51 = .ok (.iload_n 3, 1) := by decide +kernel
theorem dX9_fitsRows_52 : decode cX9_fitsRows 52 = .ok (.imul, 1) := by decide +kernel
theorem dX9_fitsRows_53 : decode cX9_fitsRows 53 = .ok (.iconst 2, 1) := by decide +kernel
theorem dX9_fitsRows_54 : decode cX9_fitsRows 54 = .ok (.iadd, 1) := by decide +kernel
theorem dX9_fitsRows_55 : decode cX9_fitsRows 55 = .ok (.iaload, 1) := by decide +kernel
theorem dX9_fitsRows_56 : decode cX9_fitsRows 56 = .ok (.bipush 9, 2) := by decide +kernel
theorem dX9_fitsRows_58 : decode cX9_fitsRows 58 = .ok (.imul, 1) := by decide +kernel
theorem dX9_fitsRows_59 : decode cX9_fitsRows 59 = .ok (.aload_n 0, 1) := by decide +kernel
theorem dX9_fitsRows_60 : decode cX9_fitsRows 60 = .ok (.getfield 13, 3) := by decide +kernel
theorem dX9_fitsRows_63 : decode cX9_fitsRows 63 = .ok (.iconst 3, 1) := by decide +kernel
theorem dX9_fitsRows_64 : decode cX9_fitsRows 64 = .ok (.iload_n 3, 1) := by decide +kernel
theorem dX9_fitsRows_65 : decode cX9_fitsRows 65 = .ok (.imul, 1) := by decide +kernel
theorem dX9_fitsRows_66 : decode cX9_fitsRows 66 = .ok (.iconst 1, 1) := by decide +kernel
theorem dX9_fitsRows_67 : decode cX9_fitsRows 67 = .ok (.iadd, 1) := by decide +kernel
theorem dX9_fitsRows_68 : decode cX9_fitsRows 68 = .ok (.iaload, 1) := by decide +kernel
theorem dX9_fitsRows_69 : decode cX9_fitsRows 69 = .ok (.iadd, 1) := by decide +kernel
theorem dX9_fitsRows_70 : decode cX9_fitsRows 70 = .ok (.istore 5, 2) := by decide +kernel
theorem dX9_fitsRows_72 : decode cX9_fitsRows 72 = .ok (.iload 4, 2) := by decide +kernel
theorem dX9_fitsRows_74 : decode cX9_fitsRows 74 = .ok (.ifCond .lt 28, 3) := by decide +kernel
theorem dX9_fitsRows_77 : decode cX9_fitsRows 77 = .ok (.iload 4, 2) := by decide +kernel
theorem dX9_fitsRows_79 : decode cX9_fitsRows 79 = .ok (.bipush 40, 2) := by decide +kernel
theorem dX9_fitsRows_81 : decode cX9_fitsRows 81 = .ok (.if_icmp .gt 21, 3) := by decide +kernel
theorem dX9_fitsRows_84 : decode cX9_fitsRows 84 = .ok (.aload_n 0, 1) := by decide +kernel
theorem dX9_fitsRows_85 : decode cX9_fitsRows 85 = .ok (.getfield 19, 3) := by decide +kernel
theorem dX9_fitsRows_88 : decode cX9_fitsRows 88 = .ok (.iload_n 1, 1) := by decide +kernel
theorem dX9_fitsRows_89 : decode cX9_fitsRows 89 = .ok (.aaload, 1) := by decide +kernel
theorem dX9_fitsRows_90 : decode cX9_fitsRows 90 = .ok (.iload 4, 2) := by decide +kernel
theorem dX9_fitsRows_92 : decode cX9_fitsRows 92 = .ok (.iaload, 1) := by decide +kernel
theorem dX9_fitsRows_93 : decode cX9_fitsRows 93 = .ok (.iload 5, 2) := by decide +kernel
theorem dX9_fitsRows_95 : decode cX9_fitsRows 95 = .ok (.if_icmp .ne 7, 3) := by decide +kernel
theorem dX9_fitsRows_98 : decode cX9_fitsRows 98 = .ok (.iconst 1, 1) := by decide +kernel
theorem dX9_fitsRows_99 : decode cX9_fitsRows 99 = .ok (.goto 4, 3) := by decide +kernel
theorem dX9_fitsRows_102 : decode cX9_fitsRows 102 = .ok (.iconst 0, 1) := by decide +kernel
theorem dX9_fitsRows_103 : decode cX9_fitsRows 103 = .ok (.istore_n 2, 1) := by decide +kernel
theorem dX9_fitsRows_104 : decode cX9_fitsRows 104 = .ok (.iinc 3 1, 3) := by decide +kernel
theorem dX9_fitsRows_107 : decode cX9_fitsRows 107 = .ok (.goto (-89), 3) := by decide +kernel
theorem dX9_fitsRows_110 : decode cX9_fitsRows 110 = .ok (.iload_n 2, 1) := by decide +kernel
theorem dX9_fitsRows_111 : decode cX9_fitsRows 111 = .ok (.ireturn, 1) := by decide +kernel
theorem dX9_mostLeft_0 : decode cX9_mostLeft 0 = .ok (.iconst 0, 1) := by decide +kernel
theorem dX9_mostLeft_1 : decode cX9_mostLeft 1 = .ok (.istore_n 3, 1) := by decide +kernel
theorem dX9_mostLeft_2 : decode cX9_mostLeft 2 = .ok (.iconst 0, 1) := by decide +kernel
theorem dX9_mostLeft_3 : decode cX9_mostLeft 3 = .ok (.istore 4, 2) := by decide +kernel
theorem dX9_mostLeft_5 : decode cX9_mostLeft 5 = .ok (.iload 4, 2) := by decide +kernel
theorem dX9_mostLeft_7 : decode cX9_mostLeft 7 = .ok (.bipush 10, 2) := by decide +kernel
theorem dX9_mostLeft_9 : decode cX9_mostLeft 9 = .ok (.if_icmp .ge 103, 3) := by decide +kernel
theorem dX9_mostLeft_12 : decode cX9_mostLeft 12 = .ok (.iload_n 2, 1) := by decide +kernel
theorem dX9_mostLeft_13 : decode cX9_mostLeft 13 = .ok (.ifCond .lt 99, 3) := by decide +kernel
theorem dX9_mostLeft_16 : decode cX9_mostLeft 16 = .ok (.iload_n 2, 1) := by decide +kernel
theorem dX9_mostLeft_17 : decode cX9_mostLeft 17 = .ok (.bipush 40, 2) := by decide +kernel
theorem dX9_mostLeft_19 : decode cX9_mostLeft 19 = .ok (.if_icmp .gt 93, 3) := by decide +kernel
theorem dX9_mostLeft_22 : decode cX9_mostLeft 22 = .ok (.iconst 0, 1) := by decide +kernel
theorem dX9_mostLeft_23 : decode cX9_mostLeft 23 = .ok (.istore 5, 2) := by decide +kernel
theorem dX9_mostLeft_25 : decode cX9_mostLeft 25 = .ok (.iconst 0, 1) := by decide +kernel
theorem dX9_mostLeft_26 : decode cX9_mostLeft 26 = .ok (.istore 6, 2) := by decide +kernel
theorem dX9_mostLeft_28 : decode cX9_mostLeft 28 = .ok (.iload 6, 2) := by decide +kernel
theorem dX9_mostLeft_30 : decode cX9_mostLeft 30 = .ok (.bipush 10, 2) := by decide +kernel
theorem dX9_mostLeft_32 : decode cX9_mostLeft 32 = .ok (.if_icmp .ge 67, 3) := by decide +kernel
theorem dX9_mostLeft_35 : decode cX9_mostLeft 35 = .ok (.iload_n 1, 1) := by decide +kernel
theorem dX9_mostLeft_36 : decode cX9_mostLeft 36 = .ok (.iload 4, 2) := by decide +kernel
theorem dX9_mostLeft_38 : decode cX9_mostLeft 38 = .ok (.ishr, 1) := by decide +kernel
theorem dX9_mostLeft_39 : decode cX9_mostLeft 39 = .ok (.iload_n 1, 1) := by decide +kernel
theorem dX9_mostLeft_40 : decode cX9_mostLeft 40 = .ok (.iload 6, 2) := by decide +kernel
theorem dX9_mostLeft_42 : decode cX9_mostLeft 42 = .ok (.ishr, 1) := by decide +kernel
theorem dX9_mostLeft_43 : decode cX9_mostLeft 43 = .ok (.iand, 1) := by decide +kernel
theorem dX9_mostLeft_44 : decode cX9_mostLeft 44 = .ok (.iconst 1, 1) := by decide +kernel
theorem dX9_mostLeft_45 : decode cX9_mostLeft 45 = .ok (.iand, 1) := by decide +kernel
theorem dX9_mostLeft_46 : decode cX9_mostLeft 46 = .ok (.iconst 1, 1) := by decide +kernel
theorem dX9_mostLeft_47 : decode cX9_mostLeft 47 = .ok (.if_icmp .ne 7, 3) := by decide +kernel
theorem dX9_mostLeft_50 : decode cX9_mostLeft 50 = .ok (.iconst 1, 1) := by decide +kernel
theorem dX9_mostLeft_51 : decode cX9_mostLeft 51 = .ok (.goto 4, 3) := by decide +kernel
theorem dX9_mostLeft_54 : decode cX9_mostLeft 54 = .ok (.iconst 0, 1) := by decide +kernel
theorem dX9_mostLeft_55 : decode cX9_mostLeft 55 = .ok (.istore 7, 2) := by decide +kernel
theorem dX9_mostLeft_57 : decode cX9_mostLeft 57 = .ok (.iload 5, 2) := by decide +kernel
theorem dX9_mostLeft_59 : decode cX9_mostLeft 59 = .ok (.iload 7, 2) := by decide +kernel
theorem dX9_mostLeft_61 : decode cX9_mostLeft 61 = .ok (.ifCond .eq 28, 3) := by decide +kernel
theorem dX9_mostLeft_64 : decode cX9_mostLeft 64 = .ok (.aload_n 0, 1) := by decide +kernel
theorem dX9_mostLeft_65 : decode cX9_mostLeft 65 = .ok (.getfield 19, 3) := by decide +kernel
theorem dX9_mostLeft_68 : decode cX9_mostLeft 68 = .ok (.iload 4, 2) := by decide +kernel
theorem dX9_mostLeft_70 : decode cX9_mostLeft 70 = .ok (.aaload, 1) := by decide +kernel
theorem dX9_mostLeft_71 : decode cX9_mostLeft 71 = .ok (.iload_n 2, 1) := by decide +kernel
theorem dX9_mostLeft_72 : decode cX9_mostLeft 72 = .ok (.iaload, 1) := by decide +kernel
theorem dX9_mostLeft_73 : decode cX9_mostLeft 73 = .ok (.aload_n 0, 1) := by decide +kernel
theorem dX9_mostLeft_74 : decode cX9_mostLeft 74 = .ok (.getfield 19, 3) := by decide +kernel
theorem dX9_mostLeft_77 : decode cX9_mostLeft 77 = .ok (.iload 6, 2) := by decide +kernel
theorem dX9_mostLeft_79 : decode cX9_mostLeft 79 = .ok (.aaload, 1) := by decide +kernel
theorem dX9_mostLeft_80 : decode cX9_mostLeft 80 = .ok (.iload_n 2, 1) := by decide +kernel
theorem dX9_mostLeft_81 : decode cX9_mostLeft 81 = .ok (.iaload, 1) := by decide +kernel
theorem dX9_mostLeft_82 : decode cX9_mostLeft 82 = .ok (.if_icmp .ne 7, 3) := by decide +kernel
theorem dX9_mostLeft_85 : decode cX9_mostLeft 85 = .ok (.iconst 1, 1) := by decide +kernel
theorem dX9_mostLeft_86 : decode cX9_mostLeft 86 = .ok (.goto 4, 3) := by decide +kernel
theorem dX9_mostLeft_89 : decode cX9_mostLeft 89 = .ok (.iconst 0, 1) := by decide +kernel
theorem dX9_mostLeft_90 : decode cX9_mostLeft 90 = .ok (.iadd, 1) := by decide +kernel
theorem dX9_mostLeft_91 : decode cX9_mostLeft 91 = .ok (.istore 5, 2) := by decide +kernel
theorem dX9_mostLeft_93 : decode cX9_mostLeft 93 = .ok (.iinc 6 1, 3) := by decide +kernel
theorem dX9_mostLeft_96 : decode cX9_mostLeft 96 = .ok (.goto (-68), 3) := by decide +kernel
theorem dX9_mostLeft_99 : decode cX9_mostLeft 99 = .ok (.iload_n 3, 1) := by decide +kernel
theorem dX9_mostLeft_100 : decode cX9_mostLeft 100 = .ok (.iload 5, 2) := by decide +kernel
theorem dX9_mostLeft_102 : decode cX9_mostLeft 102 = .ok (.invokestatic 91, 3) := by decide +kernel
theorem dX9_mostLeft_105 : decode cX9_mostLeft 105 = .ok (.istore_n 3, 1) := by decide +kernel
theorem dX9_mostLeft_106 : decode cX9_mostLeft 106 = .ok (.iinc 4 1, 3) := by decide +kernel
theorem dX9_mostLeft_109 : decode cX9_mostLeft 109 = .ok (.goto (-104), 3) := by decide +kernel
theorem dX9_mostLeft_112 : decode cX9_mostLeft 112 = .ok (.iload_n 3, 1) := by decide +kernel
theorem dX9_mostLeft_113 : decode cX9_mostLeft 113 = .ok (.ireturn, 1) := by decide +kernel
theorem dX10_init_0 : decode cX10_init 0 = .ok (.aload_n 0, 1) := by decide +kernel
theorem dX10_init_1 : decode cX10_init 1 = .ok (.invokespecial 7, 3) := by decide +kernel
theorem dX10_init_4 : decode cX10_init 4 = .ok (.aload_n 0, 1) := by decide +kernel
theorem dX10_init_5 : decode cX10_init 5 = .ok (.bipush 60, 2) := by decide +kernel
theorem dX10_init_7 : decode cX10_init 7 = .ok (.newarray .int, 2) := by decide +kernel
theorem dX10_init_9 : decode cX10_init 9 = .ok (.putfield 13, 3) := by decide +kernel
theorem dX10_init_12 : decode cX10_init 12 = .ok (.aload_n 0, 1) := by decide +kernel
theorem dX10_init_13 : decode cX10_init 13 = .ok (.bipush 6, 2) := by decide +kernel
theorem dX10_init_15 : decode cX10_init 15 = .ok (.newarray .boolean, 2) := by decide +kernel
theorem dX10_init_17 : decode cX10_init 17 = .ok (.putfield 17, 3) := by decide +kernel
theorem dX10_init_20 : decode cX10_init 20 = .ok (.aload_n 0, 1) := by decide +kernel
theorem dX10_init_21 : decode cX10_init 21 = .ok (.new 21, 3) := by decide +kernel
theorem dX10_init_24 : decode cX10_init 24 = .ok (.dup, 1) := by decide +kernel
theorem dX10_init_25 : decode cX10_init 25 = .ok (.invokespecial 23, 3) := by decide +kernel
theorem dX10_init_28 : decode cX10_init 28 = .ok (.putfield 24, 3) := by decide +kernel
theorem dX10_init_31 : decode cX10_init 31 = .ok (.aload_n 0, 1) := by decide +kernel
theorem dX10_init_32 : decode cX10_init 32 = .ok (.aload_n 1, 1) := by decide +kernel
theorem dX10_init_33 : decode cX10_init 33 = .ok (.putfield 28, 3) := by decide +kernel
theorem dX10_init_36 : decode cX10_init 36 = .ok (.aload_n 0, 1) := by decide +kernel
theorem dX10_init_37 : decode cX10_init 37 = .ok (.iconst 0, 1) := by decide +kernel
theorem dX10_init_38 : decode cX10_init 38 = .ok (.putfield 32, 3) := by decide +kernel
theorem dX10_init_41 : decode cX10_init 41 = .ok (.aload_n 0, 1) := by decide +kernel
theorem dX10_init_42 : decode cX10_init 42 = .ok (.iconst 0, 1) := by decide +kernel
theorem dX10_init_43 : decode cX10_init 43 = .ok (.putfield 36, 3) := by decide +kernel
theorem dX10_init_46 : decode cX10_init 46 = .ok (.aload_n 0, 1) := by decide +kernel
theorem dX10_init_47 : decode cX10_init 47 = .ok (.iconst 0, 1) := by decide +kernel
theorem dX10_init_48 : decode cX10_init 48 = .ok (.putfield 39, 3) := by decide +kernel
theorem dX10_init_51 : decode cX10_init 51 = .ok (.aload_n 0, 1) := by decide +kernel
theorem dX10_init_52 : decode cX10_init 52 = .ok (.iconst 0, 1) := by decide +kernel
theorem dX10_init_53 : decode cX10_init 53 = .ok (.putfield 42, 3) := by decide +kernel
theorem dX10_init_56 : decode cX10_init 56 = .ok (.return_, 1) := by decide +kernel
theorem dX10_columnStep_0 : decode cX10_columnStep 0 = .ok (.iload_n 0, 1) := by decide +kernel
theorem dX10_columnStep_1 : decode cX10_columnStep 1 = .ok (.iconst 1, 1) := by decide +kernel
theorem dX10_columnStep_2 : decode cX10_columnStep 2 = .ok (.if_icmp .ne 5, 3) := by decide +kernel
theorem dX10_columnStep_5 : decode cX10_columnStep 5 = .ok (.iconst 1, 1) := by decide +kernel
theorem dX10_columnStep_6 : decode cX10_columnStep 6 = .ok (.ireturn, 1) := by decide +kernel
theorem dX10_columnStep_7 : decode cX10_columnStep 7 = .ok (.iload_n 0, 1) := by decide +kernel
theorem dX10_columnStep_8 : decode cX10_columnStep 8 = .ok (.iconst 3, 1) := by decide +kernel
theorem dX10_columnStep_9 : decode cX10_columnStep 9 = .ok (.if_icmp .ne 7, 3) := by decide +kernel
theorem dX10_columnStep_12 : decode cX10_columnStep 12 = .ok (.iconst (-1), 1) := by decide +kernel
theorem dX10_columnStep_13 : decode cX10_columnStep 13 = .ok (.goto 4, 3) := by decide +kernel
theorem dX10_columnStep_16 : decode cX10_columnStep 16 = .ok (.iconst 0, 1) := by decide +kernel
theorem dX10_columnStep_17 : decode cX10_columnStep 17 = .ok (.ireturn, 1) := by decide +kernel
theorem dX10_rowStep_0 : decode cX10_rowStep 0 = .ok (.iload_n 0, 1) := by decide +kernel
theorem dX10_rowStep_1 : decode cX10_rowStep 1 = .ok (.iconst 2, 1) := by decide +kernel
theorem dX10_rowStep_2 : decode cX10_rowStep 2 = .ok (.if_icmp .ne 5, 3) := by decide +kernel
theorem dX10_rowStep_5 : decode cX10_rowStep 5 = .ok (.iconst 1, 1) := by decide +kernel
theorem dX10_rowStep_6 : decode cX10_rowStep 6 = .ok (.ireturn, 1) := by decide +kernel
theorem dX10_rowStep_7 : decode cX10_rowStep 7 = .ok (.iload_n 0, 1) := by decide +kernel
theorem dX10_rowStep_8 : decode cX10_rowStep 8 = .ok (.ifCond .ne 7, 3) := by decide +kernel
theorem dX10_rowStep_11 : decode cX10_rowStep 11 = .ok (.iconst (-1), 1) := by decide +kernel
theorem dX10_rowStep_12 : decode cX10_rowStep 12 = .ok (.goto 4, 3) := by decide +kernel
theorem dX10_rowStep_15 : decode cX10_rowStep 15 = .ok (.iconst 0, 1) := by decide +kernel
theorem dX10_rowStep_16 : decode cX10_rowStep 16 = .ok (.ireturn, 1) := by decide +kernel
theorem dX10_boxIn_0 : decode cX10_boxIn 0 = .ok (.iconst 0, 1) := by decide +kernel
theorem dX10_boxIn_1 : decode cX10_boxIn 1 = .ok (.istore 4, 2) := by decide +kernel
theorem dX10_boxIn_3 : decode cX10_boxIn 3 = .ok (.iload 4, 2) := by decide +kernel
theorem dX10_boxIn_5 : decode cX10_boxIn 5 = .ok (.iload_n 1, 1) := by decide +kernel
theorem dX10_boxIn_6 : decode cX10_boxIn 6 = .ok (.if_icmp .ge 55, 3) := by decide +kernel
theorem dX10_boxIn_9 : decode cX10_boxIn 9 = .ok (.iload 4, 2) := by decide +kernel
theorem dX10_boxIn_11 : decode cX10_boxIn 11 = .ok (.bipush 6, 2) := by decide +kernel
theorem dX10_boxIn_13 : decode cX10_boxIn 13 = .ok (.if_icmp .ge 48, 3) := by decide +kernel
theorem dX10_boxIn_16 : decode cX10_boxIn 16 = .ok (.iload 4, 2) := by decide +kernel
theorem dX10_boxIn_18 : decode cX10_boxIn 18 = .ok (.bipush 10, 2) := by decide +kernel
theorem dX10_boxIn_20 : decode cX10_boxIn 20 = .ok (.imul, 1) := by decide +kernel
theorem dX10_boxIn_21 : decode cX10_boxIn 21 = .ok (.istore 5, 2) := by decide +kernel
theorem dX10_boxIn_23 : decode cX10_boxIn 23 = .ok (.iload 5, 2) := by decide +kernel
theorem dX10_boxIn_25 : decode cX10_boxIn 25 = .ok (.iconst 1, 1) := by decide +kernel
theorem dX10_boxIn_26 : decode cX10_boxIn 26 = .ok (.iadd, 1) := by decide +kernel
theorem dX10_boxIn_27 : decode cX10_boxIn 27 = .ok (.aload_n 0, 1) := by decide +kernel
theorem dX10_boxIn_28 : decode cX10_boxIn 28 = .ok (.arraylength, 1) := by decide +kernel
theorem dX10_boxIn_29 : decode cX10_boxIn 29 = .ok (.if_icmp .ge 26, 3) := by decide +kernel
theorem dX10_boxIn_32 : decode cX10_boxIn 32 = .ok (.aload_n 0, 1) := by decide +kernel
theorem dX10_boxIn_33 : decode cX10_boxIn 33 = .ok (.iload 5, 2) := by decide +kernel
theorem dX10_boxIn_35 : decode cX10_boxIn 35 = .ok (.iconst 0, 1) := by decide +kernel
theorem dX10_boxIn_36 : decode cX10_boxIn 36 = .ok (.iadd, 1) := by decide +kernel
theorem dX10_boxIn_37 : decode cX10_boxIn 37 = .ok (.iaload, 1) := by decide +kernel
theorem dX10_boxIn_38 : decode cX10_boxIn 38 = .ok (.iload_n 2, 1) := by decide +kernel
theorem dX10_boxIn_39 : decode cX10_boxIn 39 = .ok (.if_icmp .ne 16, 3) := by decide +kernel
theorem dX10_boxIn_42 : decode cX10_boxIn 42 = .ok (.aload_n 0, 1) := by decide +kernel
theorem dX10_boxIn_43 : decode cX10_boxIn 43 = .ok (.iload 5, 2) := by decide +kernel
theorem dX10_boxIn_45 : decode cX10_boxIn 45 = .ok (.iconst 1, 1) := by decide +kernel
theorem dX10_boxIn_46 : decode cX10_boxIn 46 = .ok (.iadd, 1) := by decide +kernel
theorem dX10_boxIn_47 : decode cX10_boxIn 47 = .ok (.iaload, 1) := by decide +kernel
theorem dX10_boxIn_48 : decode cX10_boxIn 48 = .ok (.iload_n 3, 1) := by decide +kernel
theorem dX10_boxIn_49 : decode cX10_boxIn 49 = .ok (.if_icmp .ne 6, 3) := by decide +kernel
theorem dX10_boxIn_52 : decode cX10_boxIn 52 = .ok (.iload 4, 2) := by decide +kernel
theorem dX10_boxIn_54 : decode cX10_boxIn 54 = .ok (.ireturn, 1) := by decide +kernel
theorem dX10_boxIn_55 : decode cX10_boxIn 55 = .ok (.iinc 4 1, 3) := by decide +kernel
theorem dX10_boxIn_58 : decode cX10_boxIn 58 = .ok (.goto (-55), 3) := by decide +kernel
theorem dX10_boxIn_61 : decode cX10_boxIn 61 = .ok (.iconst (-1), 1) := by decide +kernel
theorem dX10_boxIn_62 : decode cX10_boxIn 62 = .ok (.ireturn, 1) := by decide +kernel
theorem dX10_begin_0 : decode cX10_begin 0 = .ok (.aload_n 0, 1) := by decide +kernel
theorem dX10_begin_1 : decode cX10_begin 1 = .ok (.aload_n 1, 1) := by decide +kernel
theorem dX10_begin_2 : decode cX10_begin 2 = .ok (.putfield 28, 3) := by decide +kernel
theorem dX10_begin_5 : decode cX10_begin 5 = .ok (.aload_n 0, 1) := by decide +kernel
theorem dX10_begin_6 : decode cX10_begin 6 = .ok (.iconst 0, 1) := by decide +kernel
theorem dX10_begin_7 : decode cX10_begin 7 = .ok (.putfield 32, 3) := by decide +kernel
theorem dX10_begin_10 : decode cX10_begin 10 = .ok (.aload_n 0, 1) := by decide +kernel
theorem dX10_begin_11 : decode cX10_begin 11 = .ok (.aload_n 1, 1) := by decide +kernel
theorem dX10_begin_12 : decode cX10_begin 12 = .ok (.getfield 45, 3) := by decide +kernel
theorem dX10_begin_15 : decode cX10_begin 15 = .ok (.putfield 36, 3) := by decide +kernel
theorem dX10_begin_18 : decode cX10_begin 18 = .ok (.aload_n 1, 1) := by decide +kernel
theorem dX10_begin_19 : decode cX10_begin 19 = .ok (.getfield 46, 3) := by decide +kernel
theorem dX10_begin_22 : decode cX10_begin 22 = .ok (.iconst 0, 1) := by decide +kernel
theorem dX10_begin_23 : decode cX10_begin 23 = .ok (.aload_n 0, 1) := by decide +kernel
theorem dX10_begin_24 : decode cX10_begin 24 = .ok (.getfield 13, 3) := by decide +kernel
theorem dX10_begin_27 : decode cX10_begin 27 = .ok (.iconst 0, 1) := by decide +kernel
theorem dX10_begin_28 : decode cX10_begin 28 = .ok (.bipush 60, 2) := by decide +kernel
theorem dX10_begin_30 : decode cX10_begin 30 = .ok (.invokestatic 49, 3) := by decide +kernel
theorem dX10_begin_33 : decode cX10_begin 33 = .ok (.iconst 0, 1) := by decide +kernel
theorem dX10_begin_34 : decode cX10_begin 34 = .ok (.istore_n 2, 1) := by decide +kernel
theorem dX10_begin_35 : decode cX10_begin 35 = .ok (.iload_n 2, 1) := by decide +kernel
theorem dX10_begin_36 : decode cX10_begin 36 = .ok (.aload_n 1, 1) := by decide +kernel
theorem dX10_begin_37 : decode cX10_begin 37 = .ok (.getfield 55, 3) := by decide +kernel
theorem dX10_begin_40 : decode cX10_begin 40 = .ok (.if_icmp .ge 19, 3) := by decide +kernel
theorem dX10_begin_43 : decode cX10_begin 43 = .ok (.aload_n 0, 1) := by decide +kernel
theorem dX10_begin_44 : decode cX10_begin 44 = .ok (.iload_n 2, 1) := by decide +kernel
theorem dX10_begin_45 : decode cX10_begin 45 = .ok (.iconst 3, 1) := by decide +kernel
theorem dX10_begin_46 : decode cX10_begin 46 = .ok (.aload_n 1, 1) := by decide +kernel
theorem dX10_begin_47 : decode cX10_begin 47 = .ok (.getfield 58, 3) := by decide +kernel
theorem dX10_begin_50 : decode cX10_begin 50 = .ok (.invokevirtual 61, 3) := by decide +kernel
theorem dX10_begin_53 : decode cX10_begin 53 = .ok (.iinc 2 1, 3) := by decide +kernel
theorem dX10_begin_56 : decode cX10_begin 56 = .ok (.goto (-21), 3) := by decide +kernel
theorem dX10_begin_59 : decode cX10_begin 59 = .ok (.return_, 1) := by decide +kernel
theorem dX10_copyFrom_0 : decode cX10_copyFrom 0 = .ok (.aload_n 0, 1) := by decide +kernel
theorem dX10_copyFrom_1 : decode cX10_copyFrom 1 = .ok (.aload_n 1, 1) := by decide +kernel
theorem dX10_copyFrom_2 : decode cX10_copyFrom 2 = .ok (.getfield 28, 3) := by decide +kernel
theorem dX10_copyFrom_5 : decode cX10_copyFrom 5 = .ok (.putfield 28, 3) := by decide +kernel
theorem dX10_copyFrom_8 : decode cX10_copyFrom 8 = .ok (.aload_n 0, 1) := by decide +kernel
theorem dX10_copyFrom_9 : decode cX10_copyFrom 9 = .ok (.aload_n 1, 1) := by decide +kernel
theorem dX10_copyFrom_10 : decode cX10_copyFrom 10 = .ok (.getfield 32, 3) := by decide +kernel
theorem dX10_copyFrom_13 : decode cX10_copyFrom 13 = .ok (.putfield 32, 3) := by decide +kernel
theorem dX10_copyFrom_16 : decode cX10_copyFrom 16 = .ok (.aload_n 0, 1) := by decide +kernel
theorem dX10_copyFrom_17 : decode cX10_copyFrom 17 = .ok (.aload_n 1, 1) := by decide +kernel
theorem dX10_copyFrom_18 : decode cX10_copyFrom 18 = .ok (.getfield 36, 3) := by decide +kernel
theorem dX10_copyFrom_21 : decode cX10_copyFrom 21 = .ok (.putfield 36, 3) := by decide +kernel
theorem dX10_copyFrom_24 : decode cX10_copyFrom 24 = .ok (.aload_n 1, 1) := by decide +kernel
theorem dX10_copyFrom_25 : decode cX10_copyFrom 25 = .ok (.getfield 13, 3) := by decide +kernel
theorem dX10_copyFrom_28 : decode cX10_copyFrom 28 = .ok (.iconst 0, 1) := by decide +kernel
theorem dX10_copyFrom_29 : decode cX10_copyFrom 29 = .ok (.aload_n 0, 1) := by decide +kernel
theorem dX10_copyFrom_30 : decode cX10_copyFrom 30 = .ok (.getfield 13, 3) := by decide +kernel
theorem dX10_copyFrom_33 : decode cX10_copyFrom 33 = .ok (.iconst 0, 1) := by decide +kernel
theorem dX10_copyFrom_34 : decode cX10_copyFrom 34 = .ok (.bipush 60, 2) := by decide +kernel
theorem dX10_copyFrom_36 : decode cX10_copyFrom 36 = .ok (.invokestatic 49, 3) := by decide +kernel
theorem dX10_copyFrom_39 : decode cX10_copyFrom 39 = .ok (.return_, 1) := by decide +kernel
theorem dX10_saveTo_0 : decode cX10_saveTo 0 = .ok (.aload_n 1, 1) := by decide +kernel
theorem dX10_saveTo_1 : decode cX10_saveTo 1 = .ok (.arraylength, 1) := by decide +kernel
theorem dX10_saveTo_2 : decode cX10_saveTo 2 = .ok (.bipush 62, 2) := by decide +kernel
theorem dX10_saveTo_4 : decode cX10_saveTo 4 = .ok (.if_icmp .lt 31, 3) := by decide +kernel
theorem dX10_saveTo_7 : decode cX10_saveTo 7 = .ok (.aload_n 0, 1) := by decide +kernel
theorem dX10_saveTo_8 : decode cX10_saveTo 8 = .ok (.getfield 13, 3) := by decide +kernel
theorem dX10_saveTo_11 : decode cX10_saveTo 11 = .ok (.iconst 0, 1) := by decide +kernel
theorem dX10_saveTo_12 : decode cX10_saveTo 12 = .ok (.aload_n 1, 1) := by decide +kernel
theorem dX10_saveTo_13 : decode cX10_saveTo 13 = .ok (.iconst 0, 1) := by decide +kernel
theorem dX10_saveTo_14 : decode cX10_saveTo 14 = .ok (.bipush 60, 2) := by decide +kernel
theorem dX10_saveTo_16 : decode cX10_saveTo 16 = .ok (.invokestatic 49, 3) := by decide +kernel
theorem dX10_saveTo_19 : decode cX10_saveTo 19 = .ok (.aload_n 1, 1) := by decide +kernel
theorem dX10_saveTo_20 : decode cX10_saveTo 20 = .ok (.bipush 60, 2) := by decide +kernel
theorem dX10_saveTo_22 : decode cX10_saveTo 22 = .ok (.aload_n 0, 1) := by decide +kernel
theorem dX10_saveTo_23 : decode cX10_saveTo 23 = .ok (.getfield 32, 3) := by decide +kernel
theorem dX10_saveTo_26 : decode cX10_saveTo 26 = .ok (.iastore, 1) := by decide +kernel
theorem dX10_saveTo_27 : decode cX10_saveTo 27 = .ok (.aload_n 1, 1) := by decide +kernel
theorem dX10_saveTo_28 : decode cX10_saveTo 28 = .ok (.bipush 61, 2) := by decide +kernel
theorem dX10_saveTo_30 : decode cX10_saveTo 30 = .ok (.aload_n 0, 1) := by decide +kernel
theorem dX10_saveTo_31 : decode cX10_saveTo 31 = .ok (.getfield 36, 3) := by decide +kernel
theorem dX10_saveTo_34 : decode cX10_saveTo 34 = .ok (.iastore, 1) := by decide +kernel
theorem dX10_saveTo_35 : decode cX10_saveTo 35 = .ok (.return_, 1) := by decide +kernel
theorem dX10_loadFrom_0 : decode cX10_loadFrom 0 = .ok (.aload_n 1, 1) := by decide +kernel
theorem dX10_loadFrom_1 : decode cX10_loadFrom 1 = .ok (.arraylength, 1) := by decide +kernel
theorem dX10_loadFrom_2 : decode cX10_loadFrom 2 = .ok (.bipush 62, 2) := by decide +kernel
theorem dX10_loadFrom_4 : decode cX10_loadFrom 4 = .ok (.if_icmp .lt 31, 3) := by decide +kernel
theorem dX10_loadFrom_7 : decode cX10_loadFrom 7 = .ok (.aload_n 1, 1) := by decide +kernel
theorem dX10_loadFrom_8 : decode cX10_loadFrom 8 = .ok (.iconst 0, 1) := by decide +kernel
theorem dX10_loadFrom_9 : decode cX10_loadFrom 9 = .ok (.aload_n 0, 1) := by decide +kernel
theorem dX10_loadFrom_10 : decode cX10_loadFrom 10 = .ok (.getfield 13, 3) := by decide +kernel
theorem dX10_loadFrom_13 : decode cX10_loadFrom 13 = .ok (.iconst 0, 1) := by decide +kernel
theorem dX10_loadFrom_14 : decode cX10_loadFrom 14 = .ok (.bipush 60, 2) := by decide +kernel
theorem dX10_loadFrom_16 : decode cX10_loadFrom 16 = .ok (.invokestatic 49, 3) := by decide +kernel
theorem dX10_loadFrom_19 : decode cX10_loadFrom 19 = .ok (.aload_n 0, 1) := by decide +kernel
theorem dX10_loadFrom_20 : decode cX10_loadFrom 20 = .ok (.aload_n 1, 1) := by decide +kernel
theorem dX10_loadFrom_21 : decode cX10_loadFrom 21 = .ok (.bipush 60, 2) := by decide +kernel
theorem dX10_loadFrom_23 : decode cX10_loadFrom 23 = .ok (.iaload, 1) := by decide +kernel
theorem dX10_loadFrom_24 : decode cX10_loadFrom 24 = .ok (.putfield 32, 3) := by decide +kernel
theorem dX10_loadFrom_27 : decode cX10_loadFrom 27 = .ok (.aload_n 0, 1) := by decide +kernel
theorem dX10_loadFrom_28 : decode cX10_loadFrom 28 = .ok (.aload_n 1, 1) := by decide +kernel
theorem dX10_loadFrom_29 : decode cX10_loadFrom 29 = .ok (.bipush 61, 2) := by decide +kernel
theorem dX10_loadFrom_31 : decode cX10_loadFrom 31 = .ok (.iaload, 1) := by decide +kernel
theorem dX10_loadFrom_32 : decode cX10_loadFrom 32 = .ok (.putfield 36, 3) := by decide +kernel
theorem dX10_loadFrom_35 : decode cX10_loadFrom 35 = .ok (.return_, 1) := by decide +kernel
theorem dX10_of_0 : decode cX10_of 0 = .ok (.iload_n 1, 1) := by decide +kernel
theorem dX10_of_1 : decode cX10_of 1 = .ok (.bipush 10, 2) := by decide +kernel
theorem dX10_of_3 : decode cX10_of 3 = .ok (.imul, 1) := by decide +kernel
theorem dX10_of_4 : decode cX10_of 4 = .ok (.iload_n 2, 1) := by decide +kernel
theorem dX10_of_5 : decode cX10_of 5 = .ok (.iadd, 1) := by decide +kernel
theorem dX10_of_6 : decode cX10_of 6 = .ok (.istore_n 3, 1) := by decide +kernel
theorem dX10_of_7 : decode cX10_of 7 = .ok (.iload_n 3, 1) := by decide +kernel
theorem dX10_of_8 : decode cX10_of 8 = .ok (.ifCond .lt 18, 3) := by decide +kernel
theorem dX10_of_11 : decode cX10_of 11 = .ok (.iload_n 3, 1) := by decide +kernel
theorem dX10_of_12 : decode cX10_of 12 = .ok (.bipush 60, 2) := by decide +kernel
theorem dX10_of_14 : decode cX10_of 14 = .ok (.if_icmp .ge 12, 3) := by decide +kernel
theorem dX10_of_17 : decode cX10_of 17 = .ok (.aload_n 0, 1) := by decide +kernel
theorem dX10_of_18 : decode cX10_of 18 = .ok (.getfield 13, 3) := by decide +kernel
theorem dX10_of_21 : decode cX10_of 21 = .ok (.iload_n 3, 1) := by decide +kernel
theorem dX10_of_22 : decode cX10_of 22 = .ok (.iaload, 1) := by decide +kernel
theorem dX10_of_23 : decode cX10_of 23 = .ok (.goto 4, 3) := by decide +kernel
theorem dX10_of_26 : decode cX10_of 26 = .ok (.iconst (-1), 1) := by decide +kernel
theorem dX10_of_27 : decode cX10_of 27 = .ok (.ireturn, 1) := by decide +kernel
theorem dX10_set_0 : decode cX10_set 0 = .ok (.iload_n 1, 1) := by decide +kernel
theorem dX10_set_1 : decode cX10_set 1 = .ok (.bipush 10, 2) := by decide +kernel
theorem dX10_set_3 : decode cX10_set 3 = .ok (.imul, 1) := by decide +kernel
theorem dX10_set_4 : decode cX10_set 4 = .ok (.iload_n 2, 1) := by decide +kernel
theorem dX10_set_5 : decode cX10_set 5 = .ok (.iadd, 1) := by decide +kernel
theorem dX10_set_6 : decode cX10_set 6 = .ok (.istore 4, 2) := by decide +kernel
theorem dX10_set_8 : decode cX10_set 8 = .ok (.iload 4, 2) := by decide +kernel
theorem dX10_set_10 : decode cX10_set 10 = .ok (.ifCond .lt 18, 3) := by decide +kernel
theorem dX10_set_13 : decode cX10_set 13 = .ok (.iload 4, 2) := by decide +kernel
theorem dX10_set_15 : decode cX10_set 15 = .ok (.bipush 60, 2) := by decide +kernel
theorem dX10_set_17 : decode cX10_set 17 = .ok (.if_icmp .ge 11, 3) := by decide +kernel
theorem dX10_set_20 : decode cX10_set 20 = .ok (.aload_n 0, 1) := by decide +kernel
theorem dX10_set_21 : decode cX10_set 21 = .ok (.getfield 13, 3) := by decide +kernel
theorem dX10_set_24 : decode cX10_set 24 = .ok (.iload 4, 2) := by decide +kernel
theorem dX10_set_26 : decode cX10_set 26 = .ok (.iload_n 3, 1) := by decide +kernel
theorem dX10_set_27 : decode cX10_set 27 = .ok (.iastore, 1) := by decide +kernel
theorem dX10_set_28 : decode cX10_set 28 = .ok (.return_, 1) := by decide +kernel
theorem dX10_turnBy_0 : decode cX10_turnBy 0 = .ok (.aload_n 0, 1) := by decide +kernel
theorem dX10_turnBy_1 : decode cX10_turnBy 1 = .ok (.iload_n 1, 1) := by decide +kernel
theorem dX10_turnBy_2 : decode cX10_turnBy 2 = .ok (.iconst 2, 1) := by decide +kernel
theorem dX10_turnBy_3 : decode cX10_turnBy 3 = .ok (.aload_n 0, 1) := by decide +kernel
theorem dX10_turnBy_4 : decode cX10_turnBy 4 = .ok (.iload_n 1, 1) := by decide +kernel
theorem dX10_turnBy_5 : decode cX10_turnBy 5 = .ok (.iconst 2, 1) := by decide +kernel
theorem dX10_turnBy_6 : decode cX10_turnBy 6 = .ok (.invokevirtual 65, 3) := by decide +kernel
theorem dX10_turnBy_9 : decode cX10_turnBy 9 = .ok (.iload_n 2, 1) := by decide +kernel
theorem dX10_turnBy_10 : decode cX10_turnBy 10 = .ok (.iadd, 1) := by decide +kernel
theorem dX10_turnBy_11 : decode cX10_turnBy 11 = .ok (.iconst 3, 1) := by decide +kernel
theorem dX10_turnBy_12 : decode cX10_turnBy 12 = .ok (.iand, 1) := by decide +kernel
theorem dX10_turnBy_13 : decode cX10_turnBy 13 = .ok (.invokevirtual 61, 3) := by decide +kernel
theorem dX10_turnBy_16 : decode cX10_turnBy 16 = .ok (.return_, 1) := by decide +kernel
theorem dX10_comingSteps_0 : decode cX10_comingSteps 0 = .ok (.iload_n 1, 1) := by decide +kernel
theorem dX10_comingSteps_1 : decode cX10_comingSteps 1 = .ok (.sipush 999, 3) := by decide +kernel
theorem dX10_comingSteps_4 : decode cX10_comingSteps 4 = .ok (.aload_n 0, 1) := by decide +kernel
theorem dX10_comingSteps_5 : decode cX10_comingSteps 5 = .ok (.getfield 32, 3) := by decide +kernel
theorem dX10_comingSteps_8 : decode cX10_comingSteps 8 = .ok (.isub, 1) := by decide +kernel
theorem dX10_comingSteps_9 : decode cX10_comingSteps 9 = .ok (.invokestatic 69, 3) := by decide +kernel
theorem dX10_comingSteps_12 : decode cX10_comingSteps 12 = .ok (.ireturn, 1) := by decide +kernel
theorem dX10_mayPass_0 : decode cX10_mayPass 0 = .ok (.iload_n 1, 1) := by decide +kernel
theorem dX10_mayPass_1 : decode cX10_mayPass 1 = .ok (.iload_n 2, 1) := by decide +kernel
theorem dX10_mayPass_2 : decode cX10_mayPass 2 = .ok (.if_icmp .lt 16, 3) := by decide +kernel
theorem dX10_mayPass_5 : decode cX10_mayPass 5 = .ok (.iload_n 1, 1) := by decide +kernel
theorem dX10_mayPass_6 : decode cX10_mayPass 6 = .ok (.aload_n 0, 1) := by decide +kernel
theorem dX10_mayPass_7 : decode cX10_mayPass 7 = .ok (.iload_n 3, 1) := by decide +kernel
theorem dX10_mayPass_8 : decode cX10_mayPass 8 = .ok (.invokevirtual 74, 3) := by decide +kernel
theorem dX10_mayPass_11 : decode cX10_mayPass 11 = .ok (.if_icmp .gt 7, 3) := by decide +kernel
theorem dX10_mayPass_14 : decode cX10_mayPass 14 = .ok (.iconst 1, 1) := by decide +kernel
theorem dX10_mayPass_15 : decode cX10_mayPass 15 = .ok (.goto 4, 3) := by decide +kernel
theorem dX10_mayPass_18 : decode cX10_mayPass 18 = .ok (.iconst 0, 1) := by decide +kernel
theorem dX10_mayPass_19 : decode cX10_mayPass 19 = .ok (.ireturn, 1) := by decide +kernel
theorem dX10_boxOn_0 : decode cX10_boxOn 0 = .ok (.aload_n 0, 1) := by decide +kernel
theorem dX10_boxOn_1 : decode cX10_boxOn 1 = .ok (.getfield 13, 3) := by decide +kernel
theorem dX10_boxOn_4 : decode cX10_boxOn 4 = .ok (.aload_n 0, 1) := by decide +kernel
theorem dX10_boxOn_5 : decode cX10_boxOn 5 = .ok (.getfield 28, 3) := by decide +kernel
theorem dX10_boxOn_8 : decode cX10_boxOn 8 = .ok (.getfield 55, 3) := by decide +kernel
theorem dX10_boxOn_11 : decode cX10_boxOn 11 = .ok (.iload_n 1, 1) := by decide +kernel
theorem dX10_boxOn_12 : decode cX10_boxOn 12 = .ok (.iload_n 2, 1) := by decide +kernel
theorem dX10_boxOn_13 : decode cX10_boxOn 13 = .ok (.invokestatic 78, 3) := by decide +kernel
theorem dX10_boxOn_16 : decode cX10_boxOn 16 = .ok (.ireturn, 1) := by decide +kernel
theorem dX10_isBlack_0 : decode cX10_isBlack 0 = .ok (.aload_n 0, 1) := by decide +kernel
theorem dX10_isBlack_1 : decode cX10_isBlack 1 = .ok (.getfield 28, 3) := by decide +kernel
theorem dX10_isBlack_4 : decode cX10_isBlack 4 = .ok (.iload_n 1, 1) := by decide +kernel
theorem dX10_isBlack_5 : decode cX10_isBlack 5 = .ok (.iload_n 2, 1) := by decide +kernel
theorem dX10_isBlack_6 : decode cX10_isBlack 6 = .ok (.invokevirtual 82, 3) := by decide +kernel
theorem dX10_isBlack_9 : decode cX10_isBlack 9 = .ok (.aload_n 0, 1) := by decide +kernel
theorem dX10_isBlack_10 : decode cX10_isBlack 10 = .ok (.getfield 36, 3) := by decide +kernel
theorem dX10_isBlack_13 : decode cX10_isBlack 13 = .ok (.isub, 1) := by decide +kernel
theorem dX10_isBlack_14 : decode cX10_isBlack 14 = .ok (.iconst 5, 1) := by decide +kernel
theorem dX10_isBlack_15 : decode cX10_isBlack 15 = .ok (.if_icmp .lt 7, 3) := by decide +kernel
theorem dX10_isBlack_18 : decode cX10_isBlack 18 = .ok (.iconst 1, 1) := by decide +kernel
theorem dX10_isBlack_19 : decode cX10_isBlack 19 = .ok (.goto 4, 3) := by decide +kernel
theorem dX10_isBlack_22 : decode cX10_isBlack 22 = .ok (.iconst 0, 1) := by decide +kernel
theorem dX10_isBlack_23 : decode cX10_isBlack 23 = .ok (.ireturn, 1) := by decide +kernel
theorem dX10_onBlack_0 : decode cX10_onBlack 0 = .ok (.aload_n 0, 1) := by decide +kernel
theorem dX10_onBlack_1 : decode cX10_onBlack 1 = .ok (.aload_n 0, 1) := by decide +kernel
theorem dX10_onBlack_2 : decode cX10_onBlack 2 = .ok (.iload_n 1, 1) := by decide +kernel
theorem dX10_onBlack_3 : decode cX10_onBlack 3 = .ok (.iconst 0, 1) := by decide +kernel
theorem dX10_onBlack_4 : decode cX10_onBlack 4 = .ok (.invokevirtual 65, 3) := by decide +kernel
theorem dX10_onBlack_7 : decode cX10_onBlack 7 = .ok (.aload_n 0, 1) := by decide +kernel
theorem dX10_onBlack_8 : decode cX10_onBlack 8 = .ok (.iload_n 1, 1) := by decide +kernel
theorem dX10_onBlack_9 : decode cX10_onBlack 9 = .ok (.iconst 1, 1) := by decide +kernel
theorem dX10_onBlack_10 : decode cX10_onBlack 10 = .ok (.invokevirtual 65, 3) := by decide +kernel
theorem dX10_onBlack_13 : decode cX10_onBlack 13 = .ok (.invokevirtual 85, 3) := by decide +kernel
theorem dX10_onBlack_16 : decode cX10_onBlack 16 = .ok (.ireturn, 1) := by decide +kernel
theorem dX10_blackCells_0 : decode cX10_blackCells 0 = .ok (.iconst 0, 1) := by decide +kernel
theorem dX10_blackCells_1 : decode cX10_blackCells 1 = .ok (.istore_n 1, 1) := by decide +kernel
theorem dX10_blackCells_2 : decode cX10_blackCells 2 = .ok (.iconst 0, 1) := by decide +kernel
theorem dX10_blackCells_3 : decode cX10_blackCells 3 = .ok (.istore_n 2, 1) := by decide +kernel
theorem dX10_blackCells_4 : decode cX10_blackCells 4 = .ok (.iload_n 2, 1) := by decide +kernel
theorem dX10_blackCells_5 : decode cX10_blackCells 5 = .ok (.aload_n 0, 1) := by decide +kernel
theorem dX10_blackCells_6 : decode cX10_blackCells 6 = .ok (.getfield 28, 3) := by decide +kernel
theorem dX10_blackCells_9 : decode cX10_blackCells 9 = .ok (.getfield 89, 3) := by decide +kernel
theorem dX10_blackCells_12 : decode cX10_blackCells 12 = .ok (.if_icmp .ge 45, 3) := by decide +kernel
theorem dX10_blackCells_15 : decode cX10_blackCells 15 = .ok (.iconst 0, 1) := by decide +kernel
theorem dX10_blackCells_16 : decode cX10_blackCells 16 = .ok (.istore_n 3, 1) := by decide +kernel
theorem dX10_blackCells_17 : decode cX10_blackCells 17 = .ok (.iload_n 3, 1) := by decide +kernel
theorem dX10_blackCells_18 : decode cX10_blackCells 18 = .ok (.aload_n 0, 1) := by decide +kernel
theorem dX10_blackCells_19 : decode cX10_blackCells 19 = .ok (.getfield 28, 3) := by decide +kernel
theorem dX10_blackCells_22 : decode cX10_blackCells 22 = .ok (.getfield 92, 3) := by decide +kernel
theorem dX10_blackCells_25 : decode cX10_blackCells 25 = .ok (.if_icmp .ge 26, 3) := by decide +kernel
theorem dX10_blackCells_28 : decode cX10_blackCells 28 = .ok (.iload_n 1, 1) := by decide +kernel
theorem dX10_blackCells_29 : decode cX10_blackCells 29 = .ok (.aload_n 0, 1) := by decide +kernel
theorem dX10_blackCells_30 : decode cX10_blackCells 30 = .ok (.iload_n 2, 1) := by decide +kernel
theorem dX10_blackCells_31 : decode cX10_blackCells 31 = .ok (.iload_n 3, 1) := by decide +kernel
theorem dX10_blackCells_32 : decode cX10_blackCells 32 = .ok (.invokevirtual 85, 3) := by decide +kernel
theorem dX10_blackCells_35 : decode cX10_blackCells 35 = .ok (.ifCond .eq 7, 3) := by decide +kernel
theorem dX10_blackCells_38 : decode cX10_blackCells 38 = .ok (.iconst 1, 1) := by decide +kernel
theorem dX10_blackCells_39 : decode cX10_blackCells 39 = .ok (.goto 4, 3) := by decide +kernel
theorem dX10_blackCells_42 : decode cX10_blackCells 42 = .ok (.iconst 0, 1) := by decide +kernel
theorem dX10_blackCells_43 : decode cX10_blackCells 43 = .ok (.iadd, 1) := by decide +kernel
theorem dX10_blackCells_44 : decode cX10_blackCells 44 = .ok (.istore_n 1, 1) := by decide +kernel
theorem dX10_blackCells_45 : decode cX10_blackCells 45 = .ok (.iinc 3 1, 3) := by decide +kernel
theorem dX10_blackCells_48 : decode cX10_blackCells 48 = .ok (.goto (-31), 3) := by decide +kernel
theorem dX10_blackCells_51 : decode cX10_blackCells 51 = .ok (.iinc 2 1, 3) := by decide +kernel
theorem dX10_blackCells_54 : decode cX10_blackCells 54 = .ok (.goto (-50), 3) := by decide +kernel
theorem dX10_blackCells_57 : decode cX10_blackCells 57 = .ok (.iload_n 1, 1) := by decide +kernel
theorem dX10_blackCells_58 : decode cX10_blackCells 58 = .ok (.ireturn, 1) := by decide +kernel
theorem dX10_lostBoxes_0 : decode cX10_lostBoxes 0 = .ok (.iconst 0, 1) := by decide +kernel
theorem dX10_lostBoxes_1 : decode cX10_lostBoxes 1 = .ok (.istore_n 1, 1) := by decide +kernel
theorem dX10_lostBoxes_2 : decode cX10_lostBoxes 2 = .ok (.iconst 0, 1) := by decide +kernel
theorem dX10_lostBoxes_3 : decode cX10_lostBoxes 3 = .ok (.istore_n 2, 1) := by decide +kernel
theorem dX10_lostBoxes_4 : decode cX10_lostBoxes 4 = .ok (.iload_n 2, 1) := by decide +kernel
theorem dX10_lostBoxes_5 : decode cX10_lostBoxes 5 = .ok (.aload_n 0, 1) := by decide +kernel
theorem dX10_lostBoxes_6 : decode cX10_lostBoxes 6 = .ok (.getfield 28, 3) := by decide +kernel
theorem dX10_lostBoxes_9 : decode cX10_lostBoxes 9 = .ok (.getfield 55, 3) := by decide +kernel
theorem dX10_lostBoxes_12 : decode cX10_lostBoxes 12 = .ok (.if_icmp .ge 26, 3) := by decide +kernel
theorem dX10_lostBoxes_15 : decode cX10_lostBoxes 15 = .ok (.iload_n 1, 1) := by decide +kernel
theorem dX10_lostBoxes_16 : decode cX10_lostBoxes 16 = .ok (.aload_n 0, 1) := by decide +kernel
theorem dX10_lostBoxes_17 : decode cX10_lostBoxes 17 = .ok (.iload_n 2, 1) := by decide +kernel
theorem dX10_lostBoxes_18 : decode cX10_lostBoxes 18 = .ok (.iconst 4, 1) := by decide +kernel
theorem dX10_lostBoxes_19 : decode cX10_lostBoxes 19 = .ok (.invokevirtual 65, 3) := by decide +kernel
theorem dX10_lostBoxes_22 : decode cX10_lostBoxes 22 = .ok (.ifCond .le 7, 3) := by decide +kernel
theorem dX10_lostBoxes_25 : decode cX10_lostBoxes 25 = .ok (.iconst 1, 1) := by decide +kernel
theorem dX10_lostBoxes_26 : decode cX10_lostBoxes 26 = .ok (.goto 4, 3) := by decide +kernel
theorem dX10_lostBoxes_29 : decode cX10_lostBoxes 29 = .ok (.iconst 0, 1) := by decide +kernel
theorem dX10_lostBoxes_30 : decode cX10_lostBoxes 30 = .ok (.iadd, 1) := by decide +kernel
theorem dX10_lostBoxes_31 : decode cX10_lostBoxes 31 = .ok (.istore_n 1, 1) := by decide +kernel
theorem dX10_lostBoxes_32 : decode cX10_lostBoxes 32 = .ok (.iinc 2 1, 3) := by decide +kernel
theorem dX10_lostBoxes_35 : decode cX10_lostBoxes 35 = .ok (.goto (-31), 3) := by decide +kernel
theorem dX10_lostBoxes_38 : decode cX10_lostBoxes 38 = .ok (.iload_n 1, 1) := by decide +kernel
theorem dX10_lostBoxes_39 : decode cX10_lostBoxes 39 = .ok (.ireturn, 1) := by decide +kernel
theorem dX10_emptyBoxes_0 : decode cX10_emptyBoxes 0 = .ok (.iconst 0, 1) := by decide +kernel
theorem dX10_emptyBoxes_1 : decode cX10_emptyBoxes 1 = .ok (.istore_n 1, 1) := by decide +kernel
theorem dX10_emptyBoxes_2 : decode cX10_emptyBoxes 2 = .ok (.iconst 0, 1) := by decide +kernel
theorem dX10_emptyBoxes_3 : decode cX10_emptyBoxes 3 = .ok (.istore_n 2, 1) := by decide +kernel
theorem dX10_emptyBoxes_4 : decode cX10_emptyBoxes 4 = .ok (.iload_n 2, 1) := by decide +kernel
theorem dX10_emptyBoxes_5 : decode cX10_emptyBoxes 5 = .ok (.aload_n 0, 1) := by decide +kernel
theorem dX10_emptyBoxes_6 : decode cX10_emptyBoxes 6 = .ok (.getfield 28, 3) := by decide +kernel
theorem dX10_emptyBoxes_9 : decode cX10_emptyBoxes 9 = .ok (.getfield 55, 3) := by decide +kernel
theorem dX10_emptyBoxes_12 : decode cX10_emptyBoxes 12 = .ok (.if_icmp .ge 26, 3) := by decide +kernel
theorem dX10_emptyBoxes_15 : decode cX10_emptyBoxes 15 = .ok (.iload_n 1, 1) := by decide +kernel
theorem dX10_emptyBoxes_16 : decode cX10_emptyBoxes 16 = .ok (.aload_n 0, 1) := by decide +kernel
theorem dX10_emptyBoxes_17 : decode cX10_emptyBoxes 17 = .ok (.iload_n 2, 1) := by decide +kernel
theorem dX10_emptyBoxes_18 : decode cX10_emptyBoxes 18 = .ok (.iconst 3, 1) := by decide +kernel
theorem dX10_emptyBoxes_19 : decode cX10_emptyBoxes 19 = .ok (.invokevirtual 65, 3) := by decide +kernel
theorem dX10_emptyBoxes_22 : decode cX10_emptyBoxes 22 = .ok (.ifCond .ne 7, 3) := by decide +kernel
theorem dX10_emptyBoxes_25 : decode cX10_emptyBoxes 25 = .ok (.iconst 1, 1) := by decide +kernel
theorem dX10_emptyBoxes_26 : decode cX10_emptyBoxes 26 = .ok (.goto 4, 3) := by decide +kernel
theorem dX10_emptyBoxes_29 : decode cX10_emptyBoxes 29 = .ok (.iconst 0, 1) := by decide +kernel
theorem dX10_emptyBoxes_30 : decode cX10_emptyBoxes 30 = .ok (.iadd, 1) := by decide +kernel
theorem dX10_emptyBoxes_31 : decode cX10_emptyBoxes 31 = .ok (.istore_n 1, 1) := by decide +kernel
theorem dX10_emptyBoxes_32 : decode cX10_emptyBoxes 32 = .ok (.iinc 2 1, 3) := by decide +kernel
theorem dX10_emptyBoxes_35 : decode cX10_emptyBoxes 35 = .ok (.goto (-31), 3) := by decide +kernel
theorem dX10_emptyBoxes_38 : decode cX10_emptyBoxes 38 = .ok (.iload_n 1, 1) := by decide +kernel
theorem dX10_emptyBoxes_39 : decode cX10_emptyBoxes 39 = .ok (.ireturn, 1) := by decide +kernel
theorem dX10_greySeen_0 : decode cX10_greySeen 0 = .ok (.aload_n 0, 1) := by decide +kernel
theorem dX10_greySeen_1 : decode cX10_greySeen 1 = .ok (.iload_n 1, 1) := by decide +kernel
theorem dX10_greySeen_2 : decode cX10_greySeen 2 = .ok (.iconst 2, 1) := by decide +kernel
theorem dX10_greySeen_3 : decode cX10_greySeen 3 = .ok (.invokevirtual 65, 3) := by decide +kernel
theorem dX10_greySeen_6 : decode cX10_greySeen 6 = .ok (.istore_n 3, 1) := by decide +kernel
theorem dX10_greySeen_7 : decode cX10_greySeen 7 = .ok (.iload_n 3, 1) := by decide +kernel
theorem dX10_greySeen_8 : decode cX10_greySeen 8 = .ok (.iconst 1, 1) := by decide +kernel
theorem dX10_greySeen_9 : decode cX10_greySeen 9 = .ok (.iadd, 1) := by decide +kernel
theorem dX10_greySeen_10 : decode cX10_greySeen 10 = .ok (.iconst 3, 1) := by decide +kernel
theorem dX10_greySeen_11 : decode cX10_greySeen 11 = .ok (.iand, 1) := by decide +kernel
theorem dX10_greySeen_12 : decode cX10_greySeen 12 = .ok (.istore 4, 2) := by decide +kernel
theorem dX10_greySeen_14 : decode cX10_greySeen 14 = .ok (.aload_n 0, 1) := by decide +kernel
theorem dX10_greySeen_15 : decode cX10_greySeen 15 = .ok (.iload_n 1, 1) := by decide +kernel
theorem dX10_greySeen_16 : decode cX10_greySeen 16 = .ok (.bipush 6, 2) := by decide +kernel
theorem dX10_greySeen_18 : decode cX10_greySeen 18 = .ok (.invokevirtual 65, 3) := by decide +kernel
theorem dX10_greySeen_21 : decode cX10_greySeen 21 = .ok (.istore 5, 2) := by decide +kernel
theorem dX10_greySeen_23 : decode cX10_greySeen 23 = .ok (.iload_n 2, 1) := by decide +kernel
theorem dX10_greySeen_24 : decode cX10_greySeen 24 = .ok (.aload_n 0, 1) := by decide +kernel
theorem dX10_greySeen_25 : decode cX10_greySeen 25 = .ok (.iload_n 1, 1) := by decide +kernel
theorem dX10_greySeen_26 : decode cX10_greySeen 26 = .ok (.iconst 5, 1) := by decide +kernel
theorem dX10_greySeen_27 : decode cX10_greySeen 27 = .ok (.invokevirtual 65, 3) := by decide +kernel
theorem dX10_greySeen_30 : decode cX10_greySeen 30 = .ok (.imul, 1) := by decide +kernel
theorem dX10_greySeen_31 : decode cX10_greySeen 31 = .ok (.istore 6, 2) := by decide +kernel
theorem dX10_greySeen_33 : decode cX10_greySeen 33 = .ok (.aload_n 0, 1) := by decide +kernel
theorem dX10_greySeen_34 : decode cX10_greySeen 34 = .ok (.iload_n 1, 1) := by decide +kernel
theorem dX10_greySeen_35 : decode cX10_greySeen 35 = .ok (.iconst 0, 1) := by decide +kernel
theorem dX10_greySeen_36 : decode cX10_greySeen 36 = .ok (.invokevirtual 65, 3) := by decide +kernel
theorem dX10_greySeen_39 : decode cX10_greySeen 39 = .ok (.iload 5, 2) := by decide +kernel
theorem dX10_greySeen_41 : decode cX10_greySeen 41 = .ok (.iload_n 3, 1) := by decide +kernel
theorem dX10_greySeen_42 : decode cX10_greySeen 42 = .ok (.invokestatic 95, 3) := by decide +kernel
theorem dX10_greySeen_45 : decode cX10_greySeen 45 = .ok (.imul, 1) := by decide +kernel
theorem dX10_greySeen_46 : decode cX10_greySeen 46 = .ok (.iadd, 1) := by decide +kernel
theorem dX10_greySeen_47 : decode cX10_greySeen 47 = .ok (.iload 6, 2) := by decide +kernel
theorem dX10_greySeen_49 : decode cX10_greySeen 49 = .ok (.iload 4, 2) := by decide +kernel
theorem dX10_greySeen_51 : decode cX10_greySeen 51 = .ok (.invokestatic 95, 3) := by decide +kernel
theorem dX10_greySeen_54 : decode cX10_greySeen 54 = .ok (.imul, 1) := by decide +kernel
theorem dX10_greySeen_55 : decode cX10_greySeen 55 = .ok (.iadd, 1) := by decide +kernel
theorem dX10_greySeen_56 : decode cX10_greySeen 56 = .ok (.istore 7, 2) := by decide +kernel
theorem dX10_greySeen_58 : decode cX10_greySeen 58 = .ok (.aload_n 0, 1) := by decide +kernel
theorem dX10_greySeen_59 : decode cX10_greySeen 59 = .ok (.iload_n 1, 1) := by decide +kernel
theorem dX10_greySeen_60 : decode cX10_greySeen 60 = .ok (.iconst 1, 1) := by decide +kernel
theorem dX10_greySeen_61 : decode cX10_greySeen 61 = .ok (.invokevirtual 65, 3) := by decide +kernel
theorem dX10_greySeen_64 : decode cX10_greySeen 64 = .ok (.iload 5, 2) := by decide +kernel
theorem dX10_greySeen_66 : decode cX10_greySeen 66 = .ok (.iload_n 3, 1) := by decide +kernel
theorem dX10_greySeen_67 : decode cX10_greySeen 67 = .ok (.invokestatic 98, 3) := by decide +kernel
theorem dX10_greySeen_70 : decode cX10_greySeen 70 = .ok (.imul, 1) := by decide +kernel
theorem dX10_greySeen_71 : decode cX10_greySeen 71 = .ok (.iadd, 1) := by decide +kernel
theorem dX10_greySeen_72 : decode cX10_greySeen 72 = .ok (.iload 6, 2) := by decide +kernel
theorem dX10_greySeen_74 : decode cX10_greySeen 74 = .ok (.iload 4, 2) := by decide +kernel
theorem dX10_greySeen_76 : decode cX10_greySeen 76 = .ok (.invokestatic 98, 3) := by decide +kernel
theorem dX10_greySeen_79 : decode cX10_greySeen 79 = .ok (.imul, 1) := by decide +kernel
theorem dX10_greySeen_80 : decode cX10_greySeen 80 = .ok (.iadd, 1) := by decide +kernel
theorem dX10_greySeen_81 : decode cX10_greySeen 81 = .ok (.istore 8, 2) := by decide +kernel
theorem dX10_greySeen_83 : decode cX10_greySeen 83 = .ok (.iconst 0, 1) := by decide +kernel
theorem dX10_greySeen_84 : decode cX10_greySeen 84 = .ok (.aload_n 0, 1) := by decide +kernel
theorem dX10_greySeen_85 : decode cX10_greySeen 85 = .ok (.getfield 28, 3) := by decide +kernel
theorem dX10_greySeen_88 : decode cX10_greySeen 88 = .ok (.iload 7, 2) := by decide +kernel
theorem dX10_greySeen_90 : decode cX10_greySeen 90 = .ok (.iload 8, 2) := by decide +kernel
theorem dX10_greySeen_92 : decode cX10_greySeen 92 = .ok (.invokevirtual 82, 3) := by decide +kernel
theorem dX10_greySeen_95 : decode cX10_greySeen 95 = .ok (.aload_n 0, 1) := by decide +kernel
theorem dX10_greySeen_96 : decode cX10_greySeen 96 = .ok (.getfield 36, 3) := by decide +kernel
theorem dX10_greySeen_99 : decode cX10_greySeen 99 = .ok (.isub, 1) := by decide +kernel
theorem dX10_greySeen_100 : decode cX10_greySeen 100 = .ok (.invokestatic 101, 3) := by decide +kernel
theorem dX10_greySeen_103 : decode cX10_greySeen 103 = .ok (.ireturn, 1) := by decide +kernel
theorem dX10_pass_0 : decode cX10_pass 0 = .ok (.aload_n 0, 1) := by decide +kernel
theorem dX10_pass_1 : decode cX10_pass 1 = .ok (.iconst 0, 1) := by decide +kernel
theorem dX10_pass_2 : decode cX10_pass 2 = .ok (.putfield 39, 3) := by decide +kernel
theorem dX10_pass_5 : decode cX10_pass 5 = .ok (.aload_n 0, 1) := by decide +kernel
theorem dX10_pass_6 : decode cX10_pass 6 = .ok (.iconst 0, 1) := by decide +kernel
theorem dX10_pass_7 : decode cX10_pass 7 = .ok (.putfield 42, 3) := by decide +kernel
theorem dX10_pass_10 : decode cX10_pass 10 = .ok (.iconst 0, 1) := by decide +kernel
theorem dX10_pass_11 : decode cX10_pass 11 = .ok (.istore_n 3, 1) := by decide +kernel
theorem dX10_pass_12 : decode cX10_pass 12 = .ok (.iload_n 3, 1) := by decide +kernel
theorem dX10_pass_13 : decode cX10_pass 13 = .ok (.aload_n 0, 1) := by decide +kernel
theorem dX10_pass_14 : decode cX10_pass 14 = .ok (.getfield 28, 3) := by decide +kernel
theorem dX10_pass_17 : decode cX10_pass 17 = .ok (.getfield 55, 3) := by decide +kernel
theorem dX10_pass_20 : decode cX10_pass 20 = .ok (.if_icmp .ge 46, 3) := by decide +kernel
theorem dX10_pass_23 : decode cX10_pass 23 = .ok (.iload_n 3, 1) := by decide +kernel
theorem dX10_pass_24 : decode cX10_pass 24 = .ok (.aload_n 0, 1) := by decide +kernel
theorem dX10_pass_25 : decode cX10_pass 25 = .ok (.getfield 17, 3) := by decide +kernel
theorem dX10_pass_28 : decode cX10_pass 28 = .ok (.arraylength, 1) := by decide +kernel
theorem dX10_pass_29 : decode cX10_pass 29 = .ok (.if_icmp .ge 37, 3) := by decide +kernel
theorem dX10_pass_32 : decode cX10_pass 32 = .ok (.aload_n 0, 1) := by decide +kernel
theorem dX10_pass_33 : decode cX10_pass 33 = .ok (.getfield 17, 3) := by decide +kernel
theorem dX10_pass_36 : decode cX10_pass 36 = .ok (.iload_n 3, 1) := by decide +kernel
theorem dX10_pass_37 : decode cX10_pass 37 = .ok (.iconst 0, 1) := by decide +kernel
theorem dX10_pass_38 : decode cX10_pass 38 = .ok (.bastore, 1) := by decide +kernel
theorem dX10_pass_39 : decode cX10_pass 39 = .ok (.iload_n 1, 1) := by decide +kernel
theorem dX10_pass_40 : decode cX10_pass 40 = .ok (.iload_n 3, 1) := by decide +kernel
theorem dX10_pass_41 : decode cX10_pass 41 = .ok (.iload_n 2, 1) := by decide +kernel
theorem dX10_pass_42 : decode cX10_pass 42 = .ok (.imul, 1) := by decide +kernel
theorem dX10_pass_43 : decode cX10_pass 43 = .ok (.if_icmp .lt 17, 3) := by decide +kernel
theorem dX10_pass_46 : decode cX10_pass 46 = .ok (.aload_n 0, 1) := by decide +kernel
theorem dX10_pass_47 : decode cX10_pass 47 = .ok (.iload_n 3, 1) := by decide +kernel
theorem dX10_pass_48 : decode cX10_pass 48 = .ok (.iconst 3, 1) := by decide +kernel
theorem dX10_pass_49 : decode cX10_pass 49 = .ok (.invokevirtual 65, 3) := by decide +kernel
theorem dX10_pass_52 : decode cX10_pass 52 = .ok (.ifCond .le 8, 3) := by decide +kernel
theorem dX10_pass_55 : decode cX10_pass 55 = .ok (.aload_n 0, 1) := by decide +kernel
theorem dX10_pass_56 : decode cX10_pass 56 = .ok (.iload_n 3, 1) := by decide +kernel
theorem dX10_pass_57 : decode cX10_pass 57 = .ok (.invokevirtual 104, 3) := by decide +kernel
theorem dX10_pass_60 : decode cX10_pass 60 = .ok (.iinc 3 1, 3) := by decide +kernel
theorem dX10_pass_63 : decode cX10_pass 63 = .ok (.goto (-51), 3) := by decide +kernel
theorem dX10_pass_66 : decode cX10_pass 66 = .ok (.aload_n 0, 1) := by decide +kernel
theorem dX10_pass_67 : decode cX10_pass 67 = .ok (.sipush 999, 3) := by decide +kernel
theorem dX10_pass_70 : decode cX10_pass 70 = .ok (.aload_n 0, 1) := by decide +kernel
theorem dX10_pass_71 : decode cX10_pass 71 = .ok (.getfield 32, 3) := by decide +kernel
theorem dX10_pass_74 : decode cX10_pass 74 = .ok (.iconst 1, 1) := by decide +kernel
theorem dX10_pass_75 : decode cX10_pass 75 = .ok (.iadd, 1) := by decide +kernel
theorem dX10_pass_76 : decode cX10_pass 76 = .ok (.invokestatic 69, 3) := by decide +kernel
theorem dX10_pass_79 : decode cX10_pass 79 = .ok (.putfield 32, 3) := by decide +kernel
theorem dX10_pass_82 : decode cX10_pass 82 = .ok (.return_, 1) := by decide +kernel
theorem dX10_moveBox_0 : decode cX10_moveBox 0 = .ok (.aload_n 0, 1) := by decide +kernel
theorem dX10_moveBox_1 : decode cX10_moveBox 1 = .ok (.iload_n 1, 1) := by decide +kernel
theorem dX10_moveBox_2 : decode cX10_moveBox 2 = .ok (.iconst (-1), 1) := by decide +kernel
theorem dX10_moveBox_3 : decode cX10_moveBox 3 = .ok (.invokevirtual 108, 3) := by decide +kernel
theorem dX10_moveBox_6 : decode cX10_moveBox 6 = .ok (.istore_n 2, 1) := by decide +kernel
theorem dX10_moveBox_7 : decode cX10_moveBox 7 = .ok (.aload_n 0, 1) := by decide +kernel
theorem dX10_moveBox_8 : decode cX10_moveBox 8 = .ok (.iload_n 1, 1) := by decide +kernel
theorem dX10_moveBox_9 : decode cX10_moveBox 9 = .ok (.iconst 1, 1) := by decide +kernel
theorem dX10_moveBox_10 : decode cX10_moveBox 10 = .ok (.invokevirtual 108, 3) := by decide +kernel
theorem dX10_moveBox_13 : decode cX10_moveBox 13 = .ok (.istore_n 3, 1) := by decide +kernel
theorem dX10_moveBox_14 : decode cX10_moveBox 14 = .ok (.aload_n 0, 1) := by decide +kernel
theorem dX10_moveBox_15 : decode cX10_moveBox 15 = .ok (.iload_n 1, 1) := by decide +kernel
theorem dX10_moveBox_16 : decode cX10_moveBox 16 = .ok (.iconst 0, 1) := by decide +kernel
theorem dX10_moveBox_17 : decode cX10_moveBox 17 = .ok (.invokevirtual 108, 3) := by decide +kernel
theorem dX10_moveBox_20 : decode cX10_moveBox 20 = .ok (.istore 4, 2) := by decide +kernel
theorem dX10_moveBox_22 : decode cX10_moveBox 22 = .ok (.iload_n 2, 1) := by decide +kernel
theorem dX10_moveBox_23 : decode cX10_moveBox 23 = .ok (.iconst 5, 1) := by decide +kernel
theorem dX10_moveBox_24 : decode cX10_moveBox 24 = .ok (.if_icmp .ge 14, 3) := by decide +kernel
theorem dX10_moveBox_27 : decode cX10_moveBox 27 = .ok (.iload_n 3, 1) := by decide +kernel
theorem dX10_moveBox_28 : decode cX10_moveBox 28 = .ok (.iconst 5, 1) := by decide +kernel
theorem dX10_moveBox_29 : decode cX10_moveBox 29 = .ok (.if_icmp .ge 9, 3) := by decide +kernel
theorem dX10_moveBox_32 : decode cX10_moveBox 32 = .ok (.iload 4, 2) := by decide +kernel
theorem dX10_moveBox_34 : decode cX10_moveBox 34 = .ok (.iconst 5, 1) := by decide +kernel
theorem dX10_moveBox_35 : decode cX10_moveBox 35 = .ok (.if_icmp .lt 7, 3) := by decide +kernel
theorem dX10_moveBox_38 : decode cX10_moveBox 38 = .ok (.iconst 1, 1) := by decide +kernel
theorem dX10_moveBox_39 : decode cX10_moveBox 39 = .ok (.goto 4, 3) := by decide +kernel
theorem dX10_moveBox_42 : decode cX10_moveBox 42 = .ok (.iconst 0, 1) := by decide +kernel
theorem dX10_moveBox_43 : decode cX10_moveBox 43 = .ok (.istore 5, 2) := by decide +kernel
theorem dX10_moveBox_45 : decode cX10_moveBox 45 = .ok (.aload_n 0, 1) := by decide +kernel
theorem dX10_moveBox_46 : decode cX10_moveBox 46 = .ok (.iload_n 1, 1) := by decide +kernel
theorem dX10_moveBox_47 : decode cX10_moveBox 47 = .ok (.iconst 4, 1) := by decide +kernel
theorem dX10_moveBox_48 : decode cX10_moveBox 48 = .ok (.iload 5, 2) := by decide +kernel
theorem dX10_moveBox_50 : decode cX10_moveBox 50 = .ok (.ifCond .eq 7, 3) := by decide +kernel
theorem dX10_moveBox_53 : decode cX10_moveBox 53 = .ok (.iconst 0, 1) := by decide +kernel
theorem dX10_moveBox_54 : decode cX10_moveBox 54 = .ok (.goto 16, 3) := by decide +kernel
theorem dX10_moveBox_57 : decode cX10_moveBox 57 = .ok (.bipush 99, 2) := by decide +kernel
theorem dX10_moveBox_59 : decode cX10_moveBox 59 = .ok (.aload_n 0, 1) := by decide +kernel
theorem dX10_moveBox_60 : decode cX10_moveBox 60 = .ok (.iload_n 1, 1) := by decide +kernel
theorem dX10_moveBox_61 : decode cX10_moveBox 61 = .ok (.iconst 4, 1) := by decide +kernel
theorem dX10_moveBox_62 : decode cX10_moveBox 62 = .ok (.invokevirtual 65, 3) := by decide +kernel
theorem dX10_moveBox_65 : decode cX10_moveBox 65 = .ok (.iconst 1, 1) := by decide +kernel
theorem dX10_moveBox_66 : decode cX10_moveBox 66 = .ok (.iadd, 1) := by decide +kernel
theorem dX10_moveBox_67 : decode cX10_moveBox 67 = .ok (.invokestatic 69, 3) := by decide +kernel
theorem dX10_moveBox_70 : decode cX10_moveBox 70 = .ok (.invokevirtual 61, 3) := by decide +kernel
theorem dX10_moveBox_73 : decode cX10_moveBox 73 = .ok (.aload_n 0, 1) := by decide +kernel
theorem dX10_moveBox_74 : decode cX10_moveBox 74 = .ok (.getfield 24, 3) := by decide +kernel
theorem dX10_moveBox_77 : decode cX10_moveBox 77 = .ok (.getfield 111, 3) := by decide +kernel
theorem dX10_moveBox_80 : decode cX10_moveBox 80 = .ok (.iconst 0, 1) := by decide +kernel
theorem dX10_moveBox_81 : decode cX10_moveBox 81 = .ok (.iload_n 2, 1) := by decide +kernel
theorem dX10_moveBox_82 : decode cX10_moveBox 82 = .ok (.iastore, 1) := by decide +kernel
theorem dX10_moveBox_83 : decode cX10_moveBox 83 = .ok (.aload_n 0, 1) := by decide +kernel
theorem dX10_moveBox_84 : decode cX10_moveBox 84 = .ok (.getfield 24, 3) := by decide +kernel
theorem dX10_moveBox_87 : decode cX10_moveBox 87 = .ok (.getfield 111, 3) := by decide +kernel
theorem dX10_moveBox_90 : decode cX10_moveBox 90 = .ok (.iconst 1, 1) := by decide +kernel
theorem dX10_moveBox_91 : decode cX10_moveBox 91 = .ok (.iload_n 3, 1) := by decide +kernel
theorem dX10_moveBox_92 : decode cX10_moveBox 92 = .ok (.iastore, 1) := by decide +kernel
theorem dX10_moveBox_93 : decode cX10_moveBox 93 = .ok (.aload_n 0, 1) := by decide +kernel
theorem dX10_moveBox_94 : decode cX10_moveBox 94 = .ok (.getfield 24, 3) := by decide +kernel
theorem dX10_moveBox_97 : decode cX10_moveBox 97 = .ok (.getfield 111, 3) := by decide +kernel
theorem dX10_moveBox_100 : decode cX10_moveBox 100 = .ok (.iconst 2, 1) := by decide +kernel
theorem dX10_moveBox_101 : decode cX10_moveBox 101 = .ok (.iload 4, 2) := by decide +kernel
theorem dX10_moveBox_103 : decode cX10_moveBox 103 = .ok (.iastore, 1) := by decide +kernel
theorem dX10_moveBox_104 : decode cX10_moveBox 104 = .ok (.aload_n 0, 1) := by decide +kernel
theorem dX10_moveBox_105 : decode cX10_moveBox 105 = .ok (.getfield 24, 3) := by decide +kernel
theorem dX10_moveBox_108 : decode cX10_moveBox 108 = .ok (.getfield 111, 3) := by decide +kernel
theorem dX10_moveBox_111 : decode cX10_moveBox 111 = .ok (.iconst 3, 1) := by decide +kernel
theorem dX10_moveBox_112 : decode cX10_moveBox 112 = .ok (.aload_n 0, 1) := by decide +kernel
theorem dX10_moveBox_113 : decode cX10_moveBox 113 = .ok (.iload_n 1, 1) := by decide +kernel
theorem dX10_moveBox_114 : decode cX10_moveBox 114 = .ok (.iconst 4, 1) := by decide +kernel
theorem dX10_moveBox_115 : decode cX10_moveBox 115 = .ok (.invokevirtual 65, 3) := by decide +kernel
theorem dX10_moveBox_118 : decode cX10_moveBox 118 = .ok (.iastore, 1) := by decide +kernel
theorem dX10_moveBox_119 : decode cX10_moveBox 119 = .ok (.aload_n 0, 1) := by decide +kernel
theorem dX10_moveBox_120 : decode cX10_moveBox 120 = .ok (.getfield 24, 3) := by decide +kernel
theorem dX10_moveBox_123 : decode cX10_moveBox 123 = .ok (.getfield 111, 3) := by decide +kernel
theorem dX10_moveBox_126 : decode cX10_moveBox 126 = .ok (.iconst 4, 1) := by decide +kernel
theorem dX10_moveBox_127 : decode cX10_moveBox 127 = .ok (.aload_n 0, 1) := by decide +kernel
theorem dX10_moveBox_128 : decode cX10_moveBox 128 = .ok (.getfield 32, 3) := by decide +kernel
theorem dX10_moveBox_131 : decode cX10_moveBox 131 = .ok (.iastore, 1) := by decide +kernel
theorem dX10_moveBox_132 : decode cX10_moveBox 132 = .ok (.aload_n 0, 1) := by decide +kernel
theorem dX10_moveBox_133 : decode cX10_moveBox 133 = .ok (.getfield 24, 3) := by decide +kernel
theorem dX10_moveBox_136 : decode cX10_moveBox 136 = .ok (.getfield 111, 3) := by decide +kernel
theorem dX10_moveBox_139 : decode cX10_moveBox 139 = .ok (.bipush 6, 2) := by decide +kernel
theorem dX10_moveBox_141 : decode cX10_moveBox 141 = .ok (.aload_n 0, 1) := by decide +kernel
theorem dX10_moveBox_142 : decode cX10_moveBox 142 = .ok (.iload_n 1, 1) := by decide +kernel
theorem dX10_moveBox_143 : decode cX10_moveBox 143 = .ok (.iconst 3, 1) := by decide +kernel
theorem dX10_moveBox_144 : decode cX10_moveBox 144 = .ok (.invokevirtual 65, 3) := by decide +kernel
theorem dX10_moveBox_147 : decode cX10_moveBox 147 = .ok (.iastore, 1) := by decide +kernel
theorem dX10_moveBox_148 : decode cX10_moveBox 148 = .ok (.iload_n 3, 1) := by decide +kernel
theorem dX10_moveBox_149 : decode cX10_moveBox 149 = .ok (.iload_n 2, 1) := by decide +kernel
theorem dX10_moveBox_150 : decode cX10_moveBox 150 = .ok (.isub, 1) := by decide +kernel
theorem dX10_moveBox_151 : decode cX10_moveBox 151 = .ok (.istore 6, 2) := by decide +kernel
theorem dX10_moveBox_153 : decode cX10_moveBox 153 = .ok (.aload_n 0, 1) := by decide +kernel
theorem dX10_moveBox_154 : decode cX10_moveBox 154 = .ok (.getfield 28, 3) := by decide +kernel
theorem dX10_moveBox_157 : decode cX10_moveBox 157 = .ok (.invokevirtual 114, 3) := by decide +kernel
theorem dX10_moveBox_160 : decode cX10_moveBox 160 = .ok (.ifCond .eq 30, 3) := by decide +kernel
theorem dX10_moveBox_163 : decode cX10_moveBox 163 = .ok (.aload_n 0, 1) := by decide +kernel
theorem dX10_moveBox_164 : decode cX10_moveBox 164 = .ok (.getfield 24, 3) := by decide +kernel
theorem dX10_moveBox_167 : decode cX10_moveBox 167 = .ok (.aload_n 0, 1) := by decide +kernel
theorem dX10_moveBox_168 : decode cX10_moveBox 168 = .ok (.getfield 28, 3) := by decide +kernel
theorem dX10_moveBox_171 : decode cX10_moveBox 171 = .ok (.aload_n 0, 1) := by decide +kernel
theorem dX10_moveBox_172 : decode cX10_moveBox 172 = .ok (.getfield 28, 3) := by decide +kernel
theorem dX10_moveBox_175 : decode cX10_moveBox 175 = .ok (.getfield 118, 3) := by decide +kernel
theorem dX10_moveBox_178 : decode cX10_moveBox 178 = .ok (.aload_n 0, 1) := by decide +kernel
theorem dX10_moveBox_179 : decode cX10_moveBox 179 = .ok (.getfield 28, 3) := by decide +kernel
theorem dX10_moveBox_182 : decode cX10_moveBox 182 = .ok (.getfield 121, 3) := by decide +kernel
theorem dX10_moveBox_185 : decode cX10_moveBox 185 = .ok (.invokevirtual 124, 3) := by decide +kernel
theorem dX10_moveBox_188 : decode cX10_moveBox 188 = .ok (.istore 6, 2) := by decide +kernel
theorem dX10_moveBox_190 : decode cX10_moveBox 190 = .ok (.iload 6, 2) := by decide +kernel
theorem dX10_moveBox_192 : decode cX10_moveBox 192 = .ok (.ifCond .eq 18, 3) := by decide +kernel
theorem dX10_moveBox_195 : decode cX10_moveBox 195 = .ok (.aload_n 0, 1) := by decide +kernel
theorem dX10_moveBox_196 : decode cX10_moveBox 196 = .ok (.iload_n 1, 1) := by decide +kernel
theorem dX10_moveBox_197 : decode cX10_moveBox 197 = .ok (.iload 6, 2) := by decide +kernel
theorem dX10_moveBox_199 : decode cX10_moveBox 199 = .ok (.ifCond .le 7, 3) := by decide +kernel
theorem dX10_moveBox_202 : decode cX10_moveBox 202 = .ok (.iconst 1, 1) := by decide +kernel
theorem dX10_moveBox_203 : decode cX10_moveBox 203 = .ok (.goto 4, 3) := by decide +kernel
theorem dX10_moveBox_206 : decode cX10_moveBox 206 = .ok (.iconst 3, 1) := by decide +kernel
theorem dX10_moveBox_207 : decode cX10_moveBox 207 = .ok (.invokevirtual 128, 3) := by decide +kernel
theorem dX10_moveBox_210 : decode cX10_moveBox 210 = .ok (.aload_n 0, 1) := by decide +kernel
theorem dX10_moveBox_211 : decode cX10_moveBox 211 = .ok (.getfield 24, 3) := by decide +kernel
theorem dX10_moveBox_214 : decode cX10_moveBox 214 = .ok (.getfield 111, 3) := by decide +kernel
theorem dX10_moveBox_217 : decode cX10_moveBox 217 = .ok (.iconst 5, 1) := by decide +kernel
theorem dX10_moveBox_218 : decode cX10_moveBox 218 = .ok (.iload 6, 2) := by decide +kernel
theorem dX10_moveBox_220 : decode cX10_moveBox 220 = .ok (.ifCond .eq 7, 3) := by decide +kernel
theorem dX10_moveBox_223 : decode cX10_moveBox 223 = .ok (.iconst 1, 1) := by decide +kernel
theorem dX10_moveBox_224 : decode cX10_moveBox 224 = .ok (.goto 4, 3) := by decide +kernel
theorem dX10_moveBox_227 : decode cX10_moveBox 227 = .ok (.iconst 0, 1) := by decide +kernel
theorem dX10_moveBox_228 : decode cX10_moveBox 228 = .ok (.iastore, 1) := by decide +kernel
theorem dX10_moveBox_229 : decode cX10_moveBox 229 = .ok (.aload_n 0, 1) := by decide +kernel
theorem dX10_moveBox_230 : decode cX10_moveBox 230 = .ok (.getfield 28, 3) := by decide +kernel
theorem dX10_moveBox_233 : decode cX10_moveBox 233 = .ok (.invokevirtual 132, 3) := by decide +kernel
theorem dX10_moveBox_236 : decode cX10_moveBox 236 = .ok (.ifCond .eq 31, 3) := by decide +kernel
theorem dX10_moveBox_239 : decode cX10_moveBox 239 = .ok (.aload_n 0, 1) := by decide +kernel
theorem dX10_moveBox_240 : decode cX10_moveBox 240 = .ok (.getfield 24, 3) := by decide +kernel
theorem dX10_moveBox_243 : decode cX10_moveBox 243 = .ok (.aload_n 0, 1) := by decide +kernel
theorem dX10_moveBox_244 : decode cX10_moveBox 244 = .ok (.getfield 28, 3) := by decide +kernel
theorem dX10_moveBox_247 : decode cX10_moveBox 247 = .ok (.aload_n 0, 1) := by decide +kernel
theorem dX10_moveBox_248 : decode cX10_moveBox 248 = .ok (.getfield 28, 3) := by decide +kernel
theorem dX10_moveBox_251 : decode cX10_moveBox 251 = .ok (.getfield 135, 3) := by decide +kernel
theorem dX10_moveBox_254 : decode cX10_moveBox 254 = .ok (.aload_n 0, 1) := by decide +kernel
theorem dX10_moveBox_255 : decode cX10_moveBox 255 = .ok (.getfield 28, 3) := by decide +kernel
theorem dX10_moveBox_258 : decode cX10_moveBox 258 = .ok (.getfield 138, 3) := by decide +kernel
theorem dX10_moveBox_261 : decode cX10_moveBox 261 = .ok (.invokevirtual 124, 3) := by decide +kernel
theorem dX10_moveBox_264 : decode cX10_moveBox 264 = .ok (.ifCond .eq 8, 3) := by decide +kernel
theorem dX10_moveBox_267 : decode cX10_moveBox 267 = .ok (.aload_n 0, 1) := by decide +kernel
theorem dX10_moveBox_268 : decode cX10_moveBox 268 = .ok (.iload_n 1, 1) := by decide +kernel
theorem dX10_moveBox_269 : decode cX10_moveBox 269 = .ok (.invokevirtual 141, 3) := by decide +kernel
theorem dX10_moveBox_272 : decode cX10_moveBox 272 = .ok (.aload_n 0, 1) := by decide +kernel
theorem dX10_moveBox_273 : decode cX10_moveBox 273 = .ok (.iload_n 1, 1) := by decide +kernel
theorem dX10_moveBox_274 : decode cX10_moveBox 274 = .ok (.iconst 3, 1) := by decide +kernel
theorem dX10_moveBox_275 : decode cX10_moveBox 275 = .ok (.aload_n 0, 1) := by decide +kernel
theorem dX10_moveBox_276 : decode cX10_moveBox 276 = .ok (.iload_n 1, 1) := by decide +kernel
theorem dX10_moveBox_277 : decode cX10_moveBox 277 = .ok (.iconst 3, 1) := by decide +kernel
theorem dX10_moveBox_278 : decode cX10_moveBox 278 = .ok (.invokevirtual 65, 3) := by decide +kernel
theorem dX10_moveBox_281 : decode cX10_moveBox 281 = .ok (.iconst 1, 1) := by decide +kernel
theorem dX10_moveBox_282 : decode cX10_moveBox 282 = .ok (.isub, 1) := by decide +kernel
theorem dX10_moveBox_283 : decode cX10_moveBox 283 = .ok (.invokevirtual 61, 3) := by decide +kernel
theorem dX10_moveBox_286 : decode cX10_moveBox 286 = .ok (.return_, 1) := by decide +kernel
theorem dX10_goAhead_0 : decode cX10_goAhead 0 = .ok (.aload_n 0, 1) := by decide +kernel
theorem dX10_goAhead_1 : decode cX10_goAhead 1 = .ok (.iload_n 1, 1) := by decide +kernel
theorem dX10_goAhead_2 : decode cX10_goAhead 2 = .ok (.iconst 0, 1) := by decide +kernel
theorem dX10_goAhead_3 : decode cX10_goAhead 3 = .ok (.invokevirtual 65, 3) := by decide +kernel
theorem dX10_goAhead_6 : decode cX10_goAhead 6 = .ok (.aload_n 0, 1) := by decide +kernel
theorem dX10_goAhead_7 : decode cX10_goAhead 7 = .ok (.iload_n 1, 1) := by decide +kernel
theorem dX10_goAhead_8 : decode cX10_goAhead 8 = .ok (.iconst 2, 1) := by decide +kernel
theorem dX10_goAhead_9 : decode cX10_goAhead 9 = .ok (.invokevirtual 65, 3) := by decide +kernel
theorem dX10_goAhead_12 : decode cX10_goAhead 12 = .ok (.invokestatic 95, 3) := by decide +kernel
theorem dX10_goAhead_15 : decode cX10_goAhead 15 = .ok (.iadd, 1) := by decide +kernel
theorem dX10_goAhead_16 : decode cX10_goAhead 16 = .ok (.istore_n 2, 1) := by decide +kernel
theorem dX10_goAhead_17 : decode cX10_goAhead 17 = .ok (.aload_n 0, 1) := by decide +kernel
theorem dX10_goAhead_18 : decode cX10_goAhead 18 = .ok (.iload_n 1, 1) := by decide +kernel
theorem dX10_goAhead_19 : decode cX10_goAhead 19 = .ok (.iconst 1, 1) := by decide +kernel
theorem dX10_goAhead_20 : decode cX10_goAhead 20 = .ok (.invokevirtual 65, 3) := by decide +kernel
theorem dX10_goAhead_23 : decode cX10_goAhead 23 = .ok (.aload_n 0, 1) := by decide +kernel
theorem dX10_goAhead_24 : decode cX10_goAhead 24 = .ok (.iload_n 1, 1) := by decide +kernel
theorem dX10_goAhead_25 : decode cX10_goAhead 25 = .ok (.iconst 2, 1) := by decide +kernel
theorem dX10_goAhead_26 : decode cX10_goAhead 26 = .ok (.invokevirtual 65, 3) := by decide +kernel
theorem dX10_goAhead_29 : decode cX10_goAhead 29 = .ok (.invokestatic 98, 3) := by decide +kernel
theorem dX10_goAhead_32 : decode cX10_goAhead 32 = .ok (.iadd, 1) := by decide +kernel
theorem dX10_goAhead_33 : decode cX10_goAhead 33 = .ok (.istore_n 3, 1) := by decide +kernel
theorem dX10_goAhead_34 : decode cX10_goAhead 34 = .ok (.aload_n 0, 1) := by decide +kernel
theorem dX10_goAhead_35 : decode cX10_goAhead 35 = .ok (.getfield 28, 3) := by decide +kernel
theorem dX10_goAhead_38 : decode cX10_goAhead 38 = .ok (.iload_n 2, 1) := by decide +kernel
theorem dX10_goAhead_39 : decode cX10_goAhead 39 = .ok (.iload_n 3, 1) := by decide +kernel
theorem dX10_goAhead_40 : decode cX10_goAhead 40 = .ok (.invokevirtual 144, 3) := by decide +kernel
theorem dX10_goAhead_43 : decode cX10_goAhead 43 = .ok (.ifCond .eq 13, 3) := by decide +kernel
theorem dX10_goAhead_46 : decode cX10_goAhead 46 = .ok (.aload_n 0, 1) := by decide +kernel
theorem dX10_goAhead_47 : decode cX10_goAhead 47 = .ok (.iload_n 2, 1) := by decide +kernel
theorem dX10_goAhead_48 : decode cX10_goAhead 48 = .ok (.iload_n 3, 1) := by decide +kernel
theorem dX10_goAhead_49 : decode cX10_goAhead 49 = .ok (.invokevirtual 147, 3) := by decide +kernel
theorem dX10_goAhead_52 : decode cX10_goAhead 52 = .ok (.iconst (-1), 1) := by decide +kernel
theorem dX10_goAhead_53 : decode cX10_goAhead 53 = .ok (.if_icmp .eq 30, 3) := by decide +kernel
theorem dX10_goAhead_56 : decode cX10_goAhead 56 = .ok (.aload_n 0, 1) := by decide +kernel
theorem dX10_goAhead_57 : decode cX10_goAhead 57 = .ok (.iload_n 1, 1) := by decide +kernel
theorem dX10_goAhead_58 : decode cX10_goAhead 58 = .ok (.bipush 9, 2) := by decide +kernel
theorem dX10_goAhead_60 : decode cX10_goAhead 60 = .ok (.aload_n 0, 1) := by decide +kernel
theorem dX10_goAhead_61 : decode cX10_goAhead 61 = .ok (.iload_n 1, 1) := by decide +kernel
theorem dX10_goAhead_62 : decode cX10_goAhead 62 = .ok (.bipush 9, 2) := by decide +kernel
theorem dX10_goAhead_64 : decode cX10_goAhead 64 = .ok (.invokevirtual 65, 3) := by decide +kernel
theorem dX10_goAhead_67 : decode cX10_goAhead 67 = .ok (.iconst 1, 1) := by decide +kernel
theorem dX10_goAhead_68 : decode cX10_goAhead 68 = .ok (.iadd, 1) := by decide +kernel
theorem dX10_goAhead_69 : decode cX10_goAhead 69 = .ok (.invokevirtual 61, 3) := by decide +kernel
theorem dX10_goAhead_72 : decode cX10_goAhead 72 = .ok (.aload_n 0, 1) := by decide +kernel
theorem dX10_goAhead_73 : decode cX10_goAhead 73 = .ok (.dup, 1) := by decide +kernel
theorem dX10_goAhead_74 : decode cX10_goAhead 74 = .ok (.getfield 42, 3) := by decide +kernel
theorem dX10_goAhead_77 : decode cX10_goAhead 77 = .ok (.iconst 1, 1) := by decide +kernel
theorem dX10_goAhead_78 : decode cX10_goAhead 78 = .ok (.iadd, 1) := by decide +kernel
theorem dX10_goAhead_79 : decode cX10_goAhead 79 = .ok (.putfield 42, 3) := by decide +kernel
theorem dX10_goAhead_82 : decode cX10_goAhead 82 = .ok (.return_, 1) := by decide +kernel
theorem dX10_goAhead_83 : decode cX10_goAhead 83 = .ok (.aload_n 0, 1) := by decide +kernel
theorem dX10_goAhead_84 : decode cX10_goAhead 84 = .ok (.iload_n 1, 1) := by decide +kernel
theorem dX10_goAhead_85 : decode cX10_goAhead 85 = .ok (.iconst 0, 1) := by decide +kernel
theorem dX10_goAhead_86 : decode cX10_goAhead 86 = .ok (.iload_n 2, 1) := by decide +kernel
theorem dX10_goAhead_87 : decode cX10_goAhead 87 = .ok (.invokevirtual 61, 3) := by decide +kernel
theorem dX10_goAhead_90 : decode cX10_goAhead 90 = .ok (.aload_n 0, 1) := by decide +kernel
theorem dX10_goAhead_91 : decode cX10_goAhead 91 = .ok (.iload_n 1, 1) := by decide +kernel
theorem dX10_goAhead_92 : decode cX10_goAhead 92 = .ok (.iconst 1, 1) := by decide +kernel
theorem dX10_goAhead_93 : decode cX10_goAhead 93 = .ok (.iload_n 3, 1) := by decide +kernel
theorem dX10_goAhead_94 : decode cX10_goAhead 94 = .ok (.invokevirtual 61, 3) := by decide +kernel
theorem dX10_goAhead_97 : decode cX10_goAhead 97 = .ok (.aload_n 0, 1) := by decide +kernel
theorem dX10_goAhead_98 : decode cX10_goAhead 98 = .ok (.iload_n 1, 1) := by decide +kernel
theorem dX10_goAhead_99 : decode cX10_goAhead 99 = .ok (.bipush 8, 2) := by decide +kernel
theorem dX10_goAhead_101 : decode cX10_goAhead 101 = .ok (.aload_n 0, 1) := by decide +kernel
theorem dX10_goAhead_102 : decode cX10_goAhead 102 = .ok (.iload_n 1, 1) := by decide +kernel
theorem dX10_goAhead_103 : decode cX10_goAhead 103 = .ok (.bipush 8, 2) := by decide +kernel
theorem dX10_goAhead_105 : decode cX10_goAhead 105 = .ok (.invokevirtual 65, 3) := by decide +kernel
theorem dX10_goAhead_108 : decode cX10_goAhead 108 = .ok (.iconst 1, 1) := by decide +kernel
theorem dX10_goAhead_109 : decode cX10_goAhead 109 = .ok (.iadd, 1) := by decide +kernel
theorem dX10_goAhead_110 : decode cX10_goAhead 110 = .ok (.sipush 2520, 3) := by decide +kernel
theorem dX10_goAhead_113 : decode cX10_goAhead 113 = .ok (.irem, 1) := by decide +kernel
theorem dX10_goAhead_114 : decode cX10_goAhead 114 = .ok (.invokevirtual 61, 3) := by decide +kernel
theorem dX10_goAhead_117 : decode cX10_goAhead 117 = .ok (.iload_n 1, 1) := by decide +kernel
theorem dX10_goAhead_118 : decode cX10_goAhead 118 = .ok (.ifCond .lt 19, 3) := by decide +kernel
theorem dX10_goAhead_121 : decode cX10_goAhead 121 = .ok (.iload_n 1, 1) := by decide +kernel
theorem dX10_goAhead_122 : decode cX10_goAhead 122 = .ok (.aload_n 0, 1) := by decide +kernel
theorem dX10_goAhead_123 : decode cX10_goAhead 123 = .ok (.getfield 17, 3) := by decide +kernel
theorem dX10_goAhead_126 : decode cX10_goAhead 126 = .ok (.arraylength, 1) := by decide +kernel
theorem dX10_goAhead_127 : decode cX10_goAhead 127 = .ok (.if_icmp .ge 10, 3) := by decide +kernel
theorem dX10_goAhead_130 : decode cX10_goAhead 130 = .ok (.aload_n 0, 1) := by decide +kernel
theorem dX10_goAhead_131 : decode cX10_goAhead 131 = .ok (.getfield 17, 3) := by decide +kernel
theorem dX10_goAhead_134 : decode cX10_goAhead 134 = .ok (.iload_n 1, 1) := by decide +kernel
theorem dX10_goAhead_135 : decode cX10_goAhead 135 = .ok (.iconst 1, 1) := by decide +kernel
theorem dX10_goAhead_136 : decode cX10_goAhead 136 = .ok (.bastore, 1) := by decide +kernel
theorem dX10_goAhead_137 : decode cX10_goAhead 137 = .ok (.aload_n 0, 1) := by decide +kernel
theorem dX10_goAhead_138 : decode cX10_goAhead 138 = .ok (.dup, 1) := by decide +kernel
theorem dX10_goAhead_139 : decode cX10_goAhead 139 = .ok (.getfield 39, 3) := by decide +kernel
theorem dX10_goAhead_142 : decode cX10_goAhead 142 = .ok (.iconst 1, 1) := by decide +kernel
theorem dX10_goAhead_143 : decode cX10_goAhead 143 = .ok (.iadd, 1) := by decide +kernel
theorem dX10_goAhead_144 : decode cX10_goAhead 144 = .ok (.putfield 39, 3) := by decide +kernel
theorem dX10_goAhead_147 : decode cX10_goAhead 147 = .ok (.aload_n 0, 1) := by decide +kernel
theorem dX10_goAhead_148 : decode cX10_goAhead 148 = .ok (.iload_n 1, 1) := by decide +kernel
theorem dX10_goAhead_149 : decode cX10_goAhead 149 = .ok (.bipush 7, 2) := by decide +kernel
theorem dX10_goAhead_151 : decode cX10_goAhead 151 = .ok (.invokevirtual 65, 3) := by decide +kernel
theorem dX10_goAhead_154 : decode cX10_goAhead 154 = .ok (.istore 4, 2) := by decide +kernel
theorem dX10_goAhead_156 : decode cX10_goAhead 156 = .ok (.iload 4, 2) := by decide +kernel
theorem dX10_goAhead_158 : decode cX10_goAhead 158 = .ok (.ifCond .le 22, 3) := by decide +kernel
theorem dX10_goAhead_161 : decode cX10_goAhead 161 = .ok (.aload_n 0, 1) := by decide +kernel
theorem dX10_goAhead_162 : decode cX10_goAhead 162 = .ok (.iload_n 1, 1) := by decide +kernel
theorem dX10_goAhead_163 : decode cX10_goAhead 163 = .ok (.bipush 8, 2) := by decide +kernel
theorem dX10_goAhead_165 : decode cX10_goAhead 165 = .ok (.invokevirtual 65, 3) := by decide +kernel
theorem dX10_goAhead_168 : decode cX10_goAhead 168 = .ok (.iload 4, 2) := by decide +kernel
theorem dX10_goAhead_170 : decode cX10_goAhead 170 = .ok (.irem, 1) := by decide +kernel
theorem dX10_goAhead_171 : decode cX10_goAhead 171 = .ok (.ifCond .ne 9, 3) := by decide +kernel
theorem dX10_goAhead_174 : decode cX10_goAhead 174 = .ok (.aload_n 0, 1) := by decide +kernel
theorem dX10_goAhead_175 : decode cX10_goAhead 175 = .ok (.iload_n 1, 1) := by decide +kernel
theorem dX10_goAhead_176 : decode cX10_goAhead 176 = .ok (.iconst 1, 1) := by decide +kernel
theorem dX10_goAhead_177 : decode cX10_goAhead 177 = .ok (.invokevirtual 128, 3) := by decide +kernel
theorem dX10_goAhead_180 : decode cX10_goAhead 180 = .ok (.return_, 1) := by decide +kernel
theorem dX11_init_0 : decode cX11_init 0 = .ok (.aload_n 0, 1) := by decide +kernel
theorem dX11_init_1 : decode cX11_init 1 = .ok (.invokespecial 1, 3) := by decide +kernel
theorem dX11_init_4 : decode cX11_init 4 = .ok (.aload_n 0, 1) := by decide +kernel
theorem dX11_init_5 : decode cX11_init 5 = .ok (.new 7, 3) := by decide +kernel
theorem dX11_init_8 : decode cX11_init 8 = .ok (.dup, 1) := by decide +kernel
theorem dX11_init_9 : decode cX11_init 9 = .ok (.invokespecial 9, 3) := by decide +kernel
theorem dX11_init_12 : decode cX11_init 12 = .ok (.putfield 10, 3) := by decide +kernel
theorem dX11_init_15 : decode cX11_init 15 = .ok (.aload_n 0, 1) := by decide +kernel
theorem dX11_init_16 : decode cX11_init 16 = .ok (.new 16, 3) := by decide +kernel
theorem dX11_init_19 : decode cX11_init 19 = .ok (.dup, 1) := by decide +kernel
theorem dX11_init_20 : decode cX11_init 20 = .ok (.invokespecial 18, 3) := by decide +kernel
theorem dX11_init_23 : decode cX11_init 23 = .ok (.putfield 19, 3) := by decide +kernel
theorem dX11_init_26 : decode cX11_init 26 = .ok (.aload_n 0, 1) := by decide +kernel
theorem dX11_init_27 : decode cX11_init 27 = .ok (.new 16, 3) := by decide +kernel
theorem dX11_init_30 : decode cX11_init 30 = .ok (.dup, 1) := by decide +kernel
theorem dX11_init_31 : decode cX11_init 31 = .ok (.invokespecial 18, 3) := by decide +kernel
theorem dX11_init_34 : decode cX11_init 34 = .ok (.putfield 23, 3) := by decide +kernel
theorem dX11_init_37 : decode cX11_init 37 = .ok (.aload_n 0, 1) := by decide +kernel
theorem dX11_init_38 : decode cX11_init 38 = .ok (.new 26, 3) := by decide +kernel
theorem dX11_init_41 : decode cX11_init 41 = .ok (.dup, 1) := by decide +kernel
theorem dX11_init_42 : decode cX11_init 42 = .ok (.aload_n 0, 1) := by decide +kernel
theorem dX11_init_43 : decode cX11_init 43 = .ok (.getfield 10, 3) := by decide +kernel
theorem dX11_init_46 : decode cX11_init 46 = .ok (.aload_n 0, 1) := by decide +kernel
theorem dX11_init_47 : decode cX11_init 47 = .ok (.getfield 23, 3) := by decide +kernel
theorem dX11_init_50 : decode cX11_init 50 = .ok (.invokespecial 28, 3) := by decide +kernel
theorem dX11_init_53 : decode cX11_init 53 = .ok (.putfield 31, 3) := by decide +kernel
theorem dX11_init_56 : decode cX11_init 56 = .ok (.aload_n 0, 1) := by decide +kernel
theorem dX11_init_57 : decode cX11_init 57 = .ok (.new 35, 3) := by decide +kernel
theorem dX11_init_60 : decode cX11_init 60 = .ok (.dup, 1) := by decide +kernel
theorem dX11_init_61 : decode cX11_init 61 = .ok (.aload_n 0, 1) := by decide +kernel
theorem dX11_init_62 : decode cX11_init 62 = .ok (.getfield 19, 3) := by decide +kernel
theorem dX11_init_65 : decode cX11_init 65 = .ok (.invokespecial 37, 3) := by decide +kernel
theorem dX11_init_68 : decode cX11_init 68 = .ok (.putfield 40, 3) := by decide +kernel
theorem dX11_init_71 : decode cX11_init 71 = .ok (.aload_n 0, 1) := by decide +kernel
theorem dX11_init_72 : decode cX11_init 72 = .ok (.new 44, 3) := by decide +kernel
theorem dX11_init_75 : decode cX11_init 75 = .ok (.dup, 1) := by decide +kernel
theorem dX11_init_76 : decode cX11_init 76 = .ok (.aload_n 0, 1) := by decide +kernel
theorem dX11_init_77 : decode cX11_init 77 = .ok (.getfield 19, 3) := by decide +kernel
theorem dX11_init_80 : decode cX11_init 80 = .ok (.invokespecial 46, 3) := by decide +kernel
theorem dX11_init_83 : decode cX11_init 83 = .ok (.putfield 47, 3) := by decide +kernel
theorem dX11_init_86 : decode cX11_init 86 = .ok (.aload_n 0, 1) := by decide +kernel
theorem dX11_init_87 : decode cX11_init 87 = .ok (.new 51, 3) := by decide +kernel
theorem dX11_init_90 : decode cX11_init 90 = .ok (.dup, 1) := by decide +kernel
theorem dX11_init_91 : decode cX11_init 91 = .ok (.aload_n 0, 1) := by decide +kernel
theorem dX11_init_92 : decode cX11_init 92 = .ok (.getfield 19, 3) := by decide +kernel
theorem dX11_init_95 : decode cX11_init 95 = .ok (.invokespecial 53, 3) := by decide +kernel
theorem dX11_init_98 : decode cX11_init 98 = .ok (.putfield 54, 3) := by decide +kernel
theorem dX11_init_101 : decode cX11_init 101 = .ok (.aload_n 0, 1) := by decide +kernel
theorem dX11_init_102 : decode cX11_init 102 = .ok (.new 58, 3) := by decide +kernel
theorem dX11_init_105 : decode cX11_init 105 = .ok (.dup, 1) := by decide +kernel
theorem dX11_init_106 : decode cX11_init 106 = .ok (.invokespecial 60, 3) := by decide +kernel
theorem dX11_init_109 : decode cX11_init 109 = .ok (.putfield 61, 3) := by decide +kernel
theorem dX11_init_112 : decode cX11_init 112 = .ok (.aload_n 0, 1) := by decide +kernel
theorem dX11_init_113 : decode cX11_init 113 = .ok (.new 65, 3) := by decide +kernel
theorem dX11_init_116 : decode cX11_init 116 = .ok (.dup, 1) := by decide +kernel
theorem dX11_init_117 : decode cX11_init 117 = .ok (.aload_n 0, 1) := by decide +kernel
theorem dX11_init_118 : decode cX11_init 118 = .ok (.getfield 19, 3) := by decide +kernel
theorem dX11_init_121 : decode cX11_init 121 = .ok (.invokespecial 67, 3) := by decide +kernel
theorem dX11_init_124 : decode cX11_init 124 = .ok (.putfield 68, 3) := by decide +kernel
theorem dX11_init_127 : decode cX11_init 127 = .ok (.aload_n 0, 1) := by decide +kernel
theorem dX11_init_128 : decode cX11_init 128 = .ok (.bipush 6, 2) := by decide +kernel
theorem dX11_init_130 : decode cX11_init 130 = .ok (.newarray .int, 2) := by decide +kernel
theorem dX11_init_132 : decode cX11_init 132 = .ok (.putfield 72, 3) := by decide +kernel
theorem dX11_init_135 : decode cX11_init 135 = .ok (.aload_n 0, 1) := by decide +kernel
theorem dX11_init_136 : decode cX11_init 136 = .ok (.iconst 0, 1) := by decide +kernel
theorem dX11_init_137 : decode cX11_init 137 = .ok (.putfield 76, 3) := by decide +kernel
theorem dX11_init_140 : decode cX11_init 140 = .ok (.aload_n 0, 1) := by decide +kernel
theorem dX11_init_141 : decode cX11_init 141 = .ok (.iconst (-1), 1) := by decide +kernel
theorem dX11_init_142 : decode cX11_init 142 = .ok (.putfield 80, 3) := by decide +kernel
theorem dX11_init_145 : decode cX11_init 145 = .ok (.aload_n 0, 1) := by decide +kernel
theorem dX11_init_146 : decode cX11_init 146 = .ok (.iconst 1, 1) := by decide +kernel
theorem dX11_init_147 : decode cX11_init 147 = .ok (.putfield 83, 3) := by decide +kernel
theorem dX11_init_150 : decode cX11_init 150 = .ok (.return_, 1) := by decide +kernel
theorem dX11_feed_0 : decode cX11_feed 0 = .ok (.aload_n 0, 1) := by decide +kernel
theorem dX11_feed_1 : decode cX11_feed 1 = .ok (.getfield 10, 3) := by decide +kernel
theorem dX11_feed_4 : decode cX11_feed 4 = .ok (.bipush 20, 2) := by decide +kernel
theorem dX11_feed_6 : decode cX11_feed 6 = .ok (.invokevirtual 86, 3) := by decide +kernel
theorem dX11_feed_9 : decode cX11_feed 9 = .ok (.ifCond .ne 9, 3) := by decide +kernel
theorem dX11_feed_12 : decode cX11_feed 12 = .ok (.aload_n 0, 1) := by decide +kernel
theorem dX11_feed_13 : decode cX11_feed 13 = .ok (.iconst 0, 1) := by decide +kernel
theorem dX11_feed_14 : decode cX11_feed 14 = .ok (.invokevirtual 90, 3) := by decide +kernel
theorem dX11_feed_17 : decode cX11_feed 17 = .ok (.ireturn, 1) := by decide +kernel
theorem dX11_feed_18 : decode cX11_feed 18 = .ok (.aload_n 0, 1) := by decide +kernel
theorem dX11_feed_19 : decode cX11_feed 19 = .ok (.getfield 10, 3) := by decide +kernel
theorem dX11_feed_22 : decode cX11_feed 22 = .ok (.iload_n 1, 1) := by decide +kernel
theorem dX11_feed_23 : decode cX11_feed 23 = .ok (.invokevirtual 94, 3) := by decide +kernel
theorem dX11_feed_26 : decode cX11_feed 26 = .ok (.aload_n 0, 1) := by decide +kernel
theorem dX11_feed_27 : decode cX11_feed 27 = .ok (.getfield 10, 3) := by decide +kernel
theorem dX11_feed_30 : decode cX11_feed 30 = .ok (.iload_n 2, 1) := by decide +kernel
theorem dX11_feed_31 : decode cX11_feed 31 = .ok (.invokevirtual 94, 3) := by decide +kernel
theorem dX11_feed_34 : decode cX11_feed 34 = .ok (.aload_n 0, 1) := by decide +kernel
theorem dX11_feed_35 : decode cX11_feed 35 = .ok (.getfield 10, 3) := by decide +kernel
theorem dX11_feed_38 : decode cX11_feed 38 = .ok (.iload_n 3, 1) := by decide +kernel
theorem dX11_feed_39 : decode cX11_feed 39 = .ok (.invokevirtual 94, 3) := by decide +kernel
theorem dX11_feed_42 : decode cX11_feed 42 = .ok (.aload_n 0, 1) := by decide +kernel
theorem dX11_feed_43 : decode cX11_feed 43 = .ok (.getfield 10, 3) := by decide +kernel
theorem dX11_feed_46 : decode cX11_feed 46 = .ok (.iload 4, 2) := by decide +kernel
theorem dX11_feed_48 : decode cX11_feed 48 = .ok (.invokevirtual 94, 3) := by decide +kernel
theorem dX11_feed_51 : decode cX11_feed 51 = .ok (.aload_n 0, 1) := by decide +kernel
theorem dX11_feed_52 : decode cX11_feed 52 = .ok (.getfield 10, 3) := by decide +kernel
theorem dX11_feed_55 : decode cX11_feed 55 = .ok (.iload 5, 2) := by decide +kernel
theorem dX11_feed_57 : decode cX11_feed 57 = .ok (.invokevirtual 94, 3) := by decide +kernel
theorem dX11_feed_60 : decode cX11_feed 60 = .ok (.aload_n 0, 1) := by decide +kernel
theorem dX11_feed_61 : decode cX11_feed 61 = .ok (.getfield 10, 3) := by decide +kernel
theorem dX11_feed_64 : decode cX11_feed 64 = .ok (.getfield 98, 3) := by decide +kernel
theorem dX11_feed_67 : decode cX11_feed 67 = .ok (.ireturn, 1) := by decide +kernel
theorem dX11_end_0 : decode cX11_end 0 = .ok (.iload_n 1, 1) := by decide +kernel
theorem dX11_end_1 : decode cX11_end 1 = .ok (.ifCond .lt 14, 3) := by decide +kernel
theorem dX11_end_4 : decode cX11_end 4 = .ok (.iload_n 1, 1) := by decide +kernel
theorem dX11_end_5 : decode cX11_end 5 = .ok (.aload_n 0, 1) := by decide +kernel
theorem dX11_end_6 : decode cX11_end 6 = .ok (.getfield 10, 3) := by decide +kernel
theorem dX11_end_9 : decode cX11_end 9 = .ok (.getfield 98, 3) := by decide +kernel
theorem dX11_end_12 : decode cX11_end 12 = .ok (.if_icmp .le 11, 3) := by decide +kernel
theorem dX11_end_15 : decode cX11_end 15 = .ok (.aload_n 0, 1) := by decide +kernel
theorem dX11_end_16 : decode cX11_end 16 = .ok (.iconst 0, 1) := by decide +kernel
theorem dX11_end_17 : decode cX11_end 17 = .ok (.invokevirtual 90, 3) := by decide +kernel
theorem dX11_end_20 : decode cX11_end 20 = .ok (.pop, 1) := by decide +kernel
theorem dX11_end_21 : decode cX11_end 21 = .ok (.iconst 0, 1) := by decide +kernel
theorem dX11_end_22 : decode cX11_end 22 = .ok (.ireturn, 1) := by decide +kernel
theorem dX11_end_23 : decode cX11_end 23 = .ok (.aload_n 0, 1) := by decide +kernel
theorem dX11_end_24 : decode cX11_end 24 = .ok (.getfield 10, 3) := by decide +kernel
theorem dX11_end_27 : decode cX11_end 27 = .ok (.iload_n 1, 1) := by decide +kernel
theorem dX11_end_28 : decode cX11_end 28 = .ok (.putfield 98, 3) := by decide +kernel
theorem dX11_end_31 : decode cX11_end 31 = .ok (.iconst 1, 1) := by decide +kernel
theorem dX11_end_32 : decode cX11_end 32 = .ok (.ireturn, 1) := by decide +kernel
theorem dX11_kitchen_0 : decode cX11_kitchen 0 = .ok (.aload_n 0, 1) := by decide +kernel
theorem dX11_kitchen_1 : decode cX11_kitchen 1 = .ok (.getfield 31, 3) := by decide +kernel
theorem dX11_kitchen_4 : decode cX11_kitchen 4 = .ok (.aload_n 0, 1) := by decide +kernel
theorem dX11_kitchen_5 : decode cX11_kitchen 5 = .ok (.getfield 23, 3) := by decide +kernel
theorem dX11_kitchen_8 : decode cX11_kitchen 8 = .ok (.invokevirtual 101, 3) := by decide +kernel
theorem dX11_kitchen_11 : decode cX11_kitchen 11 = .ok (.istore_n 1, 1) := by decide +kernel
theorem dX11_kitchen_12 : decode cX11_kitchen 12 = .ok (.aload_n 0, 1) := by decide +kernel
theorem dX11_kitchen_13 : decode cX11_kitchen 13 = .ok (.getfield 10, 3) := by decide +kernel
theorem dX11_kitchen_16 : decode cX11_kitchen 16 = .ok (.iconst 0, 1) := by decide +kernel
theorem dX11_kitchen_17 : decode cX11_kitchen 17 = .ok (.putfield 98, 3) := by decide +kernel
theorem dX11_kitchen_20 : decode cX11_kitchen 20 = .ok (.aload_n 0, 1) := by decide +kernel
theorem dX11_kitchen_21 : decode cX11_kitchen 21 = .ok (.aload_n 0, 1) := by decide +kernel
theorem dX11_kitchen_22 : decode cX11_kitchen 22 = .ok (.getfield 31, 3) := by decide +kernel
theorem dX11_kitchen_25 : decode cX11_kitchen 25 = .ok (.getfield 105, 3) := by decide +kernel
theorem dX11_kitchen_28 : decode cX11_kitchen 28 = .ok (.getfield 109, 3) := by decide +kernel
theorem dX11_kitchen_31 : decode cX11_kitchen 31 = .ok (.putfield 76, 3) := by decide +kernel
theorem dX11_kitchen_34 : decode cX11_kitchen 34 = .ok (.aload_n 0, 1) := by decide +kernel
theorem dX11_kitchen_35 : decode cX11_kitchen 35 = .ok (.aload_n 0, 1) := by decide +kernel
theorem dX11_kitchen_36 : decode cX11_kitchen 36 = .ok (.getfield 31, 3) := by decide +kernel
theorem dX11_kitchen_39 : decode cX11_kitchen 39 = .ok (.getfield 105, 3) := by decide +kernel
theorem dX11_kitchen_42 : decode cX11_kitchen 42 = .ok (.getfield 112, 3) := by decide +kernel
theorem dX11_kitchen_45 : decode cX11_kitchen 45 = .ok (.putfield 80, 3) := by decide +kernel
theorem dX11_kitchen_48 : decode cX11_kitchen 48 = .ok (.aload_n 0, 1) := by decide +kernel
theorem dX11_kitchen_49 : decode cX11_kitchen 49 = .ok (.getfield 76, 3) := by decide +kernel
theorem dX11_kitchen_52 : decode cX11_kitchen 52 = .ok (.ifCond .eq 9, 3) := by decide +kernel
theorem dX11_kitchen_55 : decode cX11_kitchen 55 = .ok (.aload_n 0, 1) := by decide +kernel
theorem dX11_kitchen_56 : decode cX11_kitchen 56 = .ok (.iconst 1, 1) := by decide +kernel
theorem dX11_kitchen_57 : decode cX11_kitchen 57 = .ok (.invokevirtual 90, 3) := by decide +kernel
theorem dX11_kitchen_60 : decode cX11_kitchen 60 = .ok (.ireturn, 1) := by decide +kernel
theorem dX11_kitchen_61 : decode cX11_kitchen 61 = .ok (.aload_n 0, 1) := by decide +kernel
theorem dX11_kitchen_62 : decode cX11_kitchen 62 = .ok (.getfield 19, 3) := by decide +kernel
theorem dX11_kitchen_65 : decode cX11_kitchen 65 = .ok (.astore_n 2, 1) := by decide +kernel
theorem dX11_kitchen_66 : decode cX11_kitchen 66 = .ok (.aload_n 0, 1) := by decide +kernel
theorem dX11_kitchen_67 : decode cX11_kitchen 67 = .ok (.aload_n 0, 1) := by decide +kernel
theorem dX11_kitchen_68 : decode cX11_kitchen 68 = .ok (.getfield 23, 3) := by decide +kernel
theorem dX11_kitchen_71 : decode cX11_kitchen 71 = .ok (.putfield 19, 3) := by decide +kernel
theorem dX11_kitchen_74 : decode cX11_kitchen 74 = .ok (.aload_n 0, 1) := by decide +kernel
theorem dX11_kitchen_75 : decode cX11_kitchen 75 = .ok (.aload_n 2, 1) := by decide +kernel
theorem dX11_kitchen_76 : decode cX11_kitchen 76 = .ok (.putfield 23, 3) := by decide +kernel
theorem dX11_kitchen_79 : decode cX11_kitchen 79 = .ok (.aload_n 0, 1) := by decide +kernel
theorem dX11_kitchen_80 : decode cX11_kitchen 80 = .ok (.getfield 40, 3) := by decide +kernel
theorem dX11_kitchen_83 : decode cX11_kitchen 83 = .ok (.aload_n 0, 1) := by decide +kernel
theorem dX11_kitchen_84 : decode cX11_kitchen 84 = .ok (.getfield 19, 3) := by decide +kernel
theorem dX11_kitchen_87 : decode cX11_kitchen 87 = .ok (.invokevirtual 113, 3) := by decide +kernel
theorem dX11_kitchen_90 : decode cX11_kitchen 90 = .ok (.aload_n 0, 1) := by decide +kernel
theorem dX11_kitchen_91 : decode cX11_kitchen 91 = .ok (.getfield 61, 3) := by decide +kernel
theorem dX11_kitchen_94 : decode cX11_kitchen 94 = .ok (.invokevirtual 116, 3) := by decide +kernel
theorem dX11_kitchen_97 : decode cX11_kitchen 97 = .ok (.aload_n 0, 1) := by decide +kernel
theorem dX11_kitchen_98 : decode cX11_kitchen 98 = .ok (.getfield 54, 3) := by decide +kernel
theorem dX11_kitchen_101 : decode cX11_kitchen 101 = .ok (.invokevirtual 119, 3) := by decide +kernel
theorem dX11_kitchen_104 : decode cX11_kitchen 104 = .ok (.iload_n 1, 1) := by decide +kernel
theorem dX11_kitchen_105 : decode cX11_kitchen 105 = .ok (.ireturn, 1) := by decide +kernel
theorem dX11_fault_0 : decode cX11_fault 0 = .ok (.iload_n 1, 1) := by decide +kernel
theorem dX11_fault_1 : decode cX11_fault 1 = .ok (.ifCond .ne 8, 3) := by decide +kernel
theorem dX11_fault_4 : decode cX11_fault 4 = .ok (.aload_n 0, 1) := by decide +kernel
theorem dX11_fault_5 : decode cX11_fault 5 = .ok (.getfield 76, 3) := by decide +kernel
theorem dX11_fault_8 : decode cX11_fault 8 = .ok (.ireturn, 1) := by decide +kernel
theorem dX11_fault_9 : decode cX11_fault 9 = .ok (.iload_n 1, 1) := by decide +kernel
theorem dX11_fault_10 : decode cX11_fault 10 = .ok (.iconst 1, 1) := by decide +kernel
theorem dX11_fault_11 : decode cX11_fault 11 = .ok (.if_icmp .ne 10, 3) := by decide +kernel
theorem dX11_fault_14 : decode cX11_fault 14 = .ok (.aload_n 0, 1) := by decide +kernel
theorem dX11_fault_15 : decode cX11_fault 15 = .ok (.getfield 80, 3) := by decide +kernel
theorem dX11_fault_18 : decode cX11_fault 18 = .ok (.goto 4, 3) := by decide +kernel
theorem dX11_fault_21 : decode cX11_fault 21 = .ok (.iconst (-1), 1) := by decide +kernel
theorem dX11_fault_22 : decode cX11_fault 22 = .ok (.ireturn, 1) := by decide +kernel
theorem dX11_has_0 : decode cX11_has 0 = .ok (.iload_n 1, 1) := by decide +kernel
theorem dX11_has_1 : decode cX11_has 1 = .ok (.tableswitch 144 0 10 #[59, 67, 75, 83, 91, 99, 107, 115, 123, 131, 139], 59) := by decide +kernel
theorem dX11_has_60 : decode cX11_has 60 = .ok (.aload_n 0, 1) := by decide +kernel
theorem dX11_has_61 : decode cX11_has 61 = .ok (.getfield 19, 3) := by decide +kernel
theorem dX11_has_64 : decode cX11_has 64 = .ok (.getfield 120, 3) := by decide +kernel
theorem dX11_has_67 : decode cX11_has 67 = .ok (.ireturn, 1) := by decide +kernel
theorem dX11_has_68 : decode cX11_has 68 = .ok (.aload_n 0, 1) := by decide +kernel
theorem dX11_has_69 : decode cX11_has 69 = .ok (.getfield 19, 3) := by decide +kernel
theorem dX11_has_72 : decode cX11_has 72 = .ok (.getfield 123, 3) := by decide +kernel
theorem dX11_has_75 : decode cX11_has 75 = .ok (.ireturn, 1) := by decide +kernel
theorem dX11_has_76 : decode cX11_has 76 = .ok (.aload_n 0, 1) := by decide +kernel
theorem dX11_has_77 : decode cX11_has 77 = .ok (.getfield 19, 3) := by decide +kernel
theorem dX11_has_80 : decode cX11_has 80 = .ok (.getfield 126, 3) := by decide +kernel
theorem dX11_has_83 : decode cX11_has 83 = .ok (.ireturn, 1) := by decide +kernel
theorem dX11_has_84 : decode cX11_has 84 = .ok (.aload_n 0, 1) := by decide +kernel
theorem dX11_has_85 : decode cX11_has 85 = .ok (.getfield 40, 3) := by decide +kernel
theorem dX11_has_88 : decode cX11_has 88 = .ok (.invokevirtual 129, 3) := by decide +kernel
theorem dX11_has_91 : decode cX11_has 91 = .ok (.ireturn, 1) := by decide +kernel
theorem dX11_has_92 : decode cX11_has 92 = .ok (.aload_n 0, 1) := by decide +kernel
theorem dX11_has_93 : decode cX11_has 93 = .ok (.getfield 40, 3) := by decide +kernel
theorem dX11_has_96 : decode cX11_has 96 = .ok (.getfield 133, 3) := by decide +kernel
theorem dX11_has_99 : decode cX11_has 99 = .ok (.ireturn, 1) := by decide +kernel
theorem dX11_has_100 : decode cX11_has 100 = .ok (.aload_n 0, 1) := by decide +kernel
theorem dX11_has_101 : decode cX11_has 101 = .ok (.getfield 40, 3) := by decide +kernel
theorem dX11_has_104 : decode cX11_has 104 = .ok (.getfield 136, 3) := by decide +kernel
theorem dX11_has_107 : decode cX11_has 107 = .ok (.ireturn, 1) := by decide +kernel
theorem dX11_has_108 : decode cX11_has 108 = .ok (.aload_n 0, 1) := by decide +kernel
theorem dX11_has_109 : decode cX11_has 109 = .ok (.getfield 40, 3) := by decide +kernel
theorem dX11_has_112 : decode cX11_has 112 = .ok (.invokevirtual 139, 3) := by decide +kernel
theorem dX11_has_115 : decode cX11_has 115 = .ok (.ireturn, 1) := by decide +kernel
theorem dX11_has_116 : decode cX11_has 116 = .ok (.aload_n 0, 1) := by decide +kernel
theorem dX11_has_117 : decode cX11_has 117 = .ok (.getfield 40, 3) := by decide +kernel
theorem dX11_has_120 : decode cX11_has 120 = .ok (.invokevirtual 142, 3) := by decide +kernel
theorem dX11_has_123 : decode cX11_has 123 = .ok (.ireturn, 1) := by decide +kernel
theorem dX11_has_124 : decode cX11_has 124 = .ok (.aload_n 0, 1) := by decide +kernel
theorem dX11_has_125 : decode cX11_has 125 = .ok (.getfield 61, 3) := by decide +kernel
theorem dX11_has_128 : decode cX11_has 128 = .ok (.invokevirtual 145, 3) := by decide +kernel
theorem dX11_has_131 : decode cX11_has 131 = .ok (.ireturn, 1) := by decide +kernel
theorem dX11_has_132 : decode cX11_has 132 = .ok (.aload_n 0, 1) := by decide +kernel
theorem dX11_has_133 : decode cX11_has 133 = .ok (.getfield 61, 3) := by decide +kernel
theorem dX11_has_136 : decode cX11_has 136 = .ok (.getfield 148, 3) := by decide +kernel
theorem dX11_has_139 : decode cX11_has 139 = .ok (.ireturn, 1) := by decide +kernel
theorem dX11_has_140 : decode cX11_has 140 = .ok (.aload_n 0, 1) := by decide +kernel
theorem dX11_has_141 : decode cX11_has 141 = .ok (.getfield 83, 3) := by decide +kernel
theorem dX11_has_144 : decode cX11_has 144 = .ok (.ireturn, 1) := by decide +kernel
theorem dX11_has_145 : decode cX11_has 145 = .ok (.iconst (-1), 1) := by decide +kernel
theorem dX11_has_146 : decode cX11_has 146 = .ok (.ireturn, 1) := by decide +kernel
theorem dX11_letter_0 : decode cX11_letter 0 = .ok (.aload_n 0, 1) := by decide +kernel
theorem dX11_letter_1 : decode cX11_letter 1 = .ok (.getfield 19, 3) := by decide +kernel
theorem dX11_letter_4 : decode cX11_letter 4 = .ok (.iload_n 1, 1) := by decide +kernel
theorem dX11_letter_5 : decode cX11_letter 5 = .ok (.invokevirtual 151, 3) := by decide +kernel
theorem dX11_letter_8 : decode cX11_letter 8 = .ok (.ifCond .eq 13, 3) := by decide +kernel
theorem dX11_letter_11 : decode cX11_letter 11 = .ok (.iload_n 2, 1) := by decide +kernel
theorem dX11_letter_12 : decode cX11_letter 12 = .ok (.ifCond .lt 9, 3) := by decide +kernel
theorem dX11_letter_15 : decode cX11_letter 15 = .ok (.iload_n 2, 1) := by decide +kernel
theorem dX11_letter_16 : decode cX11_letter 16 = .ok (.bipush 6, 2) := by decide +kernel
theorem dX11_letter_18 : decode cX11_letter 18 = .ok (.if_icmp .lt 5, 3) := by decide +kernel
theorem dX11_letter_21 : decode cX11_letter 21 = .ok (.iconst (-1), 1) := by decide +kernel
theorem dX11_letter_22 : decode cX11_letter 22 = .ok (.ireturn, 1) := by decide +kernel
theorem dX11_letter_23 : decode cX11_letter 23 = .ok (.aload_n 0, 1) := by decide +kernel
theorem dX11_letter_24 : decode cX11_letter 24 = .ok (.getfield 19, 3) := by decide +kernel
theorem dX11_letter_27 : decode cX11_letter 27 = .ok (.getfield 154, 3) := by decide +kernel
theorem dX11_letter_30 : decode cX11_letter 30 = .ok (.iload_n 1, 1) := by decide +kernel
theorem dX11_letter_31 : decode cX11_letter 31 = .ok (.iaload, 1) := by decide +kernel
theorem dX11_letter_32 : decode cX11_letter 32 = .ok (.iload_n 2, 1) := by decide +kernel
theorem dX11_letter_33 : decode cX11_letter 33 = .ok (.invokestatic 157, 3) := by decide +kernel
theorem dX11_letter_36 : decode cX11_letter 36 = .ok (.ishr, 1) := by decide +kernel
theorem dX11_letter_37 : decode cX11_letter 37 = .ok (.bipush 31, 2) := by decide +kernel
theorem dX11_letter_39 : decode cX11_letter 39 = .ok (.iand, 1) := by decide +kernel
theorem dX11_letter_40 : decode cX11_letter 40 = .ok (.ireturn, 1) := by decide +kernel
theorem dX11_cell_0 : decode cX11_cell 0 = .ok (.aload_n 0, 1) := by decide +kernel
theorem dX11_cell_1 : decode cX11_cell 1 = .ok (.getfield 19, 3) := by decide +kernel
theorem dX11_cell_4 : decode cX11_cell 4 = .ok (.iload_n 1, 1) := by decide +kernel
theorem dX11_cell_5 : decode cX11_cell 5 = .ok (.iload_n 2, 1) := by decide +kernel
theorem dX11_cell_6 : decode cX11_cell 6 = .ok (.invokevirtual 160, 3) := by decide +kernel
theorem dX11_cell_9 : decode cX11_cell 9 = .ok (.ifCond .ne 5, 3) := by decide +kernel
theorem dX11_cell_12 : decode cX11_cell 12 = .ok (.iconst (-1), 1) := by decide +kernel
theorem dX11_cell_13 : decode cX11_cell 13 = .ok (.ireturn, 1) := by decide +kernel
theorem dX11_cell_14 : decode cX11_cell 14 = .ok (.iload_n 3, 1) := by decide +kernel
theorem dX11_cell_15 : decode cX11_cell 15 = .ok (.tableswitch 63 0 2 #[25, 35, 53], 25) := by decide +kernel
theorem dX11_cell_40 : decode cX11_cell 40 = .ok (.aload_n 0, 1) := by decide +kernel
theorem dX11_cell_41 : decode cX11_cell 41 = .ok (.getfield 19, 3) := by decide +kernel
theorem dX11_cell_44 : decode cX11_cell 44 = .ok (.iload_n 1, 1) := by decide +kernel
theorem dX11_cell_45 : decode cX11_cell 45 = .ok (.iload_n 2, 1) := by decide +kernel
theorem dX11_cell_46 : decode cX11_cell 46 = .ok (.invokevirtual 164, 3) := by decide +kernel
theorem dX11_cell_49 : decode cX11_cell 49 = .ok (.ireturn, 1) := by decide +kernel
theorem dX11_cell_50 : decode cX11_cell 50 = .ok (.aload_n 0, 1) := by decide +kernel
theorem dX11_cell_51 : decode cX11_cell 51 = .ok (.getfield 40, 3) := by decide +kernel
theorem dX11_cell_54 : decode cX11_cell 54 = .ok (.iload_n 1, 1) := by decide +kernel
theorem dX11_cell_55 : decode cX11_cell 55 = .ok (.iload_n 2, 1) := by decide +kernel
theorem dX11_cell_56 : decode cX11_cell 56 = .ok (.invokevirtual 168, 3) := by decide +kernel
theorem dX11_cell_59 : decode cX11_cell 59 = .ok (.ifCond .eq 7, 3) := by decide +kernel
theorem dX11_cell_62 : decode cX11_cell 62 = .ok (.iconst 1, 1) := by decide +kernel
theorem dX11_cell_63 : decode cX11_cell 63 = .ok (.goto 4, 3) := by decide +kernel
theorem dX11_cell_66 : decode cX11_cell 66 = .ok (.iconst 0, 1) := by decide +kernel
theorem dX11_cell_67 : decode cX11_cell 67 = .ok (.ireturn, 1) := by decide +kernel
theorem dX11_cell_68 : decode cX11_cell 68 = .ok (.aload_n 0, 1) := by decide +kernel
theorem dX11_cell_69 : decode cX11_cell 69 = .ok (.getfield 40, 3) := by decide +kernel
theorem dX11_cell_72 : decode cX11_cell 72 = .ok (.iload_n 1, 1) := by decide +kernel
theorem dX11_cell_73 : decode cX11_cell 73 = .ok (.iload_n 2, 1) := by decide +kernel
theorem dX11_cell_74 : decode cX11_cell 74 = .ok (.invokevirtual 171, 3) := by decide +kernel
theorem dX11_cell_77 : decode cX11_cell 77 = .ok (.ireturn, 1) := by decide +kernel
theorem dX11_cell_78 : decode cX11_cell 78 = .ok (.iconst (-1), 1) := by decide +kernel
theorem dX11_cell_79 : decode cX11_cell 79 = .ok (.ireturn, 1) := by decide +kernel
theorem dX11_box_0 : decode cX11_box 0 = .ok (.aload_n 0, 1) := by decide +kernel
theorem dX11_box_1 : decode cX11_box 1 = .ok (.getfield 19, 3) := by decide +kernel
theorem dX11_box_4 : decode cX11_box 4 = .ok (.iload_n 1, 1) := by decide +kernel
theorem dX11_box_5 : decode cX11_box 5 = .ok (.invokevirtual 151, 3) := by decide +kernel
theorem dX11_box_8 : decode cX11_box 8 = .ok (.ifCond .eq 13, 3) := by decide +kernel
theorem dX11_box_11 : decode cX11_box 11 = .ok (.iload_n 2, 1) := by decide +kernel
theorem dX11_box_12 : decode cX11_box 12 = .ok (.ifCond .lt 9, 3) := by decide +kernel
theorem dX11_box_15 : decode cX11_box 15 = .ok (.iload_n 2, 1) := by decide +kernel
theorem dX11_box_16 : decode cX11_box 16 = .ok (.bipush 7, 2) := by decide +kernel
theorem dX11_box_18 : decode cX11_box 18 = .ok (.if_icmp .le 5, 3) := by decide +kernel
theorem dX11_box_21 : decode cX11_box 21 = .ok (.iconst (-1), 1) := by decide +kernel
theorem dX11_box_22 : decode cX11_box 22 = .ok (.ireturn, 1) := by decide +kernel
theorem dX11_box_23 : decode cX11_box 23 = .ok (.aload_n 0, 1) := by decide +kernel
theorem dX11_box_24 : decode cX11_box 24 = .ok (.getfield 40, 3) := by decide +kernel
theorem dX11_box_27 : decode cX11_box 27 = .ok (.iload_n 1, 1) := by decide +kernel
theorem dX11_box_28 : decode cX11_box 28 = .ok (.iload_n 2, 1) := by decide +kernel
theorem dX11_box_29 : decode cX11_box 29 = .ok (.invokevirtual 174, 3) := by decide +kernel
theorem dX11_box_32 : decode cX11_box 32 = .ok (.ireturn, 1) := by decide +kernel
theorem dX11_sees_0 : decode cX11_sees 0 = .ok (.aload_n 0, 1) := by decide +kernel
theorem dX11_sees_1 : decode cX11_sees 1 = .ok (.getfield 19, 3) := by decide +kernel
theorem dX11_sees_4 : decode cX11_sees 4 = .ok (.iload_n 1, 1) := by decide +kernel
theorem dX11_sees_5 : decode cX11_sees 5 = .ok (.invokevirtual 151, 3) := by decide +kernel
theorem dX11_sees_8 : decode cX11_sees 8 = .ok (.ifCond .ne 5, 3) := by decide +kernel
theorem dX11_sees_11 : decode cX11_sees 11 = .ok (.iconst (-1), 1) := by decide +kernel
theorem dX11_sees_12 : decode cX11_sees 12 = .ok (.ireturn, 1) := by decide +kernel
theorem dX11_sees_13 : decode cX11_sees 13 = .ok (.iload_n 2, 1) := by decide +kernel
theorem dX11_sees_14 : decode cX11_sees 14 = .ok (.tableswitch 56 0 2 #[26, 36, 46], 26) := by decide +kernel
theorem dX11_sees_40 : decode cX11_sees 40 = .ok (.aload_n 0, 1) := by decide +kernel
theorem dX11_sees_41 : decode cX11_sees 41 = .ok (.getfield 40, 3) := by decide +kernel
theorem dX11_sees_44 : decode cX11_sees 44 = .ok (.iload_n 1, 1) := by decide +kernel
theorem dX11_sees_45 : decode cX11_sees 45 = .ok (.iconst (-1), 1) := by decide +kernel
theorem dX11_sees_46 : decode cX11_sees 46 = .ok (.invokevirtual 177, 3) := by decide +kernel
theorem dX11_sees_49 : decode cX11_sees 49 = .ok (.ireturn, 1) := by decide +kernel
theorem dX11_sees_50 : decode cX11_sees 50 = .ok (.aload_n 0, 1) := by decide +kernel
theorem dX11_sees_51 : decode cX11_sees 51 = .ok (.getfield 40, 3) := by decide +kernel
theorem dX11_sees_54 : decode cX11_sees 54 = .ok (.iload_n 1, 1) := by decide +kernel
theorem dX11_sees_55 : decode cX11_sees 55 = .ok (.iconst 1, 1) := by decide +kernel
theorem dX11_sees_56 : decode cX11_sees 56 = .ok (.invokevirtual 177, 3) := by decide +kernel
theorem dX11_sees_59 : decode cX11_sees 59 = .ok (.ireturn, 1) := by decide +kernel
theorem dX11_sees_60 : decode cX11_sees 60 = .ok (.aload_n 0, 1) := by decide +kernel
theorem dX11_sees_61 : decode cX11_sees 61 = .ok (.getfield 40, 3) := by decide +kernel
theorem dX11_sees_64 : decode cX11_sees 64 = .ok (.iload_n 1, 1) := by decide +kernel
theorem dX11_sees_65 : decode cX11_sees 65 = .ok (.iconst 0, 1) := by decide +kernel
theorem dX11_sees_66 : decode cX11_sees 66 = .ok (.invokevirtual 177, 3) := by decide +kernel
theorem dX11_sees_69 : decode cX11_sees 69 = .ok (.ireturn, 1) := by decide +kernel
theorem dX11_sees_70 : decode cX11_sees 70 = .ok (.iconst (-1), 1) := by decide +kernel
theorem dX11_sees_71 : decode cX11_sees 71 = .ok (.ireturn, 1) := by decide +kernel
theorem dX11_later_0 : decode cX11_later 0 = .ok (.aload_n 0, 1) := by decide +kernel
theorem dX11_later_1 : decode cX11_later 1 = .ok (.getfield 19, 3) := by decide +kernel
theorem dX11_later_4 : decode cX11_later 4 = .ok (.iload_n 1, 1) := by decide +kernel
theorem dX11_later_5 : decode cX11_later 5 = .ok (.invokevirtual 151, 3) := by decide +kernel
theorem dX11_later_8 : decode cX11_later 8 = .ok (.ifCond .eq 26, 3) := by decide +kernel
theorem dX11_later_11 : decode cX11_later 11 = .ok (.aload_n 0, 1) := by decide +kernel
theorem dX11_later_12 : decode cX11_later 12 = .ok (.getfield 40, 3) := by decide +kernel
theorem dX11_later_15 : decode cX11_later 15 = .ok (.iload_n 2, 1) := by decide +kernel
theorem dX11_later_16 : decode cX11_later 16 = .ok (.iconst 0, 1) := by decide +kernel
theorem dX11_later_17 : decode cX11_later 17 = .ok (.bipush 80, 2) := by decide +kernel
theorem dX11_later_19 : decode cX11_later 19 = .ok (.invokevirtual 180, 3) := by decide +kernel
theorem dX11_later_22 : decode cX11_later 22 = .ok (.ifCond .eq 12, 3) := by decide +kernel
theorem dX11_later_25 : decode cX11_later 25 = .ok (.iload_n 3, 1) := by decide +kernel
theorem dX11_later_26 : decode cX11_later 26 = .ok (.ifCond .lt 8, 3) := by decide +kernel
theorem dX11_later_29 : decode cX11_later 29 = .ok (.iload_n 3, 1) := by decide +kernel
theorem dX11_later_30 : decode cX11_later 30 = .ok (.iconst 4, 1) := by decide +kernel
theorem dX11_later_31 : decode cX11_later 31 = .ok (.if_icmp .le 5, 3) := by decide +kernel
theorem dX11_later_34 : decode cX11_later 34 = .ok (.iconst (-1), 1) := by decide +kernel
theorem dX11_later_35 : decode cX11_later 35 = .ok (.ireturn, 1) := by decide +kernel
theorem dX11_later_36 : decode cX11_later 36 = .ok (.aload_n 0, 1) := by decide +kernel
theorem dX11_later_37 : decode cX11_later 37 = .ok (.getfield 47, 3) := by decide +kernel
theorem dX11_later_40 : decode cX11_later 40 = .ok (.aload_n 0, 1) := by decide +kernel
theorem dX11_later_41 : decode cX11_later 41 = .ok (.getfield 40, 3) := by decide +kernel
theorem dX11_later_44 : decode cX11_later 44 = .ok (.iload_n 1, 1) := by decide +kernel
theorem dX11_later_45 : decode cX11_later 45 = .ok (.iload_n 2, 1) := by decide +kernel
theorem dX11_later_46 : decode cX11_later 46 = .ok (.iload_n 3, 1) := by decide +kernel
theorem dX11_later_47 : decode cX11_later 47 = .ok (.invokevirtual 184, 3) := by decide +kernel
theorem dX11_later_50 : decode cX11_later 50 = .ok (.ireturn, 1) := by decide +kernel
theorem dX11_round_0 : decode cX11_round 0 = .ok (.aload_n 0, 1) := by decide +kernel
theorem dX11_round_1 : decode cX11_round 1 = .ok (.getfield 19, 3) := by decide +kernel
theorem dX11_round_4 : decode cX11_round 4 = .ok (.iload_n 1, 1) := by decide +kernel
theorem dX11_round_5 : decode cX11_round 5 = .ok (.invokevirtual 151, 3) := by decide +kernel
theorem dX11_round_8 : decode cX11_round 8 = .ok (.ifCond .eq 18, 3) := by decide +kernel
theorem dX11_round_11 : decode cX11_round 11 = .ok (.aload_n 0, 1) := by decide +kernel
theorem dX11_round_12 : decode cX11_round 12 = .ok (.getfield 47, 3) := by decide +kernel
theorem dX11_round_15 : decode cX11_round 15 = .ok (.aload_n 0, 1) := by decide +kernel
theorem dX11_round_16 : decode cX11_round 16 = .ok (.getfield 40, 3) := by decide +kernel
theorem dX11_round_19 : decode cX11_round 19 = .ok (.iload_n 1, 1) := by decide +kernel
theorem dX11_round_20 : decode cX11_round 20 = .ok (.invokevirtual 188, 3) := by decide +kernel
theorem dX11_round_23 : decode cX11_round 23 = .ok (.goto 4, 3) := by decide +kernel
theorem dX11_round_26 : decode cX11_round 26 = .ok (.iconst (-1), 1) := by decide +kernel
theorem dX11_round_27 : decode cX11_round 27 = .ok (.ireturn, 1) := by decide +kernel
theorem dX11_loses_0 : decode cX11_loses 0 = .ok (.aload_n 0, 1) := by decide +kernel
theorem dX11_loses_1 : decode cX11_loses 1 = .ok (.getfield 19, 3) := by decide +kernel
theorem dX11_loses_4 : decode cX11_loses 4 = .ok (.iload_n 1, 1) := by decide +kernel
theorem dX11_loses_5 : decode cX11_loses 5 = .ok (.invokevirtual 151, 3) := by decide +kernel
theorem dX11_loses_8 : decode cX11_loses 8 = .ok (.ifCond .eq 14, 3) := by decide +kernel
theorem dX11_loses_11 : decode cX11_loses 11 = .ok (.iload_n 2, 1) := by decide +kernel
theorem dX11_loses_12 : decode cX11_loses 12 = .ok (.iconst 1, 1) := by decide +kernel
theorem dX11_loses_13 : decode cX11_loses 13 = .ok (.if_icmp .lt 9, 3) := by decide +kernel
theorem dX11_loses_16 : decode cX11_loses 16 = .ok (.iload_n 2, 1) := by decide +kernel
theorem dX11_loses_17 : decode cX11_loses 17 = .ok (.bipush 99, 2) := by decide +kernel
theorem dX11_loses_19 : decode cX11_loses 19 = .ok (.if_icmp .le 5, 3) := by decide +kernel
theorem dX11_loses_22 : decode cX11_loses 22 = .ok (.iconst (-1), 1) := by decide +kernel
theorem dX11_loses_23 : decode cX11_loses 23 = .ok (.ireturn, 1) := by decide +kernel
theorem dX11_loses_24 : decode cX11_loses 24 = .ok (.aload_n 0, 1) := by decide +kernel
theorem dX11_loses_25 : decode cX11_loses 25 = .ok (.getfield 47, 3) := by decide +kernel
theorem dX11_loses_28 : decode cX11_loses 28 = .ok (.aload_n 0, 1) := by decide +kernel
theorem dX11_loses_29 : decode cX11_loses 29 = .ok (.getfield 40, 3) := by decide +kernel
theorem dX11_loses_32 : decode cX11_loses 32 = .ok (.iload_n 1, 1) := by decide +kernel
theorem dX11_loses_33 : decode cX11_loses 33 = .ok (.iload_n 2, 1) := by decide +kernel
theorem dX11_loses_34 : decode cX11_loses 34 = .ok (.invokevirtual 192, 3) := by decide +kernel
theorem dX11_loses_37 : decode cX11_loses 37 = .ok (.ireturn, 1) := by decide +kernel
theorem dX11_jam_0 : decode cX11_jam 0 = .ok (.aload_n 0, 1) := by decide +kernel
theorem dX11_jam_1 : decode cX11_jam 1 = .ok (.getfield 47, 3) := by decide +kernel
theorem dX11_jam_4 : decode cX11_jam 4 = .ok (.aload_n 0, 1) := by decide +kernel
theorem dX11_jam_5 : decode cX11_jam 5 = .ok (.getfield 40, 3) := by decide +kernel
theorem dX11_jam_8 : decode cX11_jam 8 = .ok (.invokevirtual 196, 3) := by decide +kernel
theorem dX11_jam_11 : decode cX11_jam 11 = .ok (.ireturn, 1) := by decide +kernel
theorem dX11_gap_0 : decode cX11_gap 0 = .ok (.aload_n 0, 1) := by decide +kernel
theorem dX11_gap_1 : decode cX11_gap 1 = .ok (.getfield 19, 3) := by decide +kernel
theorem dX11_gap_4 : decode cX11_gap 4 = .ok (.iload_n 1, 1) := by decide +kernel
theorem dX11_gap_5 : decode cX11_gap 5 = .ok (.invokevirtual 151, 3) := by decide +kernel
theorem dX11_gap_8 : decode cX11_gap 8 = .ok (.ifCond .eq 19, 3) := by decide +kernel
theorem dX11_gap_11 : decode cX11_gap 11 = .ok (.aload_n 0, 1) := by decide +kernel
theorem dX11_gap_12 : decode cX11_gap 12 = .ok (.getfield 19, 3) := by decide +kernel
theorem dX11_gap_15 : decode cX11_gap 15 = .ok (.iload_n 2, 1) := by decide +kernel
theorem dX11_gap_16 : decode cX11_gap 16 = .ok (.invokevirtual 151, 3) := by decide +kernel
theorem dX11_gap_19 : decode cX11_gap 19 = .ok (.ifCond .eq 8, 3) := by decide +kernel
theorem dX11_gap_22 : decode cX11_gap 22 = .ok (.iload_n 1, 1) := by decide +kernel
theorem dX11_gap_23 : decode cX11_gap 23 = .ok (.iload_n 2, 1) := by decide +kernel
theorem dX11_gap_24 : decode cX11_gap 24 = .ok (.if_icmp .ne 5, 3) := by decide +kernel
theorem dX11_gap_27 : decode cX11_gap 27 = .ok (.iconst (-1), 1) := by decide +kernel
theorem dX11_gap_28 : decode cX11_gap 28 = .ok (.ireturn, 1) := by decide +kernel
theorem dX11_gap_29 : decode cX11_gap 29 = .ok (.aload_n 0, 1) := by decide +kernel
theorem dX11_gap_30 : decode cX11_gap 30 = .ok (.getfield 40, 3) := by decide +kernel
theorem dX11_gap_33 : decode cX11_gap 33 = .ok (.iload_n 3, 1) := by decide +kernel
theorem dX11_gap_34 : decode cX11_gap 34 = .ok (.iconst 0, 1) := by decide +kernel
theorem dX11_gap_35 : decode cX11_gap 35 = .ok (.bipush 80, 2) := by decide +kernel
theorem dX11_gap_37 : decode cX11_gap 37 = .ok (.invokevirtual 180, 3) := by decide +kernel
theorem dX11_gap_40 : decode cX11_gap 40 = .ok (.ifCond .eq 20, 3) := by decide +kernel
theorem dX11_gap_43 : decode cX11_gap 43 = .ok (.aload_n 0, 1) := by decide +kernel
theorem dX11_gap_44 : decode cX11_gap 44 = .ok (.getfield 47, 3) := by decide +kernel
theorem dX11_gap_47 : decode cX11_gap 47 = .ok (.aload_n 0, 1) := by decide +kernel
theorem dX11_gap_48 : decode cX11_gap 48 = .ok (.getfield 40, 3) := by decide +kernel
theorem dX11_gap_51 : decode cX11_gap 51 = .ok (.iload_n 1, 1) := by decide +kernel
theorem dX11_gap_52 : decode cX11_gap 52 = .ok (.iload_n 2, 1) := by decide +kernel
theorem dX11_gap_53 : decode cX11_gap 53 = .ok (.iload_n 3, 1) := by decide +kernel
theorem dX11_gap_54 : decode cX11_gap 54 = .ok (.invokevirtual 200, 3) := by decide +kernel
theorem dX11_gap_57 : decode cX11_gap 57 = .ok (.goto 4, 3) := by decide +kernel
theorem dX11_gap_60 : decode cX11_gap 60 = .ok (.iconst (-1), 1) := by decide +kernel
theorem dX11_gap_61 : decode cX11_gap 61 = .ok (.ireturn, 1) := by decide +kernel
theorem dX11_tuned_0 : decode cX11_tuned 0 = .ok (.aload_n 0, 1) := by decide +kernel
theorem dX11_tuned_1 : decode cX11_tuned 1 = .ok (.getfield 19, 3) := by decide +kernel
theorem dX11_tuned_4 : decode cX11_tuned 4 = .ok (.iload_n 1, 1) := by decide +kernel
theorem dX11_tuned_5 : decode cX11_tuned 5 = .ok (.invokevirtual 151, 3) := by decide +kernel
theorem dX11_tuned_8 : decode cX11_tuned 8 = .ok (.ifCond .eq 26, 3) := by decide +kernel
theorem dX11_tuned_11 : decode cX11_tuned 11 = .ok (.aload_n 0, 1) := by decide +kernel
theorem dX11_tuned_12 : decode cX11_tuned 12 = .ok (.getfield 40, 3) := by decide +kernel
theorem dX11_tuned_15 : decode cX11_tuned 15 = .ok (.iload_n 2, 1) := by decide +kernel
theorem dX11_tuned_16 : decode cX11_tuned 16 = .ok (.iconst 1, 1) := by decide +kernel
theorem dX11_tuned_17 : decode cX11_tuned 17 = .ok (.bipush 60, 2) := by decide +kernel
theorem dX11_tuned_19 : decode cX11_tuned 19 = .ok (.invokevirtual 180, 3) := by decide +kernel
theorem dX11_tuned_22 : decode cX11_tuned 22 = .ok (.ifCond .eq 12, 3) := by decide +kernel
theorem dX11_tuned_25 : decode cX11_tuned 25 = .ok (.iload_n 3, 1) := by decide +kernel
theorem dX11_tuned_26 : decode cX11_tuned 26 = .ok (.ifCond .lt 8, 3) := by decide +kernel
theorem dX11_tuned_29 : decode cX11_tuned 29 = .ok (.iload_n 3, 1) := by decide +kernel
theorem dX11_tuned_30 : decode cX11_tuned 30 = .ok (.iconst 2, 1) := by decide +kernel
theorem dX11_tuned_31 : decode cX11_tuned 31 = .ok (.if_icmp .le 5, 3) := by decide +kernel
theorem dX11_tuned_34 : decode cX11_tuned 34 = .ok (.iconst (-1), 1) := by decide +kernel
theorem dX11_tuned_35 : decode cX11_tuned 35 = .ok (.ireturn, 1) := by decide +kernel
theorem dX11_tuned_36 : decode cX11_tuned 36 = .ok (.aload_n 0, 1) := by decide +kernel
theorem dX11_tuned_37 : decode cX11_tuned 37 = .ok (.getfield 47, 3) := by decide +kernel
theorem dX11_tuned_40 : decode cX11_tuned 40 = .ok (.aload_n 0, 1) := by decide +kernel
theorem dX11_tuned_41 : decode cX11_tuned 41 = .ok (.getfield 40, 3) := by decide +kernel
theorem dX11_tuned_44 : decode cX11_tuned 44 = .ok (.iload_n 1, 1) := by decide +kernel
theorem dX11_tuned_45 : decode cX11_tuned 45 = .ok (.iload_n 2, 1) := by decide +kernel
theorem dX11_tuned_46 : decode cX11_tuned 46 = .ok (.iload_n 3, 1) := by decide +kernel
theorem dX11_tuned_47 : decode cX11_tuned 47 = .ok (.invokevirtual 203, 3) := by decide +kernel
theorem dX11_tuned_50 : decode cX11_tuned 50 = .ok (.ireturn, 1) := by decide +kernel
theorem dX11_found_0 : decode cX11_found 0 = .ok (.aload_n 0, 1) := by decide +kernel
theorem dX11_found_1 : decode cX11_found 1 = .ok (.getfield 19, 3) := by decide +kernel
theorem dX11_found_4 : decode cX11_found 4 = .ok (.iload_n 1, 1) := by decide +kernel
theorem dX11_found_5 : decode cX11_found 5 = .ok (.invokevirtual 151, 3) := by decide +kernel
theorem dX11_found_8 : decode cX11_found 8 = .ok (.ifCond .eq 18, 3) := by decide +kernel
theorem dX11_found_11 : decode cX11_found 11 = .ok (.aload_n 0, 1) := by decide +kernel
theorem dX11_found_12 : decode cX11_found 12 = .ok (.getfield 47, 3) := by decide +kernel
theorem dX11_found_15 : decode cX11_found 15 = .ok (.aload_n 0, 1) := by decide +kernel
theorem dX11_found_16 : decode cX11_found 16 = .ok (.getfield 40, 3) := by decide +kernel
theorem dX11_found_19 : decode cX11_found 19 = .ok (.iload_n 1, 1) := by decide +kernel
theorem dX11_found_20 : decode cX11_found 20 = .ok (.invokevirtual 206, 3) := by decide +kernel
theorem dX11_found_23 : decode cX11_found 23 = .ok (.goto 4, 3) := by decide +kernel
theorem dX11_found_26 : decode cX11_found 26 = .ok (.iconst (-1), 1) := by decide +kernel
theorem dX11_found_27 : decode cX11_found 27 = .ok (.ireturn, 1) := by decide +kernel
theorem dX11_spaced_0 : decode cX11_spaced 0 = .ok (.aload_n 0, 1) := by decide +kernel
theorem dX11_spaced_1 : decode cX11_spaced 1 = .ok (.getfield 40, 3) := by decide +kernel
theorem dX11_spaced_4 : decode cX11_spaced 4 = .ok (.iload_n 1, 1) := by decide +kernel
theorem dX11_spaced_5 : decode cX11_spaced 5 = .ok (.iconst 1, 1) := by decide +kernel
theorem dX11_spaced_6 : decode cX11_spaced 6 = .ok (.bipush 80, 2) := by decide +kernel
theorem dX11_spaced_8 : decode cX11_spaced 8 = .ok (.invokevirtual 180, 3) := by decide +kernel
theorem dX11_spaced_11 : decode cX11_spaced 11 = .ok (.ifCond .eq 18, 3) := by decide +kernel
theorem dX11_spaced_14 : decode cX11_spaced 14 = .ok (.aload_n 0, 1) := by decide +kernel
theorem dX11_spaced_15 : decode cX11_spaced 15 = .ok (.getfield 47, 3) := by decide +kernel
theorem dX11_spaced_18 : decode cX11_spaced 18 = .ok (.aload_n 0, 1) := by decide +kernel
theorem dX11_spaced_19 : decode cX11_spaced 19 = .ok (.getfield 40, 3) := by decide +kernel
theorem dX11_spaced_22 : decode cX11_spaced 22 = .ok (.iload_n 1, 1) := by decide +kernel
theorem dX11_spaced_23 : decode cX11_spaced 23 = .ok (.invokevirtual 209, 3) := by decide +kernel
theorem dX11_spaced_26 : decode cX11_spaced 26 = .ok (.goto 4, 3) := by decide +kernel
theorem dX11_spaced_29 : decode cX11_spaced 29 = .ok (.iconst (-1), 1) := by decide +kernel
theorem dX11_spaced_30 : decode cX11_spaced 30 = .ok (.ireturn, 1) := by decide +kernel
theorem dX11_bright_0 : decode cX11_bright 0 = .ok (.aload_n 0, 1) := by decide +kernel
theorem dX11_bright_1 : decode cX11_bright 1 = .ok (.getfield 40, 3) := by decide +kernel
theorem dX11_bright_4 : decode cX11_bright 4 = .ok (.iload_n 1, 1) := by decide +kernel
theorem dX11_bright_5 : decode cX11_bright 5 = .ok (.iconst 1, 1) := by decide +kernel
theorem dX11_bright_6 : decode cX11_bright 6 = .ok (.bipush 60, 2) := by decide +kernel
theorem dX11_bright_8 : decode cX11_bright 8 = .ok (.invokevirtual 180, 3) := by decide +kernel
theorem dX11_bright_11 : decode cX11_bright 11 = .ok (.ifCond .eq 18, 3) := by decide +kernel
theorem dX11_bright_14 : decode cX11_bright 14 = .ok (.aload_n 0, 1) := by decide +kernel
theorem dX11_bright_15 : decode cX11_bright 15 = .ok (.getfield 47, 3) := by decide +kernel
theorem dX11_bright_18 : decode cX11_bright 18 = .ok (.aload_n 0, 1) := by decide +kernel
theorem dX11_bright_19 : decode cX11_bright 19 = .ok (.getfield 40, 3) := by decide +kernel
theorem dX11_bright_22 : decode cX11_bright 22 = .ok (.iload_n 1, 1) := by decide +kernel
theorem dX11_bright_23 : decode cX11_bright 23 = .ok (.invokevirtual 212, 3) := by decide +kernel
theorem dX11_bright_26 : decode cX11_bright 26 = .ok (.goto 4, 3) := by decide +kernel
theorem dX11_bright_29 : decode cX11_bright 29 = .ok (.iconst (-1), 1) := by decide +kernel
theorem dX11_bright_30 : decode cX11_bright 30 = .ok (.ireturn, 1) := by decide +kernel
theorem dX11_track_0 : decode cX11_track 0 = .ok (.aload_n 0, 1) := by decide +kernel
theorem dX11_track_1 : decode cX11_track 1 = .ok (.getfield 54, 3) := by decide +kernel
theorem dX11_track_4 : decode cX11_track 4 = .ok (.aload_n 0, 1) := by decide +kernel
theorem dX11_track_5 : decode cX11_track 5 = .ok (.getfield 10, 3) := by decide +kernel
theorem dX11_track_8 : decode cX11_track 8 = .ok (.aload_n 0, 1) := by decide +kernel
theorem dX11_track_9 : decode cX11_track 9 = .ok (.getfield 19, 3) := by decide +kernel
theorem dX11_track_12 : decode cX11_track 12 = .ok (.invokevirtual 215, 3) := by decide +kernel
theorem dX11_track_15 : decode cX11_track 15 = .ok (.istore_n 1, 1) := by decide +kernel
theorem dX11_track_16 : decode cX11_track 16 = .ok (.aload_n 0, 1) := by decide +kernel
theorem dX11_track_17 : decode cX11_track 17 = .ok (.getfield 10, 3) := by decide +kernel
theorem dX11_track_20 : decode cX11_track 20 = .ok (.iconst 0, 1) := by decide +kernel
theorem dX11_track_21 : decode cX11_track 21 = .ok (.putfield 98, 3) := by decide +kernel
theorem dX11_track_24 : decode cX11_track 24 = .ok (.iload_n 1, 1) := by decide +kernel
theorem dX11_track_25 : decode cX11_track 25 = .ok (.ifCond .eq 13, 3) := by decide +kernel
theorem dX11_track_28 : decode cX11_track 28 = .ok (.aload_n 0, 1) := by decide +kernel
theorem dX11_track_29 : decode cX11_track 29 = .ok (.getfield 54, 3) := by decide +kernel
theorem dX11_track_32 : decode cX11_track 32 = .ok (.getfield 219, 3) := by decide +kernel
theorem dX11_track_35 : decode cX11_track 35 = .ok (.goto 8, 3) := by decide +kernel
theorem dX11_track_38 : decode cX11_track 38 = .ok (.aload_n 0, 1) := by decide +kernel
theorem dX11_track_39 : decode cX11_track 39 = .ok (.iconst 5, 1) := by decide +kernel
theorem dX11_track_40 : decode cX11_track 40 = .ok (.invokevirtual 90, 3) := by decide +kernel
theorem dX11_track_43 : decode cX11_track 43 = .ok (.ireturn, 1) := by decide +kernel
theorem dX11_wheel_0 : decode cX11_wheel 0 = .ok (.aload_n 0, 1) := by decide +kernel
theorem dX11_wheel_1 : decode cX11_wheel 1 = .ok (.getfield 19, 3) := by decide +kernel
theorem dX11_wheel_4 : decode cX11_wheel 4 = .ok (.iload_n 1, 1) := by decide +kernel
theorem dX11_wheel_5 : decode cX11_wheel 5 = .ok (.invokevirtual 151, 3) := by decide +kernel
theorem dX11_wheel_8 : decode cX11_wheel 8 = .ok (.ifCond .ne 5, 3) := by decide +kernel
theorem dX11_wheel_11 : decode cX11_wheel 11 = .ok (.iconst (-1), 1) := by decide +kernel
theorem dX11_wheel_12 : decode cX11_wheel 12 = .ok (.ireturn, 1) := by decide +kernel
theorem dX11_wheel_13 : decode cX11_wheel 13 = .ok (.iload_n 2, 1) := by decide +kernel
theorem dX11_wheel_14 : decode cX11_wheel 14 = .ok (.ifCond .ne 16, 3) := by decide +kernel
theorem dX11_wheel_17 : decode cX11_wheel 17 = .ok (.aload_n 0, 1) := by decide +kernel
theorem dX11_wheel_18 : decode cX11_wheel 18 = .ok (.getfield 54, 3) := by decide +kernel
theorem dX11_wheel_21 : decode cX11_wheel 21 = .ok (.aload_n 0, 1) := by decide +kernel
theorem dX11_wheel_22 : decode cX11_wheel 22 = .ok (.getfield 40, 3) := by decide +kernel
theorem dX11_wheel_25 : decode cX11_wheel 25 = .ok (.iload_n 1, 1) := by decide +kernel
theorem dX11_wheel_26 : decode cX11_wheel 26 = .ok (.invokevirtual 222, 3) := by decide +kernel
theorem dX11_wheel_29 : decode cX11_wheel 29 = .ok (.ireturn, 1) := by decide +kernel
theorem dX11_wheel_30 : decode cX11_wheel 30 = .ok (.iload_n 2, 1) := by decide +kernel
theorem dX11_wheel_31 : decode cX11_wheel 31 = .ok (.iconst 1, 1) := by decide +kernel
theorem dX11_wheel_32 : decode cX11_wheel 32 = .ok (.if_icmp .ne 18, 3) := by decide +kernel
theorem dX11_wheel_35 : decode cX11_wheel 35 = .ok (.aload_n 0, 1) := by decide +kernel
theorem dX11_wheel_36 : decode cX11_wheel 36 = .ok (.getfield 54, 3) := by decide +kernel
theorem dX11_wheel_39 : decode cX11_wheel 39 = .ok (.aload_n 0, 1) := by decide +kernel
theorem dX11_wheel_40 : decode cX11_wheel 40 = .ok (.getfield 40, 3) := by decide +kernel
theorem dX11_wheel_43 : decode cX11_wheel 43 = .ok (.iload_n 1, 1) := by decide +kernel
theorem dX11_wheel_44 : decode cX11_wheel 44 = .ok (.invokevirtual 225, 3) := by decide +kernel
theorem dX11_wheel_47 : decode cX11_wheel 47 = .ok (.goto 4, 3) := by decide +kernel
theorem dX11_wheel_50 : decode cX11_wheel 50 = .ok (.iconst (-1), 1) := by decide +kernel
theorem dX11_wheel_51 : decode cX11_wheel 51 = .ok (.ireturn, 1) := by decide +kernel
theorem dX11_steps_0 : decode cX11_steps 0 = .ok (.aload_n 0, 1) := by decide +kernel
theorem dX11_steps_1 : decode cX11_steps 1 = .ok (.getfield 40, 3) := by decide +kernel
theorem dX11_steps_4 : decode cX11_steps 4 = .ok (.iload_n 1, 1) := by decide +kernel
theorem dX11_steps_5 : decode cX11_steps 5 = .ok (.iconst 1, 1) := by decide +kernel
theorem dX11_steps_6 : decode cX11_steps 6 = .ok (.bipush 100, 2) := by decide +kernel
theorem dX11_steps_8 : decode cX11_steps 8 = .ok (.invokevirtual 180, 3) := by decide +kernel
theorem dX11_steps_11 : decode cX11_steps 11 = .ok (.ifCond .ne 9, 3) := by decide +kernel
theorem dX11_steps_14 : decode cX11_steps 14 = .ok (.aload_n 0, 1) := by decide +kernel
theorem dX11_steps_15 : decode cX11_steps 15 = .ok (.iconst 2, 1) := by decide +kernel
theorem dX11_steps_16 : decode cX11_steps 16 = .ok (.invokevirtual 90, 3) := by decide +kernel
theorem dX11_steps_19 : decode cX11_steps 19 = .ok (.ireturn, 1) := by decide +kernel
theorem dX11_steps_20 : decode cX11_steps 20 = .ok (.aload_n 0, 1) := by decide +kernel
theorem dX11_steps_21 : decode cX11_steps 21 = .ok (.getfield 61, 3) := by decide +kernel
theorem dX11_steps_24 : decode cX11_steps 24 = .ok (.aload_n 0, 1) := by decide +kernel
theorem dX11_steps_25 : decode cX11_steps 25 = .ok (.getfield 40, 3) := by decide +kernel
theorem dX11_steps_28 : decode cX11_steps 28 = .ok (.invokevirtual 228, 3) := by decide +kernel
theorem dX11_steps_31 : decode cX11_steps 31 = .ok (.iconst 0, 1) := by decide +kernel
theorem dX11_steps_32 : decode cX11_steps 32 = .ok (.istore_n 2, 1) := by decide +kernel
theorem dX11_steps_33 : decode cX11_steps 33 = .ok (.iconst 0, 1) := by decide +kernel
theorem dX11_steps_34 : decode cX11_steps 34 = .ok (.istore_n 3, 1) := by decide +kernel
theorem dX11_steps_35 : decode cX11_steps 35 = .ok (.iload_n 3, 1) := by decide +kernel
theorem dX11_steps_36 : decode cX11_steps 36 = .ok (.iload_n 1, 1) := by decide +kernel
theorem dX11_steps_37 : decode cX11_steps 37 = .ok (.if_icmp .ge 16, 3) := by decide +kernel
theorem dX11_steps_40 : decode cX11_steps 40 = .ok (.iload_n 2, 1) := by decide +kernel
theorem dX11_steps_41 : decode cX11_steps 41 = .ok (.aload_n 0, 1) := by decide +kernel
theorem dX11_steps_42 : decode cX11_steps 42 = .ok (.invokevirtual 232, 3) := by decide +kernel
theorem dX11_steps_45 : decode cX11_steps 45 = .ok (.iadd, 1) := by decide +kernel
theorem dX11_steps_46 : decode cX11_steps 46 = .ok (.istore_n 2, 1) := by decide +kernel
theorem dX11_steps_47 : decode cX11_steps 47 = .ok (.iinc 3 1, 3) := by decide +kernel
theorem dX11_steps_50 : decode cX11_steps 50 = .ok (.goto (-15), 3) := by decide +kernel
theorem dX11_steps_53 : decode cX11_steps 53 = .ok (.iload_n 2, 1) := by decide +kernel
theorem dX11_steps_54 : decode cX11_steps 54 = .ok (.ireturn, 1) := by decide +kernel
theorem dX11_chance_0 : decode cX11_chance 0 = .ok (.aload_n 0, 1) := by decide +kernel
theorem dX11_chance_1 : decode cX11_chance 1 = .ok (.getfield 40, 3) := by decide +kernel
theorem dX11_chance_4 : decode cX11_chance 4 = .ok (.iload_n 1, 1) := by decide +kernel
theorem dX11_chance_5 : decode cX11_chance 5 = .ok (.iconst 1, 1) := by decide +kernel
theorem dX11_chance_6 : decode cX11_chance 6 = .ok (.bipush 100, 2) := by decide +kernel
theorem dX11_chance_8 : decode cX11_chance 8 = .ok (.invokevirtual 180, 3) := by decide +kernel
theorem dX11_chance_11 : decode cX11_chance 11 = .ok (.ifCond .ne 9, 3) := by decide +kernel
theorem dX11_chance_14 : decode cX11_chance 14 = .ok (.aload_n 0, 1) := by decide +kernel
theorem dX11_chance_15 : decode cX11_chance 15 = .ok (.iconst 2, 1) := by decide +kernel
theorem dX11_chance_16 : decode cX11_chance 16 = .ok (.invokevirtual 90, 3) := by decide +kernel
theorem dX11_chance_19 : decode cX11_chance 19 = .ok (.ireturn, 1) := by decide +kernel
theorem dX11_chance_20 : decode cX11_chance 20 = .ok (.aload_n 0, 1) := by decide +kernel
theorem dX11_chance_21 : decode cX11_chance 21 = .ok (.getfield 61, 3) := by decide +kernel
theorem dX11_chance_24 : decode cX11_chance 24 = .ok (.aload_n 0, 1) := by decide +kernel
theorem dX11_chance_25 : decode cX11_chance 25 = .ok (.getfield 40, 3) := by decide +kernel
theorem dX11_chance_28 : decode cX11_chance 28 = .ok (.invokevirtual 228, 3) := by decide +kernel
theorem dX11_chance_31 : decode cX11_chance 31 = .ok (.iconst 0, 1) := by decide +kernel
theorem dX11_chance_32 : decode cX11_chance 32 = .ok (.istore_n 2, 1) := by decide +kernel
theorem dX11_chance_33 : decode cX11_chance 33 = .ok (.iconst 0, 1) := by decide +kernel
theorem dX11_chance_34 : decode cX11_chance 34 = .ok (.istore_n 3, 1) := by decide +kernel
theorem dX11_chance_35 : decode cX11_chance 35 = .ok (.iload_n 3, 1) := by decide +kernel
theorem dX11_chance_36 : decode cX11_chance 36 = .ok (.iload_n 1, 1) := by decide +kernel
theorem dX11_chance_37 : decode cX11_chance 37 = .ok (.if_icmp .ge 29, 3) := by decide +kernel
theorem dX11_chance_40 : decode cX11_chance 40 = .ok (.iload_n 2, 1) := by decide +kernel
theorem dX11_chance_41 : decode cX11_chance 41 = .ok (.aload_n 0, 1) := by decide +kernel
theorem dX11_chance_42 : decode cX11_chance 42 = .ok (.invokevirtual 235, 3) := by decide +kernel
theorem dX11_chance_45 : decode cX11_chance 45 = .ok (.ifCond .eq 7, 3) := by decide +kernel
theorem dX11_chance_48 : decode cX11_chance 48 = .ok (.iconst 1, 1) := by decide +kernel
theorem dX11_chance_49 : decode cX11_chance 49 = .ok (.goto 4, 3) := by decide +kernel
theorem dX11_chance_52 : decode cX11_chance 52 = .ok (.iconst 0, 1) := by decide +kernel
theorem dX11_chance_53 : decode cX11_chance 53 = .ok (.iadd, 1) := by decide +kernel
theorem dX11_chance_54 : decode cX11_chance 54 = .ok (.istore_n 2, 1) := by decide +kernel
theorem dX11_chance_55 : decode cX11_chance 55 = .ok (.aload_n 0, 1) := by decide +kernel
theorem dX11_chance_56 : decode cX11_chance 56 = .ok (.invokevirtual 232, 3) := by decide +kernel
theorem dX11_chance_59 : decode cX11_chance 59 = .ok (.pop, 1) := by decide +kernel
theorem dX11_chance_60 : decode cX11_chance 60 = .ok (.iinc 3 1, 3) := by decide +kernel
theorem dX11_chance_63 : decode cX11_chance 63 = .ok (.goto (-28), 3) := by decide +kernel
theorem dX11_chance_66 : decode cX11_chance 66 = .ok (.iload_n 2, 1) := by decide +kernel
theorem dX11_chance_67 : decode cX11_chance 67 = .ok (.ireturn, 1) := by decide +kernel
theorem dX11_turn_0 : decode cX11_turn 0 = .ok (.aload_n 0, 1) := by decide +kernel
theorem dX11_turn_1 : decode cX11_turn 1 = .ok (.getfield 19, 3) := by decide +kernel
theorem dX11_turn_4 : decode cX11_turn 4 = .ok (.iload_n 1, 1) := by decide +kernel
theorem dX11_turn_5 : decode cX11_turn 5 = .ok (.invokevirtual 151, 3) := by decide +kernel
theorem dX11_turn_8 : decode cX11_turn 8 = .ok (.ifCond .eq 25, 3) := by decide +kernel
theorem dX11_turn_11 : decode cX11_turn 11 = .ok (.iload_n 2, 1) := by decide +kernel
theorem dX11_turn_12 : decode cX11_turn 12 = .ok (.ifCond .lt 21, 3) := by decide +kernel
theorem dX11_turn_15 : decode cX11_turn 15 = .ok (.iload_n 2, 1) := by decide +kernel
theorem dX11_turn_16 : decode cX11_turn 16 = .ok (.iconst 3, 1) := by decide +kernel
theorem dX11_turn_17 : decode cX11_turn 17 = .ok (.if_icmp .gt 16, 3) := by decide +kernel
theorem dX11_turn_20 : decode cX11_turn 20 = .ok (.aload_n 0, 1) := by decide +kernel
theorem dX11_turn_21 : decode cX11_turn 21 = .ok (.getfield 40, 3) := by decide +kernel
theorem dX11_turn_24 : decode cX11_turn 24 = .ok (.iload_n 1, 1) := by decide +kernel
theorem dX11_turn_25 : decode cX11_turn 25 = .ok (.iconst 2, 1) := by decide +kernel
theorem dX11_turn_26 : decode cX11_turn 26 = .ok (.invokevirtual 174, 3) := by decide +kernel
theorem dX11_turn_29 : decode cX11_turn 29 = .ok (.iload_n 2, 1) := by decide +kernel
theorem dX11_turn_30 : decode cX11_turn 30 = .ok (.if_icmp .ne 11, 3) := by decide +kernel
theorem dX11_turn_33 : decode cX11_turn 33 = .ok (.aload_n 0, 1) := by decide +kernel
theorem dX11_turn_34 : decode cX11_turn 34 = .ok (.iconst 3, 1) := by decide +kernel
theorem dX11_turn_35 : decode cX11_turn 35 = .ok (.invokevirtual 90, 3) := by decide +kernel
theorem dX11_turn_38 : decode cX11_turn 38 = .ok (.pop, 1) := by decide +kernel
theorem dX11_turn_39 : decode cX11_turn 39 = .ok (.iconst 0, 1) := by decide +kernel
theorem dX11_turn_40 : decode cX11_turn 40 = .ok (.ireturn, 1) := by decide +kernel
theorem dX11_turn_41 : decode cX11_turn 41 = .ok (.aload_n 0, 1) := by decide +kernel
theorem dX11_turn_42 : decode cX11_turn 42 = .ok (.getfield 61, 3) := by decide +kernel
theorem dX11_turn_45 : decode cX11_turn 45 = .ok (.aload_n 0, 1) := by decide +kernel
theorem dX11_turn_46 : decode cX11_turn 46 = .ok (.getfield 40, 3) := by decide +kernel
theorem dX11_turn_49 : decode cX11_turn 49 = .ok (.invokevirtual 228, 3) := by decide +kernel
theorem dX11_turn_52 : decode cX11_turn 52 = .ok (.aload_n 0, 1) := by decide +kernel
theorem dX11_turn_53 : decode cX11_turn 53 = .ok (.getfield 40, 3) := by decide +kernel
theorem dX11_turn_56 : decode cX11_turn 56 = .ok (.iload_n 1, 1) := by decide +kernel
theorem dX11_turn_57 : decode cX11_turn 57 = .ok (.iconst 2, 1) := by decide +kernel
theorem dX11_turn_58 : decode cX11_turn 58 = .ok (.iload_n 2, 1) := by decide +kernel
theorem dX11_turn_59 : decode cX11_turn 59 = .ok (.invokevirtual 239, 3) := by decide +kernel
theorem dX11_turn_62 : decode cX11_turn 62 = .ok (.iconst 1, 1) := by decide +kernel
theorem dX11_turn_63 : decode cX11_turn 63 = .ok (.ireturn, 1) := by decide +kernel
theorem dX11_put_0 : decode cX11_put 0 = .ok (.aload_n 0, 1) := by decide +kernel
theorem dX11_put_1 : decode cX11_put 1 = .ok (.getfield 19, 3) := by decide +kernel
theorem dX11_put_4 : decode cX11_put 4 = .ok (.iload_n 1, 1) := by decide +kernel
theorem dX11_put_5 : decode cX11_put 5 = .ok (.invokevirtual 151, 3) := by decide +kernel
theorem dX11_put_8 : decode cX11_put 8 = .ok (.ifCond .eq 28, 3) := by decide +kernel
theorem dX11_put_11 : decode cX11_put 11 = .ok (.aload_n 0, 1) := by decide +kernel
theorem dX11_put_12 : decode cX11_put 12 = .ok (.getfield 19, 3) := by decide +kernel
theorem dX11_put_15 : decode cX11_put 15 = .ok (.iload_n 2, 1) := by decide +kernel
theorem dX11_put_16 : decode cX11_put 16 = .ok (.iload_n 3, 1) := by decide +kernel
theorem dX11_put_17 : decode cX11_put 17 = .ok (.invokevirtual 160, 3) := by decide +kernel
theorem dX11_put_20 : decode cX11_put 20 = .ok (.ifCond .eq 16, 3) := by decide +kernel
theorem dX11_put_23 : decode cX11_put 23 = .ok (.aload_n 0, 1) := by decide +kernel
theorem dX11_put_24 : decode cX11_put 24 = .ok (.getfield 40, 3) := by decide +kernel
theorem dX11_put_27 : decode cX11_put 27 = .ok (.iload_n 2, 1) := by decide +kernel
theorem dX11_put_28 : decode cX11_put 28 = .ok (.iload_n 3, 1) := by decide +kernel
theorem dX11_put_29 : decode cX11_put 29 = .ok (.invokevirtual 171, 3) := by decide +kernel
theorem dX11_put_32 : decode cX11_put 32 = .ok (.iconst (-1), 1) := by decide +kernel
theorem dX11_put_33 : decode cX11_put 33 = .ok (.if_icmp .eq 11, 3) := by decide +kernel
theorem dX11_put_36 : decode cX11_put 36 = .ok (.aload_n 0, 1) := by decide +kernel
theorem dX11_put_37 : decode cX11_put 37 = .ok (.iconst 3, 1) := by decide +kernel
theorem dX11_put_38 : decode cX11_put 38 = .ok (.invokevirtual 90, 3) := by decide +kernel
theorem dX11_put_41 : decode cX11_put 41 = .ok (.pop, 1) := by decide +kernel
theorem dX11_put_42 : decode cX11_put 42 = .ok (.iconst 0, 1) := by decide +kernel
theorem dX11_put_43 : decode cX11_put 43 = .ok (.ireturn, 1) := by decide +kernel
theorem dX11_put_44 : decode cX11_put 44 = .ok (.aload_n 0, 1) := by decide +kernel
theorem dX11_put_45 : decode cX11_put 45 = .ok (.getfield 61, 3) := by decide +kernel
theorem dX11_put_48 : decode cX11_put 48 = .ok (.aload_n 0, 1) := by decide +kernel
theorem dX11_put_49 : decode cX11_put 49 = .ok (.getfield 40, 3) := by decide +kernel
theorem dX11_put_52 : decode cX11_put 52 = .ok (.invokevirtual 228, 3) := by decide +kernel
theorem dX11_put_55 : decode cX11_put 55 = .ok (.aload_n 0, 1) := by decide +kernel
theorem dX11_put_56 : decode cX11_put 56 = .ok (.getfield 40, 3) := by decide +kernel
theorem dX11_put_59 : decode cX11_put 59 = .ok (.iload_n 1, 1) := by decide +kernel
theorem dX11_put_60 : decode cX11_put 60 = .ok (.iconst 0, 1) := by decide +kernel
theorem dX11_put_61 : decode cX11_put 61 = .ok (.iload_n 2, 1) := by decide +kernel
theorem dX11_put_62 : decode cX11_put 62 = .ok (.invokevirtual 239, 3) := by decide +kernel
theorem dX11_put_65 : decode cX11_put 65 = .ok (.aload_n 0, 1) := by decide +kernel
theorem dX11_put_66 : decode cX11_put 66 = .ok (.getfield 40, 3) := by decide +kernel
theorem dX11_put_69 : decode cX11_put 69 = .ok (.iload_n 1, 1) := by decide +kernel
theorem dX11_put_70 : decode cX11_put 70 = .ok (.iconst 1, 1) := by decide +kernel
theorem dX11_put_71 : decode cX11_put 71 = .ok (.iload_n 3, 1) := by decide +kernel
theorem dX11_put_72 : decode cX11_put 72 = .ok (.invokevirtual 239, 3) := by decide +kernel
theorem dX11_put_75 : decode cX11_put 75 = .ok (.iconst 1, 1) := by decide +kernel
theorem dX11_put_76 : decode cX11_put 76 = .ok (.ireturn, 1) := by decide +kernel
theorem dX11_shine_0 : decode cX11_shine 0 = .ok (.iload_n 1, 1) := by decide +kernel
theorem dX11_shine_1 : decode cX11_shine 1 = .ok (.ifCond .lt 20, 3) := by decide +kernel
theorem dX11_shine_4 : decode cX11_shine 4 = .ok (.iload_n 1, 1) := by decide +kernel
theorem dX11_shine_5 : decode cX11_shine 5 = .ok (.bipush 9, 2) := by decide +kernel
theorem dX11_shine_7 : decode cX11_shine 7 = .ok (.if_icmp .gt 14, 3) := by decide +kernel
theorem dX11_shine_10 : decode cX11_shine 10 = .ok (.iload_n 1, 1) := by decide +kernel
theorem dX11_shine_11 : decode cX11_shine 11 = .ok (.aload_n 0, 1) := by decide +kernel
theorem dX11_shine_12 : decode cX11_shine 12 = .ok (.getfield 40, 3) := by decide +kernel
theorem dX11_shine_15 : decode cX11_shine 15 = .ok (.getfield 136, 3) := by decide +kernel
theorem dX11_shine_18 : decode cX11_shine 18 = .ok (.if_icmp .ne 11, 3) := by decide +kernel
theorem dX11_shine_21 : decode cX11_shine 21 = .ok (.aload_n 0, 1) := by decide +kernel
theorem dX11_shine_22 : decode cX11_shine 22 = .ok (.iconst 3, 1) := by decide +kernel
theorem dX11_shine_23 : decode cX11_shine 23 = .ok (.invokevirtual 90, 3) := by decide +kernel
theorem dX11_shine_26 : decode cX11_shine 26 = .ok (.pop, 1) := by decide +kernel
theorem dX11_shine_27 : decode cX11_shine 27 = .ok (.iconst 0, 1) := by decide +kernel
theorem dX11_shine_28 : decode cX11_shine 28 = .ok (.ireturn, 1) := by decide +kernel
theorem dX11_shine_29 : decode cX11_shine 29 = .ok (.aload_n 0, 1) := by decide +kernel
theorem dX11_shine_30 : decode cX11_shine 30 = .ok (.getfield 61, 3) := by decide +kernel
theorem dX11_shine_33 : decode cX11_shine 33 = .ok (.aload_n 0, 1) := by decide +kernel
theorem dX11_shine_34 : decode cX11_shine 34 = .ok (.getfield 40, 3) := by decide +kernel
theorem dX11_shine_37 : decode cX11_shine 37 = .ok (.invokevirtual 228, 3) := by decide +kernel
theorem dX11_shine_40 : decode cX11_shine 40 = .ok (.aload_n 0, 1) := by decide +kernel
theorem dX11_shine_41 : decode cX11_shine 41 = .ok (.getfield 40, 3) := by decide +kernel
theorem dX11_shine_44 : decode cX11_shine 44 = .ok (.iload_n 1, 1) := by decide +kernel
theorem dX11_shine_45 : decode cX11_shine 45 = .ok (.putfield 136, 3) := by decide +kernel
theorem dX11_shine_48 : decode cX11_shine 48 = .ok (.iconst 1, 1) := by decide +kernel
theorem dX11_shine_49 : decode cX11_shine 49 = .ok (.ireturn, 1) := by decide +kernel
theorem dX11_undo_0 : decode cX11_undo 0 = .ok (.aload_n 0, 1) := by decide +kernel
theorem dX11_undo_1 : decode cX11_undo 1 = .ok (.getfield 61, 3) := by decide +kernel
theorem dX11_undo_4 : decode cX11_undo 4 = .ok (.getfield 148, 3) := by decide +kernel
theorem dX11_undo_7 : decode cX11_undo 7 = .ok (.ifCond .ne 11, 3) := by decide +kernel
theorem dX11_undo_10 : decode cX11_undo 10 = .ok (.aload_n 0, 1) := by decide +kernel
theorem dX11_undo_11 : decode cX11_undo 11 = .ok (.iconst 4, 1) := by decide +kernel
theorem dX11_undo_12 : decode cX11_undo 12 = .ok (.invokevirtual 90, 3) := by decide +kernel
theorem dX11_undo_15 : decode cX11_undo 15 = .ok (.pop, 1) := by decide +kernel
theorem dX11_undo_16 : decode cX11_undo 16 = .ok (.iconst 0, 1) := by decide +kernel
theorem dX11_undo_17 : decode cX11_undo 17 = .ok (.ireturn, 1) := by decide +kernel
theorem dX11_undo_18 : decode cX11_undo 18 = .ok (.aload_n 0, 1) := by decide +kernel
theorem dX11_undo_19 : decode cX11_undo 19 = .ok (.getfield 61, 3) := by decide +kernel
theorem dX11_undo_22 : decode cX11_undo 22 = .ok (.aload_n 0, 1) := by decide +kernel
theorem dX11_undo_23 : decode cX11_undo 23 = .ok (.getfield 40, 3) := by decide +kernel
theorem dX11_undo_26 : decode cX11_undo 26 = .ok (.invokevirtual 243, 3) := by decide +kernel
theorem dX11_undo_29 : decode cX11_undo 29 = .ok (.iconst 1, 1) := by decide +kernel
theorem dX11_undo_30 : decode cX11_undo 30 = .ok (.ireturn, 1) := by decide +kernel
theorem dX11_seed_0 : decode cX11_seed 0 = .ok (.iload_n 1, 1) := by decide +kernel
theorem dX11_seed_1 : decode cX11_seed 1 = .ok (.ifCond .ge 11, 3) := by decide +kernel
theorem dX11_seed_4 : decode cX11_seed 4 = .ok (.aload_n 0, 1) := by decide +kernel
theorem dX11_seed_5 : decode cX11_seed 5 = .ok (.iconst 5, 1) := by decide +kernel
theorem dX11_seed_6 : decode cX11_seed 6 = .ok (.invokevirtual 90, 3) := by decide +kernel
theorem dX11_seed_9 : decode cX11_seed 9 = .ok (.pop, 1) := by decide +kernel
theorem dX11_seed_10 : decode cX11_seed 10 = .ok (.iconst 0, 1) := by decide +kernel
theorem dX11_seed_11 : decode cX11_seed 11 = .ok (.ireturn, 1) := by decide +kernel
theorem dX11_seed_12 : decode cX11_seed 12 = .ok (.aload_n 0, 1) := by decide +kernel
theorem dX11_seed_13 : decode cX11_seed 13 = .ok (.iload_n 1, 1) := by decide +kernel
theorem dX11_seed_14 : decode cX11_seed 14 = .ok (.putfield 83, 3) := by decide +kernel
theorem dX11_seed_17 : decode cX11_seed 17 = .ok (.iconst 1, 1) := by decide +kernel
theorem dX11_seed_18 : decode cX11_seed 18 = .ok (.ireturn, 1) := by decide +kernel
theorem dX11_kept_0 : decode cX11_kept 0 = .ok (.aload_n 0, 1) := by decide +kernel
theorem dX11_kept_1 : decode cX11_kept 1 = .ok (.getfield 61, 3) := by decide +kernel
theorem dX11_kept_4 : decode cX11_kept 4 = .ok (.iload_n 1, 1) := by decide +kernel
theorem dX11_kept_5 : decode cX11_kept 5 = .ok (.iload_n 2, 1) := by decide +kernel
theorem dX11_kept_6 : decode cX11_kept 6 = .ok (.invokevirtual 246, 3) := by decide +kernel
theorem dX11_kept_9 : decode cX11_kept 9 = .ok (.ireturn, 1) := by decide +kernel
theorem dX11_image_0 : decode cX11_image 0 = .ok (.aload_n 0, 1) := by decide +kernel
theorem dX11_image_1 : decode cX11_image 1 = .ok (.getfield 68, 3) := by decide +kernel
theorem dX11_image_4 : decode cX11_image 4 = .ok (.aload_n 0, 1) := by decide +kernel
theorem dX11_image_5 : decode cX11_image 5 = .ok (.getfield 40, 3) := by decide +kernel
theorem dX11_image_8 : decode cX11_image 8 = .ok (.invokevirtual 249, 3) := by decide +kernel
theorem dX11_image_11 : decode cX11_image 11 = .ok (.ireturn, 1) := by decide +kernel
theorem dX11_octet_0 : decode cX11_octet 0 = .ok (.aload_n 0, 1) := by decide +kernel
theorem dX11_octet_1 : decode cX11_octet 1 = .ok (.getfield 68, 3) := by decide +kernel
theorem dX11_octet_4 : decode cX11_octet 4 = .ok (.iload_n 1, 1) := by decide +kernel
theorem dX11_octet_5 : decode cX11_octet 5 = .ok (.invokevirtual 252, 3) := by decide +kernel
theorem dX11_octet_8 : decode cX11_octet 8 = .ok (.ireturn, 1) := by decide +kernel
theorem dX11_on_0 : decode cX11_on 0 = .ok (.aload_n 0, 1) := by decide +kernel
theorem dX11_on_1 : decode cX11_on 1 = .ok (.getfield 68, 3) := by decide +kernel
theorem dX11_on_4 : decode cX11_on 4 = .ok (.aload_n 0, 1) := by decide +kernel
theorem dX11_on_5 : decode cX11_on 5 = .ok (.getfield 40, 3) := by decide +kernel
theorem dX11_on_8 : decode cX11_on 8 = .ok (.aload_n 0, 1) := by decide +kernel
theorem dX11_on_9 : decode cX11_on 9 = .ok (.getfield 10, 3) := by decide +kernel
theorem dX11_on_12 : decode cX11_on 12 = .ok (.invokevirtual 255, 3) := by decide +kernel
theorem dX11_on_15 : decode cX11_on 15 = .ok (.istore_n 1, 1) := by decide +kernel
theorem dX11_on_16 : decode cX11_on 16 = .ok (.aload_n 0, 1) := by decide +kernel
theorem dX11_on_17 : decode cX11_on 17 = .ok (.getfield 10, 3) := by decide +kernel
theorem dX11_on_20 : decode cX11_on 20 = .ok (.iconst 0, 1) := by decide +kernel
theorem dX11_on_21 : decode cX11_on 21 = .ok (.putfield 98, 3) := by decide +kernel
theorem dX11_on_24 : decode cX11_on 24 = .ok (.iload_n 1, 1) := by decide +kernel
theorem dX11_on_25 : decode cX11_on 25 = .ok (.ifCond .ne 11, 3) := by decide +kernel
theorem dX11_on_28 : decode cX11_on 28 = .ok (.aload_n 0, 1) := by decide +kernel
theorem dX11_on_29 : decode cX11_on 29 = .ok (.iconst 5, 1) := by decide +kernel
theorem dX11_on_30 : decode cX11_on 30 = .ok (.invokevirtual 90, 3) := by decide +kernel
theorem dX11_on_33 : decode cX11_on 33 = .ok (.pop, 1) := by decide +kernel
theorem dX11_on_34 : decode cX11_on 34 = .ok (.iconst 0, 1) := by decide +kernel
theorem dX11_on_35 : decode cX11_on 35 = .ok (.ireturn, 1) := by decide +kernel
theorem dX11_on_36 : decode cX11_on 36 = .ok (.aload_n 0, 1) := by decide +kernel
theorem dX11_on_37 : decode cX11_on 37 = .ok (.getfield 61, 3) := by decide +kernel
theorem dX11_on_40 : decode cX11_on 40 = .ok (.invokevirtual 116, 3) := by decide +kernel
theorem dX11_on_43 : decode cX11_on 43 = .ok (.iconst 1, 1) := by decide +kernel
theorem dX11_on_44 : decode cX11_on 44 = .ok (.ireturn, 1) := by decide +kernel
theorem dX11_status_0 : decode cX11_status 0 = .ok (.iload_n 1, 1) := by decide +kernel
theorem dX11_status_1 : decode cX11_status 1 = .ok (.ifCond .lt 12, 3) := by decide +kernel
theorem dX11_status_4 : decode cX11_status 4 = .ok (.iload_n 1, 1) := by decide +kernel
theorem dX11_status_5 : decode cX11_status 5 = .ok (.aload_n 0, 1) := by decide +kernel
theorem dX11_status_6 : decode cX11_status 6 = .ok (.getfield 72, 3) := by decide +kernel
theorem dX11_status_9 : decode cX11_status 9 = .ok (.arraylength, 1) := by decide +kernel
theorem dX11_status_10 : decode cX11_status 10 = .ok (.if_icmp .lt 7, 3) := by decide +kernel
theorem dX11_status_13 : decode cX11_status 13 = .ok (.iconst (-1), 1) := by decide +kernel
theorem dX11_status_14 : decode cX11_status 14 = .ok (.goto 9, 3) := by decide +kernel
theorem dX11_status_17 : decode cX11_status 17 = .ok (.aload_n 0, 1) := by decide +kernel
theorem dX11_status_18 : decode cX11_status 18 = .ok (.getfield 72, 3) := by decide +kernel
theorem dX11_status_21 : decode cX11_status 21 = .ok (.iload_n 1, 1) := by decide +kernel
theorem dX11_status_22 : decode cX11_status 22 = .ok (.iaload, 1) := by decide +kernel
theorem dX11_status_23 : decode cX11_status 23 = .ok (.ireturn, 1) := by decide +kernel
theorem dX11_refuse_0 : decode cX11_refuse 0 = .ok (.iload_n 1, 1) := by decide +kernel
theorem dX11_refuse_1 : decode cX11_refuse 1 = .ok (.ifCond .lt 22, 3) := by decide +kernel
theorem dX11_refuse_4 : decode cX11_refuse 4 = .ok (.iload_n 1, 1) := by decide +kernel
theorem dX11_refuse_5 : decode cX11_refuse 5 = .ok (.aload_n 0, 1) := by decide +kernel
theorem dX11_refuse_6 : decode cX11_refuse 6 = .ok (.getfield 72, 3) := by decide +kernel
theorem dX11_refuse_9 : decode cX11_refuse 9 = .ok (.arraylength, 1) := by decide +kernel
theorem dX11_refuse_10 : decode cX11_refuse 10 = .ok (.if_icmp .ge 13, 3) := by decide +kernel
theorem dX11_refuse_13 : decode cX11_refuse 13 = .ok (.aload_n 0, 1) := by decide +kernel
theorem dX11_refuse_14 : decode cX11_refuse 14 = .ok (.getfield 72, 3) := by decide +kernel
theorem dX11_refuse_17 : decode cX11_refuse 17 = .ok (.iload_n 1, 1) := by decide +kernel
theorem dX11_refuse_18 : decode cX11_refuse 18 = .ok (.dup2, 1) := by decide +kernel
theorem dX11_refuse_19 : decode cX11_refuse 19 = .ok (.iaload, 1) := by decide +kernel
theorem dX11_refuse_20 : decode cX11_refuse 20 = .ok (.iconst 1, 1) := by decide +kernel
theorem dX11_refuse_21 : decode cX11_refuse 21 = .ok (.iadd, 1) := by decide +kernel
theorem dX11_refuse_22 : decode cX11_refuse 22 = .ok (.iastore, 1) := by decide +kernel
theorem dX11_refuse_23 : decode cX11_refuse 23 = .ok (.iconst (-1), 1) := by decide +kernel
theorem dX11_refuse_24 : decode cX11_refuse 24 = .ok (.ireturn, 1) := by decide +kernel
theorem dX11_passStep_0 : decode cX11_passStep 0 = .ok (.aload_n 0, 1) := by decide +kernel
theorem dX11_passStep_1 : decode cX11_passStep 1 = .ok (.getfield 40, 3) := by decide +kernel
theorem dX11_passStep_4 : decode cX11_passStep 4 = .ok (.iconst 0, 1) := by decide +kernel
theorem dX11_passStep_5 : decode cX11_passStep 5 = .ok (.iconst 0, 1) := by decide +kernel
theorem dX11_passStep_6 : decode cX11_passStep 6 = .ok (.invokevirtual 258, 3) := by decide +kernel
theorem dX11_passStep_9 : decode cX11_passStep 9 = .ok (.aload_n 0, 1) := by decide +kernel
theorem dX11_passStep_10 : decode cX11_passStep 10 = .ok (.getfield 61, 3) := by decide +kernel
theorem dX11_passStep_13 : decode cX11_passStep 13 = .ok (.aload_n 0, 1) := by decide +kernel
theorem dX11_passStep_14 : decode cX11_passStep 14 = .ok (.getfield 40, 3) := by decide +kernel
theorem dX11_passStep_17 : decode cX11_passStep 17 = .ok (.invokevirtual 262, 3) := by decide +kernel
theorem dX11_passStep_20 : decode cX11_passStep 20 = .ok (.aload_n 0, 1) := by decide +kernel
theorem dX11_passStep_21 : decode cX11_passStep 21 = .ok (.getfield 40, 3) := by decide +kernel
theorem dX11_passStep_24 : decode cX11_passStep 24 = .ok (.getfield 265, 3) := by decide +kernel
theorem dX11_passStep_27 : decode cX11_passStep 27 = .ok (.ireturn, 1) := by decide +kernel
theorem dX11_letCatCome_0 : decode cX11_letCatCome 0 = .ok (.aload_n 0, 1) := by decide +kernel
theorem dX11_letCatCome_1 : decode cX11_letCatCome 1 = .ok (.bipush 100, 2) := by decide +kernel
theorem dX11_letCatCome_3 : decode cX11_letCatCome 3 = .ok (.invokevirtual 268, 3) := by decide +kernel
theorem dX11_letCatCome_6 : decode cX11_letCatCome 6 = .ok (.aload_n 0, 1) := by decide +kernel
theorem dX11_letCatCome_7 : decode cX11_letCatCome 7 = .ok (.getfield 19, 3) := by decide +kernel
theorem dX11_letCatCome_10 : decode cX11_letCatCome 10 = .ok (.getfield 271, 3) := by decide +kernel
theorem dX11_letCatCome_13 : decode cX11_letCatCome 13 = .ok (.if_icmp .ge 13, 3) := by decide +kernel
theorem dX11_letCatCome_16 : decode cX11_letCatCome 16 = .ok (.aload_n 0, 1) := by decide +kernel
theorem dX11_letCatCome_17 : decode cX11_letCatCome 17 = .ok (.getfield 19, 3) := by decide +kernel
theorem dX11_letCatCome_20 : decode cX11_letCatCome 20 = .ok (.getfield 126, 3) := by decide +kernel
theorem dX11_letCatCome_23 : decode cX11_letCatCome 23 = .ok (.ifCond .ne 5, 3) := by decide +kernel
theorem dX11_letCatCome_26 : decode cX11_letCatCome 26 = .ok (.iconst 0, 1) := by decide +kernel
theorem dX11_letCatCome_27 : decode cX11_letCatCome 27 = .ok (.ireturn, 1) := by decide +kernel
theorem dX11_letCatCome_28 : decode cX11_letCatCome 28 = .ok (.aload_n 0, 1) := by decide +kernel
theorem dX11_letCatCome_29 : decode cX11_letCatCome 29 = .ok (.getfield 40, 3) := by decide +kernel
theorem dX11_letCatCome_32 : decode cX11_letCatCome 32 = .ok (.aload_n 0, 1) := by decide +kernel
theorem dX11_letCatCome_33 : decode cX11_letCatCome 33 = .ok (.aload_n 0, 1) := by decide +kernel
theorem dX11_letCatCome_34 : decode cX11_letCatCome 34 = .ok (.getfield 19, 3) := by decide +kernel
theorem dX11_letCatCome_37 : decode cX11_letCatCome 37 = .ok (.getfield 126, 3) := by decide +kernel
theorem dX11_letCatCome_40 : decode cX11_letCatCome 40 = .ok (.invokevirtual 268, 3) := by decide +kernel
theorem dX11_letCatCome_43 : decode cX11_letCatCome 43 = .ok (.iconst 2, 1) := by decide +kernel
theorem dX11_letCatCome_44 : decode cX11_letCatCome 44 = .ok (.invokevirtual 274, 3) := by decide +kernel
theorem dX11_letCatCome_47 : decode cX11_letCatCome 47 = .ok (.iconst 1, 1) := by decide +kernel
theorem dX11_letCatCome_48 : decode cX11_letCatCome 48 = .ok (.ireturn, 1) := by decide +kernel
theorem dX11_draw_0 : decode cX11_draw 0 = .ok (.ldc2_w 277, 3) := by decide +kernel
theorem dX11_draw_3 : decode cX11_draw 3 = .ok (.aload_n 0, 1) := by decide +kernel
theorem dX11_draw_4 : decode cX11_draw 4 = .ok (.getfield 83, 3) := by decide +kernel
theorem dX11_draw_7 : decode cX11_draw 7 = .ok (.i2l, 1) := by decide +kernel
theorem dX11_draw_8 : decode cX11_draw 8 = .ok (.lmul, 1) := by decide +kernel
theorem dX11_draw_9 : decode cX11_draw 9 = .ok (.ldc2_w 279, 3) := by decide +kernel
theorem dX11_draw_12 : decode cX11_draw 12 = .ok (.ladd, 1) := by decide +kernel
theorem dX11_draw_13 : decode cX11_draw 13 = .ok (.ldc2_w 281, 3) := by decide +kernel
theorem dX11_draw_16 : decode cX11_draw 16 = .ok (.lrem, 1) := by decide +kernel
theorem dX11_draw_17 : decode cX11_draw 17 = .ok (.lstore_n 2, 1) := by decide +kernel
theorem dX11_draw_18 : decode cX11_draw 18 = .ok (.aload_n 0, 1) := by decide +kernel
theorem dX11_draw_19 : decode cX11_draw 19 = .ok (.lload_n 2, 1) := by decide +kernel
theorem dX11_draw_20 : decode cX11_draw 20 = .ok (.l2i, 1) := by decide +kernel
theorem dX11_draw_21 : decode cX11_draw 21 = .ok (.putfield 83, 3) := by decide +kernel
theorem dX11_draw_24 : decode cX11_draw 24 = .ok (.iload_n 1, 1) := by decide +kernel
theorem dX11_draw_25 : decode cX11_draw 25 = .ok (.ifCond .le 15, 3) := by decide +kernel
theorem dX11_draw_28 : decode cX11_draw 28 = .ok (.lload_n 2, 1) := by decide +kernel
theorem dX11_draw_29 : decode cX11_draw 29 = .ok (.ldc2_w 283, 3) := by decide +kernel
theorem dX11_draw_32 : decode cX11_draw 32 = .ok (.ldiv, 1) := by decide +kernel
theorem dX11_draw_33 : decode cX11_draw 33 = .ok (.iload_n 1, 1) := by decide +kernel
theorem dX11_draw_34 : decode cX11_draw 34 = .ok (.i2l, 1) := by decide +kernel
theorem dX11_draw_35 : decode cX11_draw 35 = .ok (.lrem, 1) := by decide +kernel
theorem dX11_draw_36 : decode cX11_draw 36 = .ok (.l2i, 1) := by decide +kernel
theorem dX11_draw_37 : decode cX11_draw 37 = .ok (.goto 4, 3) := by decide +kernel
theorem dX11_draw_40 : decode cX11_draw 40 = .ok (.iconst 0, 1) := by decide +kernel
theorem dX11_draw_41 : decode cX11_draw 41 = .ok (.ireturn, 1) := by decide +kernel
theorem dX12_init_0 : decode cX12_init 0 = .ok (.aload_n 0, 1) := by decide +kernel
theorem dX12_init_1 : decode cX12_init 1 = .ok (.invokespecial 1, 3) := by decide +kernel
theorem dX12_init_4 : decode cX12_init 4 = .ok (.aload_n 0, 1) := by decide +kernel
theorem dX12_init_5 : decode cX12_init 5 = .ok (.sipush 1800, 3) := by decide +kernel
theorem dX12_init_8 : decode cX12_init 8 = .ok (.newarray .int, 2) := by decide +kernel
theorem dX12_init_10 : decode cX12_init 10 = .ok (.putfield 7, 3) := by decide +kernel
theorem dX12_init_13 : decode cX12_init 13 = .ok (.aload_n 0, 1) := by decide +kernel
theorem dX12_init_14 : decode cX12_init 14 = .ok (.iconst 0, 1) := by decide +kernel
theorem dX12_init_15 : decode cX12_init 15 = .ok (.putfield 13, 3) := by decide +kernel
theorem dX12_init_18 : decode cX12_init 18 = .ok (.aload_n 0, 1) := by decide +kernel
theorem dX12_init_19 : decode cX12_init 19 = .ok (.iconst 0, 1) := by decide +kernel
theorem dX12_init_20 : decode cX12_init 20 = .ok (.putfield 17, 3) := by decide +kernel
theorem dX12_init_23 : decode cX12_init 23 = .ok (.aload_n 0, 1) := by decide +kernel
theorem dX12_init_24 : decode cX12_init 24 = .ok (.iconst 0, 1) := by decide +kernel
theorem dX12_init_25 : decode cX12_init 25 = .ok (.putfield 20, 3) := by decide +kernel
theorem dX12_init_28 : decode cX12_init 28 = .ok (.aload_n 0, 1) := by decide +kernel
theorem dX12_init_29 : decode cX12_init 29 = .ok (.iconst 0, 1) := by decide +kernel
theorem dX12_init_30 : decode cX12_init 30 = .ok (.putfield 23, 3) := by decide +kernel
theorem dX12_init_33 : decode cX12_init 33 = .ok (.aload_n 0, 1) := by decide +kernel
theorem dX12_init_34 : decode cX12_init 34 = .ok (.iconst 0, 1) := by decide +kernel
theorem dX12_init_35 : decode cX12_init 35 = .ok (.putfield 26, 3) := by decide +kernel
theorem dX12_init_38 : decode cX12_init 38 = .ok (.aload_n 0, 1) := by decide +kernel
theorem dX12_init_39 : decode cX12_init 39 = .ok (.iconst 0, 1) := by decide +kernel
theorem dX12_init_40 : decode cX12_init 40 = .ok (.putfield 29, 3) := by decide +kernel
theorem dX12_init_43 : decode cX12_init 43 = .ok (.aload_n 0, 1) := by decide +kernel
theorem dX12_init_44 : decode cX12_init 44 = .ok (.lconst 0, 1) := by decide +kernel
theorem dX12_init_45 : decode cX12_init 45 = .ok (.putfield 32, 3) := by decide +kernel
theorem dX12_init_48 : decode cX12_init 48 = .ok (.aload_n 0, 1) := by decide +kernel
theorem dX12_init_49 : decode cX12_init 49 = .ok (.iconst 0, 1) := by decide +kernel
theorem dX12_init_50 : decode cX12_init 50 = .ok (.putfield 36, 3) := by decide +kernel
theorem dX12_init_53 : decode cX12_init 53 = .ok (.aload_n 0, 1) := by decide +kernel
theorem dX12_init_54 : decode cX12_init 54 = .ok (.iconst (-1), 1) := by decide +kernel
theorem dX12_init_55 : decode cX12_init 55 = .ok (.putfield 39, 3) := by decide +kernel
theorem dX12_init_58 : decode cX12_init 58 = .ok (.aload_n 0, 1) := by decide +kernel
theorem dX12_init_59 : decode cX12_init 59 = .ok (.iconst 0, 1) := by decide +kernel
theorem dX12_init_60 : decode cX12_init 60 = .ok (.putfield 42, 3) := by decide +kernel
theorem dX12_init_63 : decode cX12_init 63 = .ok (.aload_n 0, 1) := by decide +kernel
theorem dX12_init_64 : decode cX12_init 64 = .ok (.iconst (-1), 1) := by decide +kernel
theorem dX12_init_65 : decode cX12_init 65 = .ok (.putfield 45, 3) := by decide +kernel
theorem dX12_init_68 : decode cX12_init 68 = .ok (.aload_n 0, 1) := by decide +kernel
theorem dX12_init_69 : decode cX12_init 69 = .ok (.iconst (-1), 1) := by decide +kernel
theorem dX12_init_70 : decode cX12_init 70 = .ok (.putfield 48, 3) := by decide +kernel
theorem dX12_init_73 : decode cX12_init 73 = .ok (.aload_n 0, 1) := by decide +kernel
theorem dX12_init_74 : decode cX12_init 74 = .ok (.iconst 0, 1) := by decide +kernel
theorem dX12_init_75 : decode cX12_init 75 = .ok (.putfield 51, 3) := by decide +kernel
theorem dX12_init_78 : decode cX12_init 78 = .ok (.aload_n 0, 1) := by decide +kernel
theorem dX12_init_79 : decode cX12_init 79 = .ok (.iconst 2, 1) := by decide +kernel
theorem dX12_init_80 : decode cX12_init 80 = .ok (.newarray .int, 2) := by decide +kernel
theorem dX12_init_82 : decode cX12_init 82 = .ok (.putfield 54, 3) := by decide +kernel
theorem dX12_init_85 : decode cX12_init 85 = .ok (.aload_n 0, 1) := by decide +kernel
theorem dX12_init_86 : decode cX12_init 86 = .ok (.iconst 2, 1) := by decide +kernel
theorem dX12_init_87 : decode cX12_init 87 = .ok (.newarray .int, 2) := by decide +kernel
theorem dX12_init_89 : decode cX12_init 89 = .ok (.putfield 57, 3) := by decide +kernel
theorem dX12_init_92 : decode cX12_init 92 = .ok (.aload_n 0, 1) := by decide +kernel
theorem dX12_init_93 : decode cX12_init 93 = .ok (.sipush 162, 3) := by decide +kernel
theorem dX12_init_96 : decode cX12_init 96 = .ok (.newarray .int, 2) := by decide +kernel
theorem dX12_init_98 : decode cX12_init 98 = .ok (.putfield 60, 3) := by decide +kernel
theorem dX12_init_101 : decode cX12_init 101 = .ok (.aload_n 0, 1) := by decide +kernel
theorem dX12_init_102 : decode cX12_init 102 = .ok (.iconst 2, 1) := by decide +kernel
theorem dX12_init_103 : decode cX12_init 103 = .ok (.newarray .int, 2) := by decide +kernel
theorem dX12_init_105 : decode cX12_init 105 = .ok (.putfield 63, 3) := by decide +kernel
theorem dX12_init_108 : decode cX12_init 108 = .ok (.aload_n 0, 1) := by decide +kernel
theorem dX12_init_109 : decode cX12_init 109 = .ok (.bipush 12, 2) := by decide +kernel
theorem dX12_init_111 : decode cX12_init 111 = .ok (.newarray .int, 2) := by decide +kernel
theorem dX12_init_113 : decode cX12_init 113 = .ok (.putfield 66, 3) := by decide +kernel
theorem dX12_init_116 : decode cX12_init 116 = .ok (.aload_n 0, 1) := by decide +kernel
theorem dX12_init_117 : decode cX12_init 117 = .ok (.bipush 12, 2) := by decide +kernel
theorem dX12_init_119 : decode cX12_init 119 = .ok (.newarray .int, 2) := by decide +kernel
theorem dX12_init_121 : decode cX12_init 121 = .ok (.putfield 69, 3) := by decide +kernel
theorem dX12_init_124 : decode cX12_init 124 = .ok (.aload_n 0, 1) := by decide +kernel
theorem dX12_init_125 : decode cX12_init 125 = .ok (.bipush 12, 2) := by decide +kernel
theorem dX12_init_127 : decode cX12_init 127 = .ok (.newarray .int, 2) := by decide +kernel
theorem dX12_init_129 : decode cX12_init 129 = .ok (.putfield 72, 3) := by decide +kernel
theorem dX12_init_132 : decode cX12_init 132 = .ok (.aload_n 0, 1) := by decide +kernel
theorem dX12_init_133 : decode cX12_init 133 = .ok (.bipush 12, 2) := by decide +kernel
theorem dX12_init_135 : decode cX12_init 135 = .ok (.newarray .int, 2) := by decide +kernel
theorem dX12_init_137 : decode cX12_init 137 = .ok (.putfield 75, 3) := by decide +kernel
theorem dX12_init_140 : decode cX12_init 140 = .ok (.aload_n 0, 1) := by decide +kernel
theorem dX12_init_141 : decode cX12_init 141 = .ok (.bipush 12, 2) := by decide +kernel
theorem dX12_init_143 : decode cX12_init 143 = .ok (.newarray .int, 2) := by decide +kernel
theorem dX12_init_145 : decode cX12_init 145 = .ok (.putfield 78, 3) := by decide +kernel
theorem dX12_init_148 : decode cX12_init 148 = .ok (.aload_n 0, 1) := by decide +kernel
theorem dX12_init_149 : decode cX12_init 149 = .ok (.bipush 6, 2) := by decide +kernel
theorem dX12_init_151 : decode cX12_init 151 = .ok (.newarray .int, 2) := by decide +kernel
theorem dX12_init_153 : decode cX12_init 153 = .ok (.putfield 81, 3) := by decide +kernel
theorem dX12_init_156 : decode cX12_init 156 = .ok (.aload_n 0, 1) := by decide +kernel
theorem dX12_init_157 : decode cX12_init 157 = .ok (.iconst 4, 1) := by decide +kernel
theorem dX12_init_158 : decode cX12_init 158 = .ok (.newarray .int, 2) := by decide +kernel
theorem dX12_init_160 : decode cX12_init 160 = .ok (.putfield 84, 3) := by decide +kernel
theorem dX12_init_163 : decode cX12_init 163 = .ok (.aload_n 0, 1) := by decide +kernel
theorem dX12_init_164 : decode cX12_init 164 = .ok (.iconst 4, 1) := by decide +kernel
theorem dX12_init_165 : decode cX12_init 165 = .ok (.newarray .int, 2) := by decide +kernel
theorem dX12_init_167 : decode cX12_init 167 = .ok (.putfield 87, 3) := by decide +kernel
theorem dX12_init_170 : decode cX12_init 170 = .ok (.aload_n 0, 1) := by decide +kernel
theorem dX12_init_171 : decode cX12_init 171 = .ok (.sipush 3200, 3) := by decide +kernel
theorem dX12_init_174 : decode cX12_init 174 = .ok (.newarray .int, 2) := by decide +kernel
theorem dX12_init_176 : decode cX12_init 176 = .ok (.putfield 90, 3) := by decide +kernel
theorem dX12_init_179 : decode cX12_init 179 = .ok (.aload_n 0, 1) := by decide +kernel
theorem dX12_init_180 : decode cX12_init 180 = .ok (.sipush 3200, 3) := by decide +kernel
theorem dX12_init_183 : decode cX12_init 183 = .ok (.newarray .int, 2) := by decide +kernel
theorem dX12_init_185 : decode cX12_init 185 = .ok (.putfield 93, 3) := by decide +kernel
theorem dX12_init_188 : decode cX12_init 188 = .ok (.aload_n 0, 1) := by decide +kernel
theorem dX12_init_189 : decode cX12_init 189 = .ok (.bipush 12, 2) := by decide +kernel
theorem dX12_init_191 : decode cX12_init 191 = .ok (.newarray .long, 2) := by decide +kernel
theorem dX12_init_193 : decode cX12_init 193 = .ok (.putfield 96, 3) := by decide +kernel
theorem dX12_init_196 : decode cX12_init 196 = .ok (.aload_n 0, 1) := by decide +kernel
theorem dX12_init_197 : decode cX12_init 197 = .ok (.iconst 0, 1) := by decide +kernel
theorem dX12_init_198 : decode cX12_init 198 = .ok (.putfield 100, 3) := by decide +kernel
theorem dX12_init_201 : decode cX12_init 201 = .ok (.aload_n 0, 1) := by decide +kernel
theorem dX12_init_202 : decode cX12_init 202 = .ok (.iconst 1, 1) := by decide +kernel
theorem dX12_init_203 : decode cX12_init 203 = .ok (.putfield 103, 3) := by decide +kernel
theorem dX12_init_206 : decode cX12_init 206 = .ok (.aload_n 0, 1) := by decide +kernel
theorem dX12_init_207 : decode cX12_init 207 = .ok (.iconst 0, 1) := by decide +kernel
theorem dX12_init_208 : decode cX12_init 208 = .ok (.putfield 106, 3) := by decide +kernel
theorem dX12_init_211 : decode cX12_init 211 = .ok (.aload_n 0, 1) := by decide +kernel
theorem dX12_init_212 : decode cX12_init 212 = .ok (.bipush 20, 2) := by decide +kernel
theorem dX12_init_214 : decode cX12_init 214 = .ok (.newarray .int, 2) := by decide +kernel
theorem dX12_init_216 : decode cX12_init 216 = .ok (.putfield 110, 3) := by decide +kernel
theorem dX12_init_219 : decode cX12_init 219 = .ok (.aload_n 0, 1) := by decide +kernel
theorem dX12_init_220 : decode cX12_init 220 = .ok (.bipush 20, 2) := by decide +kernel
theorem dX12_init_222 : decode cX12_init 222 = .ok (.newarray .int, 2) := by decide +kernel
theorem dX12_init_224 : decode cX12_init 224 = .ok (.putfield 113, 3) := by decide +kernel
theorem dX12_init_227 : decode cX12_init 227 = .ok (.aload_n 0, 1) := by decide +kernel
theorem dX12_init_228 : decode cX12_init 228 = .ok (.bipush 20, 2) := by decide +kernel
theorem dX12_init_230 : decode cX12_init 230 = .ok (.newarray .boolean, 2) := by decide +kernel
theorem dX12_init_232 : decode cX12_init 232 = .ok (.putfield 116, 3) := by decide +kernel
theorem dX12_init_235 : decode cX12_init 235 = .ok (.aload_n 0, 1) := by decide +kernel
theorem dX12_init_236 : decode cX12_init 236 = .ok (.bipush 20, 2) := by decide +kernel
theorem dX12_init_238 : decode cX12_init 238 = .ok (.newarray .int, 2) := by decide +kernel
theorem dX12_init_240 : decode cX12_init 240 = .ok (.putfield 120, 3) := by decide +kernel
theorem dX12_init_243 : decode cX12_init 243 = .ok (.aload_n 0, 1) := by decide +kernel
theorem dX12_init_244 : decode cX12_init 244 = .ok (.bipush 20, 2) := by decide +kernel
theorem dX12_init_246 : decode cX12_init 246 = .ok (.newarray .int, 2) := by decide +kernel
theorem dX12_init_248 : decode cX12_init 248 = .ok (.putfield 123, 3) := by decide +kernel
theorem dX12_init_251 : decode cX12_init 251 = .ok (.aload_n 0, 1) := by decide +kernel
theorem dX12_init_252 : decode cX12_init 252 = .ok (.iconst 0, 1) := by decide +kernel
theorem dX12_init_253 : decode cX12_init 253 = .ok (.putfield 126, 3) := by decide +kernel
theorem dX12_init_256 : decode cX12_init 256 = .ok (.aload_n 0, 1) := by decide +kernel
theorem dX12_init_257 : decode cX12_init 257 = .ok (.iconst 0, 1) := by decide +kernel
theorem dX12_init_258 : decode cX12_init 258 = .ok (.putfield 129, 3) := by decide +kernel
theorem dX12_init_261 : decode cX12_init 261 = .ok (.aload_n 0, 1) := by decide +kernel
theorem dX12_init_262 : decode cX12_init 262 = .ok (.sipush 500, 3) := by decide +kernel
theorem dX12_init_265 : decode cX12_init 265 = .ok (.newarray .int, 2) := by decide +kernel
theorem dX12_init_267 : decode cX12_init 267 = .ok (.putfield 132, 3) := by decide +kernel
theorem dX12_init_270 : decode cX12_init 270 = .ok (.aload_n 0, 1) := by decide +kernel
theorem dX12_init_271 : decode cX12_init 271 = .ok (.iconst 0, 1) := by decide +kernel
theorem dX12_init_272 : decode cX12_init 272 = .ok (.putfield 135, 3) := by decide +kernel
theorem dX12_init_275 : decode cX12_init 275 = .ok (.aload_n 0, 1) := by decide +kernel
theorem dX12_init_276 : decode cX12_init 276 = .ok (.iconst 0, 1) := by decide +kernel
theorem dX12_init_277 : decode cX12_init 277 = .ok (.putfield 138, 3) := by decide +kernel
theorem dX12_init_280 : decode cX12_init 280 = .ok (.aload_n 0, 1) := by decide +kernel
theorem dX12_init_281 : decode cX12_init 281 = .ok (.bipush 6, 2) := by decide +kernel
theorem dX12_init_283 : decode cX12_init 283 = .ok (.newarray .int, 2) := by decide +kernel
theorem dX12_init_285 : decode cX12_init 285 = .ok (.putfield 141, 3) := by decide +kernel
theorem dX12_init_288 : decode cX12_init 288 = .ok (.aload_n 0, 1) := by decide +kernel
theorem dX12_init_289 : decode cX12_init 289 = .ok (.bipush 22, 2) := by decide +kernel
theorem dX12_init_291 : decode cX12_init 291 = .ok (.newarray .int, 2) := by decide +kernel
theorem dX12_init_293 : decode cX12_init 293 = .ok (.putfield 144, 3) := by decide +kernel
theorem dX12_init_296 : decode cX12_init 296 = .ok (.aload_n 0, 1) := by decide +kernel
theorem dX12_init_297 : decode cX12_init 297 = .ok (.bipush 22, 2) := by decide +kernel
theorem dX12_init_299 : decode cX12_init 299 = .ok (.newarray .int, 2) := by decide +kernel
theorem dX12_init_301 : decode cX12_init 301 = .ok (.putfield 147, 3) := by decide +kernel
theorem dX12_init_304 : decode cX12_init 304 = .ok (.aload_n 0, 1) := by decide +kernel
theorem dX12_init_305 : decode cX12_init 305 = .ok (.sipush 132, 3) := by decide +kernel
theorem dX12_init_308 : decode cX12_init 308 = .ok (.newarray .int, 2) := by decide +kernel
theorem dX12_init_310 : decode cX12_init 310 = .ok (.putfield 150, 3) := by decide +kernel
theorem dX12_init_313 : decode cX12_init 313 = .ok (.aload_n 0, 1) := by decide +kernel
theorem dX12_init_314 : decode cX12_init 314 = .ok (.sipush 132, 3) := by decide +kernel
theorem dX12_init_317 : decode cX12_init 317 = .ok (.newarray .int, 2) := by decide +kernel
theorem dX12_init_319 : decode cX12_init 319 = .ok (.putfield 153, 3) := by decide +kernel
theorem dX12_init_322 : decode cX12_init 322 = .ok (.aload_n 0, 1) := by decide +kernel
theorem dX12_init_323 : decode cX12_init 323 = .ok (.sipush 132, 3) := by decide +kernel
theorem dX12_init_326 : decode cX12_init 326 = .ok (.newarray .int, 2) := by decide +kernel
theorem dX12_init_328 : decode cX12_init 328 = .ok (.putfield 156, 3) := by decide +kernel
theorem dX12_init_331 : decode cX12_init 331 = .ok (.aload_n 0, 1) := by decide +kernel
theorem dX12_init_332 : decode cX12_init 332 = .ok (.sipush 132, 3) := by decide +kernel
theorem dX12_init_335 : decode cX12_init 335 = .ok (.newarray .int, 2) := by decide +kernel
theorem dX12_init_337 : decode cX12_init 337 = .ok (.putfield 159, 3) := by decide +kernel
theorem dX12_init_340 : decode cX12_init 340 = .ok (.aload_n 0, 1) := by decide +kernel
theorem dX12_init_341 : decode cX12_init 341 = .ok (.sipush 132, 3) := by decide +kernel
theorem dX12_init_344 : decode cX12_init 344 = .ok (.newarray .int, 2) := by decide +kernel
theorem dX12_init_346 : decode cX12_init 346 = .ok (.putfield 162, 3) := by decide +kernel
theorem dX12_init_349 : decode cX12_init 349 = .ok (.aload_n 0, 1) := by decide +kernel
theorem dX12_init_350 : decode cX12_init 350 = .ok (.bipush 22, 2) := by decide +kernel
theorem dX12_init_352 : decode cX12_init 352 = .ok (.newarray .int, 2) := by decide +kernel
theorem dX12_init_354 : decode cX12_init 354 = .ok (.putfield 165, 3) := by decide +kernel
theorem dX12_init_357 : decode cX12_init 357 = .ok (.aload_n 0, 1) := by decide +kernel
theorem dX12_init_358 : decode cX12_init 358 = .ok (.sipush 5280, 3) := by decide +kernel
theorem dX12_init_361 : decode cX12_init 361 = .ok (.newarray .int, 2) := by decide +kernel
theorem dX12_init_363 : decode cX12_init 363 = .ok (.putfield 168, 3) := by decide +kernel
theorem dX12_init_366 : decode cX12_init 366 = .ok (.aload_n 0, 1) := by decide +kernel
theorem dX12_init_367 : decode cX12_init 367 = .ok (.iconst 0, 1) := by decide +kernel
theorem dX12_init_368 : decode cX12_init 368 = .ok (.putfield 171, 3) := by decide +kernel
theorem dX12_init_371 : decode cX12_init 371 = .ok (.aload_n 0, 1) := by decide +kernel
theorem dX12_init_372 : decode cX12_init 372 = .ok (.iconst 0, 1) := by decide +kernel
theorem dX12_init_373 : decode cX12_init 373 = .ok (.putfield 174, 3) := by decide +kernel
theorem dX12_init_376 : decode cX12_init 376 = .ok (.aload_n 0, 1) := by decide +kernel
theorem dX12_init_377 : decode cX12_init 377 = .ok (.lconst 1, 1) := by decide +kernel
theorem dX12_init_378 : decode cX12_init 378 = .ok (.putfield 177, 3) := by decide +kernel
theorem dX12_init_381 : decode cX12_init 381 = .ok (.aload_n 0, 1) := by decide +kernel
theorem dX12_init_382 : decode cX12_init 382 = .ok (.sipush 500, 3) := by decide +kernel
theorem dX12_init_385 : decode cX12_init 385 = .ok (.newarray .long, 2) := by decide +kernel
theorem dX12_init_387 : decode cX12_init 387 = .ok (.putfield 180, 3) := by decide +kernel
theorem dX12_init_390 : decode cX12_init 390 = .ok (.aload_n 0, 1) := by decide +kernel
theorem dX12_init_391 : decode cX12_init 391 = .ok (.bipush 12, 2) := by decide +kernel
theorem dX12_init_393 : decode cX12_init 393 = .ok (.newarray .int, 2) := by decide +kernel
theorem dX12_init_395 : decode cX12_init 395 = .ok (.putfield 183, 3) := by decide +kernel
theorem dX12_init_398 : decode cX12_init 398 = .ok (.aload_n 0, 1) := by decide +kernel
theorem dX12_init_399 : decode cX12_init 399 = .ok (.iconst (-1), 1) := by decide +kernel
theorem dX12_init_400 : decode cX12_init 400 = .ok (.putfield 186, 3) := by decide +kernel
theorem dX12_init_403 : decode cX12_init 403 = .ok (.aload_n 0, 1) := by decide +kernel
theorem dX12_init_404 : decode cX12_init 404 = .ok (.iconst 0, 1) := by decide +kernel
theorem dX12_init_405 : decode cX12_init 405 = .ok (.putfield 189, 3) := by decide +kernel
theorem dX12_init_408 : decode cX12_init 408 = .ok (.aload_n 0, 1) := by decide +kernel
theorem dX12_init_409 : decode cX12_init 409 = .ok (.iconst 0, 1) := by decide +kernel
theorem dX12_init_410 : decode cX12_init 410 = .ok (.putfield 192, 3) := by decide +kernel
theorem dX12_init_413 : decode cX12_init 413 = .ok (.aload_n 0, 1) := by decide +kernel
theorem dX12_init_414 : decode cX12_init 414 = .ok (.iconst (-1), 1) := by decide +kernel
theorem dX12_init_415 : decode cX12_init 415 = .ok (.putfield 195, 3) := by decide +kernel
theorem dX12_init_418 : decode cX12_init 418 = .ok (.aload_n 0, 1) := by decide +kernel
theorem dX12_init_419 : decode cX12_init 419 = .ok (.iconst 0, 1) := by decide +kernel
theorem dX12_init_420 : decode cX12_init 420 = .ok (.putfield 198, 3) := by decide +kernel
theorem dX12_init_423 : decode cX12_init 423 = .ok (.aload_n 0, 1) := by decide +kernel
theorem dX12_init_424 : decode cX12_init 424 = .ok (.iconst 0, 1) := by decide +kernel
theorem dX12_init_425 : decode cX12_init 425 = .ok (.putfield 201, 3) := by decide +kernel
theorem dX12_init_428 : decode cX12_init 428 = .ok (.aload_n 0, 1) := by decide +kernel
theorem dX12_init_429 : decode cX12_init 429 = .ok (.iconst 0, 1) := by decide +kernel
theorem dX12_init_430 : decode cX12_init 430 = .ok (.putfield 204, 3) := by decide +kernel
theorem dX12_init_433 : decode cX12_init 433 = .ok (.aload_n 0, 1) := by decide +kernel
theorem dX12_init_434 : decode cX12_init 434 = .ok (.iconst 0, 1) := by decide +kernel
theorem dX12_init_435 : decode cX12_init 435 = .ok (.putfield 207, 3) := by decide +kernel
theorem dX12_init_438 : decode cX12_init 438 = .ok (.aload_n 0, 1) := by decide +kernel
theorem dX12_init_439 : decode cX12_init 439 = .ok (.sipush 324, 3) := by decide +kernel
theorem dX12_init_442 : decode cX12_init 442 = .ok (.newarray .int, 2) := by decide +kernel
theorem dX12_init_444 : decode cX12_init 444 = .ok (.putfield 210, 3) := by decide +kernel
theorem dX12_init_447 : decode cX12_init 447 = .ok (.aload_n 0, 1) := by decide +kernel
theorem dX12_init_448 : decode cX12_init 448 = .ok (.iconst 0, 1) := by decide +kernel
theorem dX12_init_449 : decode cX12_init 449 = .ok (.putfield 213, 3) := by decide +kernel
theorem dX12_init_452 : decode cX12_init 452 = .ok (.aload_n 0, 1) := by decide +kernel
theorem dX12_init_453 : decode cX12_init 453 = .ok (.bipush 16, 2) := by decide +kernel
theorem dX12_init_455 : decode cX12_init 455 = .ok (.newarray .int, 2) := by decide +kernel
theorem dX12_init_457 : decode cX12_init 457 = .ok (.putfield 216, 3) := by decide +kernel
theorem dX12_init_460 : decode cX12_init 460 = .ok (.aload_n 0, 1) := by decide +kernel
theorem dX12_init_461 : decode cX12_init 461 = .ok (.bipush 16, 2) := by decide +kernel
theorem dX12_init_463 : decode cX12_init 463 = .ok (.newarray .int, 2) := by decide +kernel
theorem dX12_init_465 : decode cX12_init 465 = .ok (.putfield 219, 3) := by decide +kernel
theorem dX12_init_468 : decode cX12_init 468 = .ok (.aload_n 0, 1) := by decide +kernel
theorem dX12_init_469 : decode cX12_init 469 = .ok (.sipush 410, 3) := by decide +kernel
theorem dX12_init_472 : decode cX12_init 472 = .ok (.newarray .int, 2) := by decide +kernel
theorem dX12_init_474 : decode cX12_init 474 = .ok (.putfield 222, 3) := by decide +kernel
theorem dX12_init_477 : decode cX12_init 477 = .ok (.aload_n 0, 1) := by decide +kernel
theorem dX12_init_478 : decode cX12_init 478 = .ok (.bipush 60, 2) := by decide +kernel
theorem dX12_init_480 : decode cX12_init 480 = .ok (.newarray .int, 2) := by decide +kernel
theorem dX12_init_482 : decode cX12_init 482 = .ok (.putfield 225, 3) := by decide +kernel
theorem dX12_init_485 : decode cX12_init 485 = .ok (.aload_n 0, 1) := by decide +kernel
theorem dX12_init_486 : decode cX12_init 486 = .ok (.iconst 0, 1) := by decide +kernel
theorem dX12_init_487 : decode cX12_init 487 = .ok (.putfield 228, 3) := by decide +kernel
theorem dX12_init_490 : decode cX12_init 490 = .ok (.iconst 0, 1) := by decide +kernel
theorem dX12_init_491 : decode cX12_init 491 = .ok (.istore_n 1, 1) := by decide +kernel
theorem dX12_init_492 : decode cX12_init 492 = .ok (.iload_n 1, 1) := by decide +kernel
theorem dX12_init_493 : decode cX12_init 493 = .ok (.iconst 4, 1) := by decide +kernel
theorem dX12_init_494 : decode cX12_init 494 = .ok (.if_icmp .ge 16, 3) := by decide +kernel
theorem dX12_init_497 : decode cX12_init 497 = .ok (.aload_n 0, 1) := by decide +kernel
theorem dX12_init_498 : decode cX12_init 498 = .ok (.getfield 84, 3) := by decide +kernel
theorem dX12_init_501 : decode cX12_init 501 = .ok (.iload_n 1, 1) := by decide +kernel
theorem dX12_init_502 : decode cX12_init 502 = .ok (.iconst (-1), 1) := by decide +kernel
theorem dX12_init_503 : decode cX12_init 503 = .ok (.iastore, 1) := by decide +kernel
theorem dX12_init_504 : decode cX12_init 504 = .ok (.iinc 1 1, 3) := by decide +kernel
theorem dX12_init_507 : decode cX12_init 507 = .ok (.goto (-15), 3) := by decide +kernel
theorem dX12_init_510 : decode cX12_init 510 = .ok (.iconst 0, 1) := by decide +kernel
theorem dX12_init_511 : decode cX12_init 511 = .ok (.istore_n 1, 1) := by decide +kernel
theorem dX12_init_512 : decode cX12_init 512 = .ok (.iload_n 1, 1) := by decide +kernel
theorem dX12_init_513 : decode cX12_init 513 = .ok (.iconst 2, 1) := by decide +kernel
theorem dX12_init_514 : decode cX12_init 514 = .ok (.if_icmp .ge 14, 3) := by decide +kernel
theorem dX12_init_517 : decode cX12_init 517 = .ok (.aload_n 0, 1) := by decide +kernel
theorem dX12_init_518 : decode cX12_init 518 = .ok (.iload_n 1, 1) := by decide +kernel
theorem dX12_init_519 : decode cX12_init 519 = .ok (.invokevirtual 231, 3) := by decide +kernel
theorem dX12_init_522 : decode cX12_init 522 = .ok (.iinc 1 1, 3) := by decide +kernel
theorem dX12_init_525 : decode cX12_init 525 = .ok (.goto (-13), 3) := by decide +kernel
theorem dX12_init_528 : decode cX12_init 528 = .ok (.return_, 1) := by decide +kernel
theorem dX12_is_0 : decode cX12_is 0 = .ok (.iload_n 0, 1) := by decide +kernel
theorem dX12_is_1 : decode cX12_is 1 = .ok (.iload_n 1, 1) := by decide +kernel
theorem dX12_is_2 : decode cX12_is 2 = .ok (.if_icmp .lt 12, 3) := by decide +kernel
theorem dX12_is_5 : decode cX12_is 5 = .ok (.iload_n 0, 1) := by decide +kernel
theorem dX12_is_6 : decode cX12_is 6 = .ok (.iload_n 2, 1) := by decide +kernel
theorem dX12_is_7 : decode cX12_is 7 = .ok (.if_icmp .gt 7, 3) := by decide +kernel
theorem dX12_is_10 : decode cX12_is 10 = .ok (.iconst 1, 1) := by decide +kernel
theorem dX12_is_11 : decode cX12_is 11 = .ok (.goto 4, 3) := by decide +kernel
theorem dX12_is_14 : decode cX12_is 14 = .ok (.iconst 0, 1) := by decide +kernel
theorem dX12_is_15 : decode cX12_is 15 = .ok (.ireturn, 1) := by decide +kernel
theorem dX12_put_0 : decode cX12_put 0 = .ok (.bipush 24, 2) := by decide +kernel
theorem dX12_put_2 : decode cX12_put 2 = .ok (.istore_n 2, 1) := by decide +kernel
theorem dX12_put_3 : decode cX12_put 3 = .ok (.iload_n 2, 1) := by decide +kernel
theorem dX12_put_4 : decode cX12_put 4 = .ok (.ifCond .lt 35, 3) := by decide +kernel
theorem dX12_put_7 : decode cX12_put 7 = .ok (.aload_n 0, 1) := by decide +kernel
theorem dX12_put_8 : decode cX12_put 8 = .ok (.getfield 7, 3) := by decide +kernel
theorem dX12_put_11 : decode cX12_put 11 = .ok (.aload_n 0, 1) := by decide +kernel
theorem dX12_put_12 : decode cX12_put 12 = .ok (.getfield 13, 3) := by decide +kernel
theorem dX12_put_15 : decode cX12_put 15 = .ok (.iload_n 1, 1) := by decide +kernel
theorem dX12_put_16 : decode cX12_put 16 = .ok (.iload_n 2, 1) := by decide +kernel
theorem dX12_put_17 : decode cX12_put 17 = .ok (.ishr, 1) := by decide +kernel
theorem dX12_put_18 : decode cX12_put 18 = .ok (.sipush 255, 3) := by decide +kernel
theorem dX12_put_21 : decode cX12_put 21 = .ok (.iand, 1) := by decide +kernel
theorem dX12_put_22 : decode cX12_put 22 = .ok (.iastore, 1) := by decide +kernel
theorem dX12_put_23 : decode cX12_put 23 = .ok (.aload_n 0, 1) := by decide +kernel
theorem dX12_put_24 : decode cX12_put 24 = .ok (.dup, 1) := by decide +kernel
theorem dX12_put_25 : decode cX12_put 25 = .ok (.getfield 13, 3) := by decide +kernel
theorem dX12_put_28 : decode cX12_put 28 = .ok (.iconst 1, 1) := by decide +kernel
theorem dX12_put_29 : decode cX12_put 29 = .ok (.iadd, 1) := by decide +kernel
theorem dX12_put_30 : decode cX12_put 30 = .ok (.putfield 13, 3) := by decide +kernel
theorem dX12_put_33 : decode cX12_put 33 = .ok (.iinc 2 (-8), 3) := by decide +kernel
theorem dX12_put_36 : decode cX12_put 36 = .ok (.goto (-33), 3) := by decide +kernel
theorem dX12_put_39 : decode cX12_put 39 = .ok (.return_, 1) := by decide +kernel
theorem dX12_feed_0 : decode cX12_feed 0 = .ok (.aload_n 0, 1) := by decide +kernel
theorem dX12_feed_1 : decode cX12_feed 1 = .ok (.getfield 13, 3) := by decide +kernel
theorem dX12_feed_4 : decode cX12_feed 4 = .ok (.bipush 20, 2) := by decide +kernel
theorem dX12_feed_6 : decode cX12_feed 6 = .ok (.iadd, 1) := by decide +kernel
theorem dX12_feed_7 : decode cX12_feed 7 = .ok (.sipush 1600, 3) := by decide +kernel
theorem dX12_feed_10 : decode cX12_feed 10 = .ok (.if_icmp .le 9, 3) := by decide +kernel
theorem dX12_feed_13 : decode cX12_feed 13 = .ok (.aload_n 0, 1) := by decide +kernel
theorem dX12_feed_14 : decode cX12_feed 14 = .ok (.iconst 0, 1) := by decide +kernel
theorem dX12_feed_15 : decode cX12_feed 15 = .ok (.invokevirtual 235, 3) := by decide +kernel
theorem dX12_feed_18 : decode cX12_feed 18 = .ok (.ireturn, 1) := by decide +kernel
theorem dX12_feed_19 : decode cX12_feed 19 = .ok (.aload_n 0, 1) := by decide +kernel
theorem dX12_feed_20 : decode cX12_feed 20 = .ok (.iload_n 1, 1) := by decide +kernel
theorem dX12_feed_21 : decode cX12_feed 21 = .ok (.invokevirtual 239, 3) := by decide +kernel
theorem dX12_feed_24 : decode cX12_feed 24 = .ok (.aload_n 0, 1) := by decide +kernel
theorem dX12_feed_25 : decode cX12_feed 25 = .ok (.iload_n 2, 1) := by decide +kernel
theorem dX12_feed_26 : decode cX12_feed 26 = .ok (.invokevirtual 239, 3) := by decide +kernel
theorem dX12_feed_29 : decode cX12_feed 29 = .ok (.aload_n 0, 1) := by decide +kernel
theorem dX12_feed_30 : decode cX12_feed 30 = .ok (.iload_n 3, 1) := by decide +kernel
theorem dX12_feed_31 : decode cX12_feed 31 = .ok (.invokevirtual 239, 3) := by decide +kernel
theorem dX12_feed_34 : decode cX12_feed 34 = .ok (.aload_n 0, 1) := by decide +kernel
theorem dX12_feed_35 : decode cX12_feed 35 = .ok (.iload 4, 2) := by decide +kernel
theorem dX12_feed_37 : decode cX12_feed 37 = .ok (.invokevirtual 239, 3) := by decide +kernel
theorem dX12_feed_40 : decode cX12_feed 40 = .ok (.aload_n 0, 1) := by decide +kernel
theorem dX12_feed_41 : decode cX12_feed 41 = .ok (.iload 5, 2) := by decide +kernel
theorem dX12_feed_43 : decode cX12_feed 43 = .ok (.invokevirtual 239, 3) := by decide +kernel
theorem dX12_feed_46 : decode cX12_feed 46 = .ok (.aload_n 0, 1) := by decide +kernel
theorem dX12_feed_47 : decode cX12_feed 47 = .ok (.getfield 13, 3) := by decide +kernel
theorem dX12_feed_50 : decode cX12_feed 50 = .ok (.ireturn, 1) := by decide +kernel
theorem dX12_end_0 : decode cX12_end 0 = .ok (.iload_n 1, 1) := by decide +kernel
theorem dX12_end_1 : decode cX12_end 1 = .ok (.ifCond .lt 11, 3) := by decide +kernel
theorem dX12_end_4 : decode cX12_end 4 = .ok (.iload_n 1, 1) := by decide +kernel
theorem dX12_end_5 : decode cX12_end 5 = .ok (.aload_n 0, 1) := by decide +kernel
theorem dX12_end_6 : decode cX12_end 6 = .ok (.getfield 13, 3) := by decide +kernel
theorem dX12_end_9 : decode cX12_end 9 = .ok (.if_icmp .le 17, 3) := by decide +kernel
theorem dX12_end_12 : decode cX12_end 12 = .ok (.aload_n 0, 1) := by decide +kernel
theorem dX12_end_13 : decode cX12_end 13 = .ok (.iconst 0, 1) := by decide +kernel
theorem dX12_end_14 : decode cX12_end 14 = .ok (.invokevirtual 235, 3) := by decide +kernel
theorem dX12_end_17 : decode cX12_end 17 = .ok (.ifCond .lt 7, 3) := by decide +kernel
theorem dX12_end_20 : decode cX12_end 20 = .ok (.iconst 1, 1) := by decide +kernel
theorem dX12_end_21 : decode cX12_end 21 = .ok (.goto 4, 3) := by decide +kernel
theorem dX12_end_24 : decode cX12_end 24 = .ok (.iconst 0, 1) := by decide +kernel
theorem dX12_end_25 : decode cX12_end 25 = .ok (.ireturn, 1) := by decide +kernel
theorem dX12_end_26 : decode cX12_end 26 = .ok (.aload_n 0, 1) := by decide +kernel
theorem dX12_end_27 : decode cX12_end 27 = .ok (.iload_n 1, 1) := by decide +kernel
theorem dX12_end_28 : decode cX12_end 28 = .ok (.putfield 13, 3) := by decide +kernel
theorem dX12_end_31 : decode cX12_end 31 = .ok (.iconst 1, 1) := by decide +kernel
theorem dX12_end_32 : decode cX12_end 32 = .ok (.ireturn, 1) := by decide +kernel
theorem dX12_blame_0 : decode cX12_blame 0 = .ok (.aload_n 0, 1) := by decide +kernel
theorem dX12_blame_1 : decode cX12_blame 1 = .ok (.getfield 36, 3) := by decide +kernel
theorem dX12_blame_4 : decode cX12_blame 4 = .ok (.ifCond .le 4, 3) := by decide +kernel
theorem dX12_blame_7 : decode cX12_blame 7 = .ok (.return_, 1) := by decide +kernel
theorem dX12_blame_8 : decode cX12_blame 8 = .ok (.aload_n 0, 1) := by decide +kernel
theorem dX12_blame_9 : decode cX12_blame 9 = .ok (.iload_n 1, 1) := by decide +kernel
theorem dX12_blame_10 : decode cX12_blame 10 = .ok (.putfield 36, 3) := by decide +kernel
theorem dX12_blame_13 : decode cX12_blame 13 = .ok (.aload_n 0, 1) := by decide +kernel
theorem dX12_blame_14 : decode cX12_blame 14 = .ok (.iload_n 2, 1) := by decide +kernel
theorem dX12_blame_15 : decode cX12_blame 15 = .ok (.putfield 39, 3) := by decide +kernel
theorem dX12_blame_18 : decode cX12_blame 18 = .ok (.return_, 1) := by decide +kernel
theorem dX12_isLetter_0 : decode cX12_isLetter 0 = .ok (.iload_n 0, 1) := by decide +kernel
theorem dX12_isLetter_1 : decode cX12_isLetter 1 = .ok (.bipush 97, 2) := by decide +kernel
theorem dX12_isLetter_3 : decode cX12_isLetter 3 = .ok (.if_icmp .lt 13, 3) := by decide +kernel
theorem dX12_isLetter_6 : decode cX12_isLetter 6 = .ok (.iload_n 0, 1) := by decide +kernel
theorem dX12_isLetter_7 : decode cX12_isLetter 7 = .ok (.bipush 122, 2) := by decide +kernel
theorem dX12_isLetter_9 : decode cX12_isLetter 9 = .ok (.if_icmp .gt 7, 3) := by decide +kernel
theorem dX12_isLetter_12 : decode cX12_isLetter 12 = .ok (.iconst 1, 1) := by decide +kernel
theorem dX12_isLetter_13 : decode cX12_isLetter 13 = .ok (.goto 4, 3) := by decide +kernel
theorem dX12_isLetter_16 : decode cX12_isLetter 16 = .ok (.iconst 0, 1) := by decide +kernel
theorem dX12_isLetter_17 : decode cX12_isLetter 17 = .ok (.ireturn, 1) := by decide +kernel
theorem dX12_isDigit_0 : decode cX12_isDigit 0 = .ok (.iload_n 0, 1) := by decide +kernel
theorem dX12_isDigit_1 : decode cX12_isDigit 1 = .ok (.bipush 48, 2) := by decide +kernel
theorem dX12_isDigit_3 : decode cX12_isDigit 3 = .ok (.if_icmp .lt 13, 3) := by decide +kernel
theorem dX12_isDigit_6 : decode cX12_isDigit 6 = .ok (.iload_n 0, 1) := by decide +kernel
theorem dX12_isDigit_7 : decode cX12_isDigit 7 = .ok (.bipush 57, 2) := by decide +kernel
theorem dX12_isDigit_9 : decode cX12_isDigit 9 = .ok (.if_icmp .gt 7, 3) := by decide +kernel
theorem dX12_isDigit_12 : decode cX12_isDigit 12 = .ok (.iconst 1, 1) := by decide +kernel
theorem dX12_isDigit_13 : decode cX12_isDigit 13 = .ok (.goto 4, 3) := by decide +kernel
theorem dX12_isDigit_16 : decode cX12_isDigit 16 = .ok (.iconst 0, 1) := by decide +kernel
theorem dX12_isDigit_17 : decode cX12_isDigit 17 = .ok (.ireturn, 1) := by decide +kernel
theorem dX12_lex_0 : decode cX12_lex 0 = .ok (.aload_n 0, 1) := by decide +kernel
theorem dX12_lex_1 : decode cX12_lex 1 = .ok (.getfield 48, 3) := by decide +kernel
theorem dX12_lex_4 : decode cX12_lex 4 = .ok (.iconst (-1), 1) := by decide +kernel
theorem dX12_lex_5 : decode cX12_lex 5 = .ok (.if_icmp .eq 12, 3) := by decide +kernel
theorem dX12_lex_8 : decode cX12_lex 8 = .ok (.aload_n 0, 1) := by decide +kernel
theorem dX12_lex_9 : decode cX12_lex 9 = .ok (.iconst 1, 1) := by decide +kernel
theorem dX12_lex_10 : decode cX12_lex 10 = .ok (.aload_n 0, 1) := by decide +kernel
theorem dX12_lex_11 : decode cX12_lex 11 = .ok (.getfield 48, 3) := by decide +kernel
theorem dX12_lex_14 : decode cX12_lex 14 = .ok (.invokevirtual 242, 3) := by decide +kernel
theorem dX12_lex_17 : decode cX12_lex 17 = .ok (.return_, 1) := by decide +kernel
theorem dX12_ahead_0 : decode cX12_ahead 0 = .ok (.aload_n 0, 1) := by decide +kernel
theorem dX12_ahead_1 : decode cX12_ahead 1 = .ok (.getfield 26, 3) := by decide +kernel
theorem dX12_ahead_4 : decode cX12_ahead 4 = .ok (.istore_n 1, 1) := by decide +kernel
theorem dX12_ahead_5 : decode cX12_ahead 5 = .ok (.iload_n 1, 1) := by decide +kernel
theorem dX12_ahead_6 : decode cX12_ahead 6 = .ok (.aload_n 0, 1) := by decide +kernel
theorem dX12_ahead_7 : decode cX12_ahead 7 = .ok (.getfield 17, 3) := by decide +kernel
theorem dX12_ahead_10 : decode cX12_ahead 10 = .ok (.if_icmp .ge 31, 3) := by decide +kernel
theorem dX12_ahead_13 : decode cX12_ahead 13 = .ok (.aload_n 0, 1) := by decide +kernel
theorem dX12_ahead_14 : decode cX12_ahead 14 = .ok (.getfield 7, 3) := by decide +kernel
theorem dX12_ahead_17 : decode cX12_ahead 17 = .ok (.iload_n 1, 1) := by decide +kernel
theorem dX12_ahead_18 : decode cX12_ahead 18 = .ok (.iaload, 1) := by decide +kernel
theorem dX12_ahead_19 : decode cX12_ahead 19 = .ok (.bipush 32, 2) := by decide +kernel
theorem dX12_ahead_21 : decode cX12_ahead 21 = .ok (.if_icmp .eq 14, 3) := by decide +kernel
theorem dX12_ahead_24 : decode cX12_ahead 24 = .ok (.aload_n 0, 1) := by decide +kernel
theorem dX12_ahead_25 : decode cX12_ahead 25 = .ok (.getfield 7, 3) := by decide +kernel
theorem dX12_ahead_28 : decode cX12_ahead 28 = .ok (.iload_n 1, 1) := by decide +kernel
theorem dX12_ahead_29 : decode cX12_ahead 29 = .ok (.iaload, 1) := by decide +kernel
theorem dX12_ahead_30 : decode cX12_ahead 30 = .ok (.bipush 10, 2) := by decide +kernel
theorem dX12_ahead_32 : decode cX12_ahead 32 = .ok (.if_icmp .ne 9, 3) := by decide +kernel
theorem dX12_ahead_35 : decode cX12_ahead 35 = .ok (.iinc 1 1, 3) := by decide +kernel
theorem dX12_ahead_38 : decode cX12_ahead 38 = .ok (.goto (-33), 3) := by decide +kernel
theorem dX12_ahead_41 : decode cX12_ahead 41 = .ok (.aload_n 0, 1) := by decide +kernel
theorem dX12_ahead_42 : decode cX12_ahead 42 = .ok (.iload_n 1, 1) := by decide +kernel
theorem dX12_ahead_43 : decode cX12_ahead 43 = .ok (.putfield 23, 3) := by decide +kernel
theorem dX12_ahead_46 : decode cX12_ahead 46 = .ok (.aload_n 0, 1) := by decide +kernel
theorem dX12_ahead_47 : decode cX12_ahead 47 = .ok (.iload_n 1, 1) := by decide +kernel
theorem dX12_ahead_48 : decode cX12_ahead 48 = .ok (.putfield 26, 3) := by decide +kernel
theorem dX12_ahead_51 : decode cX12_ahead 51 = .ok (.aload_n 0, 1) := by decide +kernel
theorem dX12_ahead_52 : decode cX12_ahead 52 = .ok (.iconst 0, 1) := by decide +kernel
theorem dX12_ahead_53 : decode cX12_ahead 53 = .ok (.putfield 20, 3) := by decide +kernel
theorem dX12_ahead_56 : decode cX12_ahead 56 = .ok (.aload_n 0, 1) := by decide +kernel
theorem dX12_ahead_57 : decode cX12_ahead 57 = .ok (.iconst (-1), 1) := by decide +kernel
theorem dX12_ahead_58 : decode cX12_ahead 58 = .ok (.putfield 48, 3) := by decide +kernel
theorem dX12_ahead_61 : decode cX12_ahead 61 = .ok (.iload_n 1, 1) := by decide +kernel
theorem dX12_ahead_62 : decode cX12_ahead 62 = .ok (.aload_n 0, 1) := by decide +kernel
theorem dX12_ahead_63 : decode cX12_ahead 63 = .ok (.getfield 17, 3) := by decide +kernel
theorem dX12_ahead_66 : decode cX12_ahead 66 = .ok (.if_icmp .lt 4, 3) := by decide +kernel
theorem dX12_ahead_69 : decode cX12_ahead 69 = .ok (.return_, 1) := by decide +kernel
theorem dX12_ahead_70 : decode cX12_ahead 70 = .ok (.aload_n 0, 1) := by decide +kernel
theorem dX12_ahead_71 : decode cX12_ahead 71 = .ok (.getfield 7, 3) := by decide +kernel
theorem dX12_ahead_74 : decode cX12_ahead 74 = .ok (.iload_n 1, 1) := by decide +kernel
theorem dX12_ahead_75 : decode cX12_ahead 75 = .ok (.iaload, 1) := by decide +kernel
theorem dX12_ahead_76 : decode cX12_ahead 76 = .ok (.invokestatic 246, 3) := by decide +kernel
theorem dX12_ahead_79 : decode cX12_ahead 79 = .ok (.istore_n 2, 1) := by decide +kernel
theorem dX12_ahead_80 : decode cX12_ahead 80 = .ok (.aload_n 0, 1) := by decide +kernel
theorem dX12_ahead_81 : decode cX12_ahead 81 = .ok (.getfield 7, 3) := by decide +kernel
theorem dX12_ahead_84 : decode cX12_ahead 84 = .ok (.iload_n 1, 1) := by decide +kernel
theorem dX12_ahead_85 : decode cX12_ahead 85 = .ok (.iaload, 1) := by decide +kernel
theorem dX12_ahead_86 : decode cX12_ahead 86 = .ok (.invokestatic 250, 3) := by decide +kernel
theorem dX12_ahead_89 : decode cX12_ahead 89 = .ok (.istore_n 3, 1) := by decide +kernel
theorem dX12_ahead_90 : decode cX12_ahead 90 = .ok (.iload_n 2, 1) := by decide +kernel
theorem dX12_ahead_91 : decode cX12_ahead 91 = .ok (.ifCond .ne 7, 3) := by decide +kernel
theorem dX12_ahead_94 : decode cX12_ahead 94 = .ok (.iload_n 3, 1) := by decide +kernel
theorem dX12_ahead_95 : decode cX12_ahead 95 = .ok (.ifCond .eq 40, 3) := by decide +kernel
theorem dX12_ahead_98 : decode cX12_ahead 98 = .ok (.iload_n 1, 1) := by decide +kernel
theorem dX12_ahead_99 : decode cX12_ahead 99 = .ok (.ifCond .le 36, 3) := by decide +kernel
theorem dX12_ahead_102 : decode cX12_ahead 102 = .ok (.aload_n 0, 1) := by decide +kernel
theorem dX12_ahead_103 : decode cX12_ahead 103 = .ok (.getfield 7, 3) := by decide +kernel
theorem dX12_ahead_106 : decode cX12_ahead 106 = .ok (.iload_n 1, 1) := by decide +kernel
theorem dX12_ahead_107 : decode cX12_ahead 107 = .ok (.iconst 1, 1) := by decide +kernel
theorem dX12_ahead_108 : decode cX12_ahead 108 = .ok (.isub, 1) := by decide +kernel
theorem dX12_ahead_109 : decode cX12_ahead 109 = .ok (.iaload, 1) := by decide +kernel
theorem dX12_ahead_110 : decode cX12_ahead 110 = .ok (.invokestatic 246, 3) := by decide +kernel
theorem dX12_ahead_113 : decode cX12_ahead 113 = .ok (.ifCond .ne 17, 3) := by decide +kernel
theorem dX12_ahead_116 : decode cX12_ahead 116 = .ok (.aload_n 0, 1) := by decide +kernel
theorem dX12_ahead_117 : decode cX12_ahead 117 = .ok (.getfield 7, 3) := by decide +kernel
theorem dX12_ahead_120 : decode cX12_ahead 120 = .ok (.iload_n 1, 1) := by decide +kernel
theorem dX12_ahead_121 : decode cX12_ahead 121 = .ok (.iconst 1, 1) := by decide +kernel
theorem dX12_ahead_122 : decode cX12_ahead 122 = .ok (.isub, 1) := by decide +kernel
theorem dX12_ahead_123 : decode cX12_ahead 123 = .ok (.iaload, 1) := by decide +kernel
theorem dX12_ahead_124 : decode cX12_ahead 124 = .ok (.invokestatic 250, 3) := by decide +kernel
theorem dX12_ahead_127 : decode cX12_ahead 127 = .ok (.ifCond .eq 8, 3) := by decide +kernel
theorem dX12_ahead_130 : decode cX12_ahead 130 = .ok (.aload_n 0, 1) := by decide +kernel
theorem dX12_ahead_131 : decode cX12_ahead 131 = .ok (.iload_n 1, 1) := by decide +kernel
theorem dX12_ahead_132 : decode cX12_ahead 132 = .ok (.putfield 48, 3) := by decide +kernel
theorem dX12_ahead_135 : decode cX12_ahead 135 = .ok (.aload_n 0, 1) := by decide +kernel
theorem dX12_ahead_136 : decode cX12_ahead 136 = .ok (.iconst 0, 1) := by decide +kernel
theorem dX12_ahead_137 : decode cX12_ahead 137 = .ok (.putfield 29, 3) := by decide +kernel
theorem dX12_ahead_140 : decode cX12_ahead 140 = .ok (.aload_n 0, 1) := by decide +kernel
theorem dX12_ahead_141 : decode cX12_ahead 141 = .ok (.lconst 0, 1) := by decide +kernel
theorem dX12_ahead_142 : decode cX12_ahead 142 = .ok (.putfield 32, 3) := by decide +kernel
theorem dX12_ahead_145 : decode cX12_ahead 145 = .ok (.aload_n 0, 1) := by decide +kernel
theorem dX12_ahead_146 : decode cX12_ahead 146 = .ok (.iconst 3, 1) := by decide +kernel
theorem dX12_ahead_147 : decode cX12_ahead 147 = .ok (.putfield 20, 3) := by decide +kernel
theorem dX12_ahead_150 : decode cX12_ahead 150 = .ok (.aload_n 0, 1) := by decide +kernel
theorem dX12_ahead_151 : decode cX12_ahead 151 = .ok (.iload_n 1, 1) := by decide +kernel
theorem dX12_ahead_152 : decode cX12_ahead 152 = .ok (.iconst 1, 1) := by decide +kernel
theorem dX12_ahead_153 : decode cX12_ahead 153 = .ok (.iadd, 1) := by decide +kernel
theorem dX12_ahead_154 : decode cX12_ahead 154 = .ok (.putfield 26, 3) := by decide +kernel
theorem dX12_ahead_157 : decode cX12_ahead 157 = .ok (.iload_n 2, 1) := by decide +kernel
theorem dX12_ahead_158 : decode cX12_ahead 158 = .ok (.ifCond .ne 18, 3) := by decide +kernel
theorem dX12_ahead_161 : decode cX12_ahead 161 = .ok (.iload_n 3, 1) := by decide +kernel
theorem dX12_ahead_162 : decode cX12_ahead 162 = .ok (.ifCond .ne 14, 3) := by decide +kernel
theorem dX12_ahead_165 : decode cX12_ahead 165 = .ok (.aload_n 0, 1) := by decide +kernel
theorem dX12_ahead_166 : decode cX12_ahead 166 = .ok (.aload_n 0, 1) := by decide +kernel
theorem dX12_ahead_167 : decode cX12_ahead 167 = .ok (.getfield 7, 3) := by decide +kernel
theorem dX12_ahead_170 : decode cX12_ahead 170 = .ok (.iload_n 1, 1) := by decide +kernel
theorem dX12_ahead_171 : decode cX12_ahead 171 = .ok (.iaload, 1) := by decide +kernel
theorem dX12_ahead_172 : decode cX12_ahead 172 = .ok (.putfield 29, 3) := by decide +kernel
theorem dX12_ahead_175 : decode cX12_ahead 175 = .ok (.return_, 1) := by decide +kernel
theorem dX12_ahead_176 : decode cX12_ahead 176 = .ok (.aload_n 0, 1) := by decide +kernel
theorem dX12_ahead_177 : decode cX12_ahead 177 = .ok (.iload_n 2, 1) := by decide +kernel
theorem dX12_ahead_178 : decode cX12_ahead 178 = .ok (.ifCond .eq 7, 3) := by decide +kernel
theorem dX12_ahead_181 : decode cX12_ahead 181 = .ok (.iconst 1, 1) := by decide +kernel
theorem dX12_ahead_182 : decode cX12_ahead 182 = .ok (.goto 4, 3) := by decide +kernel
theorem dX12_ahead_185 : decode cX12_ahead 185 = .ok (.iconst 2, 1) := by decide +kernel
theorem dX12_ahead_186 : decode cX12_ahead 186 = .ok (.putfield 20, 3) := by decide +kernel
theorem dX12_ahead_189 : decode cX12_ahead 189 = .ok (.iload_n 2, 1) := by decide +kernel
theorem dX12_ahead_190 : decode cX12_ahead 190 = .ok (.ifCond .eq 8, 3) := by decide +kernel
theorem dX12_ahead_193 : decode cX12_ahead 193 = .ok (.bipush 6, 2) := by decide +kernel
theorem dX12_ahead_195 : decode cX12_ahead 195 = .ok (.goto 4, 3) := by decide +kernel
theorem dX12_ahead_198 : decode cX12_ahead 198 = .ok (.iconst 4, 1) := by decide +kernel
theorem dX12_ahead_199 : decode cX12_ahead 199 = .ok (.istore 4, 2) := by decide +kernel
theorem dX12_ahead_201 : decode cX12_ahead 201 = .ok (.iconst 0, 1) := by decide +kernel
theorem dX12_ahead_202 : decode cX12_ahead 202 = .ok (.istore 5, 2) := by decide +kernel
theorem dX12_ahead_204 : decode cX12_ahead 204 = .ok (.iload_n 1, 1) := by decide +kernel
theorem dX12_ahead_205 : decode cX12_ahead 205 = .ok (.aload_n 0, 1) := by decide +kernel
theorem dX12_ahead_206 : decode cX12_ahead 206 = .ok (.getfield 17, 3) := by decide +kernel
theorem dX12_ahead_209 : decode cX12_ahead 209 = .ok (.if_icmp .ge 125, 3) := by decide +kernel
theorem dX12_ahead_212 : decode cX12_ahead 212 = .ok (.iload_n 2, 1) := by decide +kernel
theorem dX12_ahead_213 : decode cX12_ahead 213 = .ok (.ifCond .eq 18, 3) := by decide +kernel
theorem dX12_ahead_216 : decode cX12_ahead 216 = .ok (.aload_n 0, 1) := by decide +kernel
theorem dX12_ahead_217 : decode cX12_ahead 217 = .ok (.getfield 7, 3) := by decide +kernel
theorem dX12_ahead_220 : decode cX12_ahead 220 = .ok (.iload_n 1, 1) := by decide +kernel
theorem dX12_ahead_221 : decode cX12_ahead 221 = .ok (.iaload, 1) := by decide +kernel
theorem dX12_ahead_222 : decode cX12_ahead 222 = .ok (.invokestatic 246, 3) := by decide +kernel
theorem dX12_ahead_225 : decode cX12_ahead 225 = .ok (.ifCond .eq 109, 3) := by decide +kernel
theorem dX12_ahead_228 : decode cX12_ahead 228 = .ok (.goto 15, 3) := by decide +kernel
theorem dX12_ahead_231 : decode cX12_ahead 231 = .ok (.aload_n 0, 1) := by decide +kernel
theorem dX12_ahead_232 : decode cX12_ahead 232 = .ok (.getfield 7, 3) := by decide +kernel
theorem dX12_ahead_235 : decode cX12_ahead 235 = .ok (.iload_n 1, 1) := by decide +kernel
theorem dX12_ahead_236 : decode cX12_ahead 236 = .ok (.iaload, 1) := by decide +kernel
theorem dX12_ahead_237 : decode cX12_ahead 237 = .ok (.invokestatic 250, 3) := by decide +kernel
theorem dX12_ahead_240 : decode cX12_ahead 240 = .ok (.ifCond .eq 94, 3) := by decide +kernel
theorem dX12_ahead_243 : decode cX12_ahead 243 = .ok (.iload 5, 2) := by decide +kernel
theorem dX12_ahead_245 : decode cX12_ahead 245 = .ok (.iload 4, 2) := by decide +kernel
theorem dX12_ahead_247 : decode cX12_ahead 247 = .ok (.if_icmp .ne 16, 3) := by decide +kernel
theorem dX12_ahead_250 : decode cX12_ahead 250 = .ok (.aload_n 0, 1) := by decide +kernel
theorem dX12_ahead_251 : decode cX12_ahead 251 = .ok (.getfield 48, 3) := by decide +kernel
theorem dX12_ahead_254 : decode cX12_ahead 254 = .ok (.iconst (-1), 1) := by decide +kernel
theorem dX12_ahead_255 : decode cX12_ahead 255 = .ok (.if_icmp .ne 8, 3) := by decide +kernel
theorem dX12_ahead_258 : decode cX12_ahead 258 = .ok (.aload_n 0, 1) := by decide +kernel
theorem dX12_ahead_259 : decode cX12_ahead 259 = .ok (.iload_n 1, 1) := by decide +kernel
theorem dX12_ahead_260 : decode cX12_ahead 260 = .ok (.putfield 48, 3) := by decide +kernel
theorem dX12_ahead_263 : decode cX12_ahead 263 = .ok (.iload 5, 2) := by decide +kernel
theorem dX12_ahead_265 : decode cX12_ahead 265 = .ok (.iload 4, 2) := by decide +kernel
theorem dX12_ahead_267 : decode cX12_ahead 267 = .ok (.if_icmp .ge 26, 3) := by decide +kernel
theorem dX12_ahead_270 : decode cX12_ahead 270 = .ok (.iload_n 2, 1) := by decide +kernel
theorem dX12_ahead_271 : decode cX12_ahead 271 = .ok (.ifCond .eq 22, 3) := by decide +kernel
theorem dX12_ahead_274 : decode cX12_ahead 274 = .ok (.aload_n 0, 1) := by decide +kernel
theorem dX12_ahead_275 : decode cX12_ahead 275 = .ok (.aload_n 0, 1) := by decide +kernel
theorem dX12_ahead_276 : decode cX12_ahead 276 = .ok (.getfield 32, 3) := by decide +kernel
theorem dX12_ahead_279 : decode cX12_ahead 279 = .ok (.bipush 8, 2) := by decide +kernel
theorem dX12_ahead_281 : decode cX12_ahead 281 = .ok (.lshl, 1) := by decide +kernel
theorem dX12_ahead_282 : decode cX12_ahead 282 = .ok (.aload_n 0, 1) := by decide +kernel
theorem dX12_ahead_283 : decode cX12_ahead 283 = .ok (.getfield 7, 3) := by decide +kernel
theorem dX12_ahead_286 : decode cX12_ahead 286 = .ok (.iload_n 1, 1) := by decide +kernel
theorem dX12_ahead_287 : decode cX12_ahead 287 = .ok (.iaload, 1) := by decide +kernel
theorem dX12_ahead_288 : decode cX12_ahead 288 = .ok (.i2l, 1) := by decide +kernel
theorem dX12_ahead_289 : decode cX12_ahead 289 = .ok (.lor, 1) := by decide +kernel
theorem dX12_ahead_290 : decode cX12_ahead 290 = .ok (.putfield 32, 3) := by decide +kernel
theorem dX12_ahead_293 : decode cX12_ahead 293 = .ok (.iload 5, 2) := by decide +kernel
theorem dX12_ahead_295 : decode cX12_ahead 295 = .ok (.iload 4, 2) := by decide +kernel
theorem dX12_ahead_297 : decode cX12_ahead 297 = .ok (.if_icmp .ge 28, 3) := by decide +kernel
theorem dX12_ahead_300 : decode cX12_ahead 300 = .ok (.iload_n 3, 1) := by decide +kernel
theorem dX12_ahead_301 : decode cX12_ahead 301 = .ok (.ifCond .eq 24, 3) := by decide +kernel
theorem dX12_ahead_304 : decode cX12_ahead 304 = .ok (.aload_n 0, 1) := by decide +kernel
theorem dX12_ahead_305 : decode cX12_ahead 305 = .ok (.bipush 10, 2) := by decide +kernel
theorem dX12_ahead_307 : decode cX12_ahead 307 = .ok (.aload_n 0, 1) := by decide +kernel
theorem dX12_ahead_308 : decode cX12_ahead 308 = .ok (.getfield 29, 3) := by decide +kernel
theorem dX12_ahead_311 : decode cX12_ahead 311 = .ok (.imul, 1) := by decide +kernel
theorem dX12_ahead_312 : decode cX12_ahead 312 = .ok (.aload_n 0, 1) := by decide +kernel
theorem dX12_ahead_313 : decode cX12_ahead 313 = .ok (.getfield 7, 3) := by decide +kernel
theorem dX12_ahead_316 : decode cX12_ahead 316 = .ok (.iload_n 1, 1) := by decide +kernel
theorem dX12_ahead_317 : decode cX12_ahead 317 = .ok (.iaload, 1) := by decide +kernel
theorem dX12_ahead_318 : decode cX12_ahead 318 = .ok (.iadd, 1) := by decide +kernel
theorem dX12_ahead_319 : decode cX12_ahead 319 = .ok (.bipush 48, 2) := by decide +kernel
theorem dX12_ahead_321 : decode cX12_ahead 321 = .ok (.isub, 1) := by decide +kernel
theorem dX12_ahead_322 : decode cX12_ahead 322 = .ok (.putfield 29, 3) := by decide +kernel
theorem dX12_ahead_325 : decode cX12_ahead 325 = .ok (.iinc 5 1, 3) := by decide +kernel
theorem dX12_ahead_328 : decode cX12_ahead 328 = .ok (.iinc 1 1, 3) := by decide +kernel
theorem dX12_ahead_331 : decode cX12_ahead 331 = .ok (.goto (-127), 3) := by decide +kernel
theorem dX12_ahead_334 : decode cX12_ahead 334 = .ok (.aload_n 0, 1) := by decide +kernel
theorem dX12_ahead_335 : decode cX12_ahead 335 = .ok (.iload_n 1, 1) := by decide +kernel
theorem dX12_ahead_336 : decode cX12_ahead 336 = .ok (.putfield 26, 3) := by decide +kernel
theorem dX12_ahead_339 : decode cX12_ahead 339 = .ok (.return_, 1) := by decide +kernel
theorem dX12_isSign_0 : decode cX12_isSign 0 = .ok (.aload_n 0, 1) := by decide +kernel
theorem dX12_isSign_1 : decode cX12_isSign 1 = .ok (.getfield 20, 3) := by decide +kernel
theorem dX12_isSign_4 : decode cX12_isSign 4 = .ok (.iconst 3, 1) := by decide +kernel
theorem dX12_isSign_5 : decode cX12_isSign 5 = .ok (.if_icmp .ne 15, 3) := by decide +kernel
theorem dX12_isSign_8 : decode cX12_isSign 8 = .ok (.aload_n 0, 1) := by decide +kernel
theorem dX12_isSign_9 : decode cX12_isSign 9 = .ok (.getfield 29, 3) := by decide +kernel
theorem dX12_isSign_12 : decode cX12_isSign 12 = .ok (.iload_n 1, 1) := by decide +kernel
theorem dX12_isSign_13 : decode cX12_isSign 13 = .ok (.if_icmp .ne 7, 3) := by decide +kernel
theorem dX12_isSign_16 : decode cX12_isSign 16 = .ok (.iconst 1, 1) := by decide +kernel
theorem dX12_isSign_17 : decode cX12_isSign 17 = .ok (.goto 4, 3) := by decide +kernel
theorem dX12_isSign_20 : decode cX12_isSign 20 = .ok (.iconst 0, 1) := by decide +kernel
theorem dX12_isSign_21 : decode cX12_isSign 21 = .ok (.ireturn, 1) := by decide +kernel
theorem dX12_isWord_0 : decode cX12_isWord 0 = .ok (.aload_n 0, 1) := by decide +kernel
theorem dX12_isWord_1 : decode cX12_isWord 1 = .ok (.getfield 20, 3) := by decide +kernel
theorem dX12_isWord_4 : decode cX12_isWord 4 = .ok (.iconst 1, 1) := by decide +kernel
theorem dX12_isWord_5 : decode cX12_isWord 5 = .ok (.if_icmp .ne 16, 3) := by decide +kernel
theorem dX12_isWord_8 : decode cX12_isWord 8 = .ok (.aload_n 0, 1) := by decide +kernel
theorem dX12_isWord_9 : decode cX12_isWord 9 = .ok (.getfield 32, 3) := by decide +kernel
theorem dX12_isWord_12 : decode cX12_isWord 12 = .ok (.lload_n 1, 1) := by decide +kernel
theorem dX12_isWord_13 : decode cX12_isWord 13 = .ok (.lcmp, 1) := by decide +kernel
theorem dX12_isWord_14 : decode cX12_isWord 14 = .ok (.ifCond .ne 7, 3) := by decide +kernel
theorem dX12_isWord_17 : decode cX12_isWord 17 = .ok (.iconst 1, 1) := by decide +kernel
theorem dX12_isWord_18 : decode cX12_isWord 18 = .ok (.goto 4, 3) := by decide +kernel
theorem dX12_isWord_21 : decode cX12_isWord 21 = .ok (.iconst 0, 1) := by decide +kernel
theorem dX12_isWord_22 : decode cX12_isWord 22 = .ok (.ireturn, 1) := by decide +kernel
theorem dX12_must_0 : decode cX12_must 0 = .ok (.aload_n 0, 1) := by decide +kernel
theorem dX12_must_1 : decode cX12_must 1 = .ok (.invokevirtual 253, 3) := by decide +kernel
theorem dX12_must_4 : decode cX12_must 4 = .ok (.aload_n 0, 1) := by decide +kernel
theorem dX12_must_5 : decode cX12_must 5 = .ok (.iload_n 1, 1) := by decide +kernel
theorem dX12_must_6 : decode cX12_must 6 = .ok (.invokevirtual 256, 3) := by decide +kernel
theorem dX12_must_9 : decode cX12_must 9 = .ok (.ifCond .ne 12, 3) := by decide +kernel
theorem dX12_must_12 : decode cX12_must 12 = .ok (.aload_n 0, 1) := by decide +kernel
theorem dX12_must_13 : decode cX12_must 13 = .ok (.iconst 1, 1) := by decide +kernel
theorem dX12_must_14 : decode cX12_must 14 = .ok (.aload_n 0, 1) := by decide +kernel
theorem dX12_must_15 : decode cX12_must 15 = .ok (.getfield 23, 3) := by decide +kernel
theorem dX12_must_18 : decode cX12_must 18 = .ok (.invokevirtual 242, 3) := by decide +kernel
theorem dX12_must_21 : decode cX12_must 21 = .ok (.aload_n 0, 1) := by decide +kernel
theorem dX12_must_22 : decode cX12_must 22 = .ok (.getfield 36, 3) := by decide +kernel
theorem dX12_must_25 : decode cX12_must 25 = .ok (.ifCond .ne 7, 3) := by decide +kernel
theorem dX12_must_28 : decode cX12_must 28 = .ok (.aload_n 0, 1) := by decide +kernel
theorem dX12_must_29 : decode cX12_must 29 = .ok (.invokevirtual 259, 3) := by decide +kernel
theorem dX12_must_32 : decode cX12_must 32 = .ok (.return_, 1) := by decide +kernel
theorem dX12_isOwn_0 : decode cX12_isOwn 0 = .ok (.lload_n 1, 1) := by decide +kernel
theorem dX12_isOwn_1 : decode cX12_isOwn 1 = .ok (.ldc2_w 262, 3) := by decide +kernel
theorem dX12_isOwn_4 : decode cX12_isOwn 4 = .ok (.lcmp, 1) := by decide +kernel
theorem dX12_isOwn_5 : decode cX12_isOwn 5 = .ok (.ifCond .eq 35, 3) := by decide +kernel
theorem dX12_isOwn_8 : decode cX12_isOwn 8 = .ok (.lload_n 1, 1) := by decide +kernel
theorem dX12_isOwn_9 : decode cX12_isOwn 9 = .ok (.ldc2_w 264, 3) := by decide +kernel
theorem dX12_isOwn_12 : decode cX12_isOwn 12 = .ok (.lcmp, 1) := by decide +kernel
theorem dX12_isOwn_13 : decode cX12_isOwn 13 = .ok (.ifCond .eq 27, 3) := by decide +kernel
theorem dX12_isOwn_16 : decode cX12_isOwn 16 = .ok (.lload_n 1, 1) := by decide +kernel
theorem dX12_isOwn_17 : decode cX12_isOwn 17 = .ok (.ldc2_w 266, 3) := by decide +kernel
theorem dX12_isOwn_20 : decode cX12_isOwn 20 = .ok (.lcmp, 1) := by decide +kernel
theorem dX12_isOwn_21 : decode cX12_isOwn 21 = .ok (.ifCond .eq 19, 3) := by decide +kernel
theorem dX12_isOwn_24 : decode cX12_isOwn 24 = .ok (.lload_n 1, 1) := by decide +kernel
theorem dX12_isOwn_25 : decode cX12_isOwn 25 = .ok (.ldc2_w 268, 3) := by decide +kernel
theorem dX12_isOwn_28 : decode cX12_isOwn 28 = .ok (.lcmp, 1) := by decide +kernel
theorem dX12_isOwn_29 : decode cX12_isOwn 29 = .ok (.ifCond .eq 11, 3) := by decide +kernel
theorem dX12_isOwn_32 : decode cX12_isOwn 32 = .ok (.lload_n 1, 1) := by decide +kernel
theorem dX12_isOwn_33 : decode cX12_isOwn 33 = .ok (.ldc2_w 270, 3) := by decide +kernel
theorem dX12_isOwn_36 : decode cX12_isOwn 36 = .ok (.lcmp, 1) := by decide +kernel
theorem dX12_isOwn_37 : decode cX12_isOwn 37 = .ok (.ifCond .ne 5, 3) := by decide +kernel
theorem dX12_isOwn_40 : decode cX12_isOwn 40 = .ok (.iconst 1, 1) := by decide +kernel
theorem dX12_isOwn_41 : decode cX12_isOwn 41 = .ok (.ireturn, 1) := by decide +kernel
theorem dX12_isOwn_42 : decode cX12_isOwn 42 = .ok (.lload_n 1, 1) := by decide +kernel
theorem dX12_isOwn_43 : decode cX12_isOwn 43 = .ok (.ldc2_w 272, 3) := by decide +kernel
theorem dX12_isOwn_46 : decode cX12_isOwn 46 = .ok (.lcmp, 1) := by decide +kernel
theorem dX12_isOwn_47 : decode cX12_isOwn 47 = .ok (.ifCond .eq 35, 3) := by decide +kernel
theorem dX12_isOwn_50 : decode cX12_isOwn 50 = .ok (.lload_n 1, 1) := by decide +kernel
theorem dX12_isOwn_51 : decode cX12_isOwn 51 = .ok (.ldc2_w 274, 3) := by decide +kernel
theorem dX12_isOwn_54 : decode cX12_isOwn 54 = .ok (.lcmp, 1) := by decide +kernel
theorem dX12_isOwn_55 : decode cX12_isOwn 55 = .ok (.ifCond .eq 27, 3) := by decide +kernel
theorem dX12_isOwn_58 : decode cX12_isOwn 58 = .ok (.lload_n 1, 1) := by decide +kernel
theorem dX12_isOwn_59 : decode cX12_isOwn 59 = .ok (.ldc2_w 276, 3) := by decide +kernel
theorem dX12_isOwn_62 : decode cX12_isOwn 62 = .ok (.lcmp, 1) := by decide +kernel
theorem dX12_isOwn_63 : decode cX12_isOwn 63 = .ok (.ifCond .eq 19, 3) := by decide +kernel
theorem dX12_isOwn_66 : decode cX12_isOwn 66 = .ok (.lload_n 1, 1) := by decide +kernel
theorem dX12_isOwn_67 : decode cX12_isOwn 67 = .ok (.ldc2_w 278, 3) := by decide +kernel
theorem dX12_isOwn_70 : decode cX12_isOwn 70 = .ok (.lcmp, 1) := by decide +kernel
theorem dX12_isOwn_71 : decode cX12_isOwn 71 = .ok (.ifCond .eq 11, 3) := by decide +kernel
theorem dX12_isOwn_74 : decode cX12_isOwn 74 = .ok (.lload_n 1, 1) := by decide +kernel
theorem dX12_isOwn_75 : decode cX12_isOwn 75 = .ok (.ldc2_w 280, 3) := by decide +kernel
theorem dX12_isOwn_78 : decode cX12_isOwn 78 = .ok (.lcmp, 1) := by decide +kernel
theorem dX12_isOwn_79 : decode cX12_isOwn 79 = .ok (.ifCond .ne 5, 3) := by decide +kernel
theorem dX12_isOwn_82 : decode cX12_isOwn 82 = .ok (.iconst 1, 1) := by decide +kernel
theorem dX12_isOwn_83 : decode cX12_isOwn 83 = .ok (.ireturn, 1) := by decide +kernel
theorem dX12_isOwn_84 : decode cX12_isOwn 84 = .ok (.lload_n 1, 1) := by decide +kernel
theorem dX12_isOwn_85 : decode cX12_isOwn 85 = .ok (.ldc2_w 282, 3) := by decide +kernel
theorem dX12_isOwn_88 : decode cX12_isOwn 88 = .ok (.lcmp, 1) := by decide +kernel
theorem dX12_isOwn_89 : decode cX12_isOwn 89 = .ok (.ifCond .eq 35, 3) := by decide +kernel
theorem dX12_isOwn_92 : decode cX12_isOwn 92 = .ok (.lload_n 1, 1) := by decide +kernel
theorem dX12_isOwn_93 : decode cX12_isOwn 93 = .ok (.ldc2_w 284, 3) := by decide +kernel
theorem dX12_isOwn_96 : decode cX12_isOwn 96 = .ok (.lcmp, 1) := by decide +kernel
theorem dX12_isOwn_97 : decode cX12_isOwn 97 = .ok (.ifCond .eq 27, 3) := by decide +kernel
theorem dX12_isOwn_100 : decode cX12_isOwn 100 = .ok (.lload_n 1, 1) := by decide +kernel
theorem dX12_isOwn_101 : decode cX12_isOwn 101 = .ok (.ldc2_w 286, 3) := by decide +kernel
theorem dX12_isOwn_104 : decode cX12_isOwn 104 = .ok (.lcmp, 1) := by decide +kernel
theorem dX12_isOwn_105 : decode cX12_isOwn 105 = .ok (.ifCond .eq 19, 3) := by decide +kernel
theorem dX12_isOwn_108 : decode cX12_isOwn 108 = .ok (.lload_n 1, 1) := by decide +kernel
theorem dX12_isOwn_109 : decode cX12_isOwn 109 = .ok (.ldc2_w 288, 3) := by decide +kernel
theorem dX12_isOwn_112 : decode cX12_isOwn 112 = .ok (.lcmp, 1) := by decide +kernel
theorem dX12_isOwn_113 : decode cX12_isOwn 113 = .ok (.ifCond .eq 11, 3) := by decide +kernel
theorem dX12_isOwn_116 : decode cX12_isOwn 116 = .ok (.lload_n 1, 1) := by decide +kernel
theorem dX12_isOwn_117 : decode cX12_isOwn 117 = .ok (.ldc2_w 290, 3) := by decide +kernel
theorem dX12_isOwn_120 : decode cX12_isOwn 120 = .ok (.lcmp, 1) := by decide +kernel
theorem dX12_isOwn_121 : decode cX12_isOwn 121 = .ok (.ifCond .ne 5, 3) := by decide +kernel
theorem dX12_isOwn_124 : decode cX12_isOwn 124 = .ok (.iconst 1, 1) := by decide +kernel
theorem dX12_isOwn_125 : decode cX12_isOwn 125 = .ok (.ireturn, 1) := by decide +kernel
theorem dX12_isOwn_126 : decode cX12_isOwn 126 = .ok (.lload_n 1, 1) := by decide +kernel
theorem dX12_isOwn_127 : decode cX12_isOwn 127 = .ok (.ldc2_w 292, 3) := by decide +kernel
theorem dX12_isOwn_130 : decode cX12_isOwn 130 = .ok (.lcmp, 1) := by decide +kernel
theorem dX12_isOwn_131 : decode cX12_isOwn 131 = .ok (.ifCond .eq 35, 3) := by decide +kernel
theorem dX12_isOwn_134 : decode cX12_isOwn 134 = .ok (.lload_n 1, 1) := by decide +kernel
theorem dX12_isOwn_135 : decode cX12_isOwn 135 = .ok (.ldc2_w 294, 3) := by decide +kernel
theorem dX12_isOwn_138 : decode cX12_isOwn 138 = .ok (.lcmp, 1) := by decide +kernel
theorem dX12_isOwn_139 : decode cX12_isOwn 139 = .ok (.ifCond .eq 27, 3) := by decide +kernel
theorem dX12_isOwn_142 : decode cX12_isOwn 142 = .ok (.lload_n 1, 1) := by decide +kernel
theorem dX12_isOwn_143 : decode cX12_isOwn 143 = .ok (.ldc2_w 296, 3) := by decide +kernel
theorem dX12_isOwn_146 : decode cX12_isOwn 146 = .ok (.lcmp, 1) := by decide +kernel
theorem dX12_isOwn_147 : decode cX12_isOwn 147 = .ok (.ifCond .eq 19, 3) := by decide +kernel
theorem dX12_isOwn_150 : decode cX12_isOwn 150 = .ok (.lload_n 1, 1) := by decide +kernel
theorem dX12_isOwn_151 : decode cX12_isOwn 151 = .ok (.ldc2_w 298, 3) := by decide +kernel
theorem dX12_isOwn_154 : decode cX12_isOwn 154 = .ok (.lcmp, 1) := by decide +kernel
theorem dX12_isOwn_155 : decode cX12_isOwn 155 = .ok (.ifCond .eq 11, 3) := by decide +kernel
theorem dX12_isOwn_158 : decode cX12_isOwn 158 = .ok (.lload_n 1, 1) := by decide +kernel
theorem dX12_isOwn_159 : decode cX12_isOwn 159 = .ok (.ldc2_w 300, 3) := by decide +kernel
theorem dX12_isOwn_162 : decode cX12_isOwn 162 = .ok (.lcmp, 1) := by decide +kernel
theorem dX12_isOwn_163 : decode cX12_isOwn 163 = .ok (.ifCond .ne 5, 3) := by decide +kernel
theorem dX12_isOwn_166 : decode cX12_isOwn 166 = .ok (.iconst 1, 1) := by decide +kernel
theorem dX12_isOwn_167 : decode cX12_isOwn 167 = .ok (.ireturn, 1) := by decide +kernel
theorem dX12_isOwn_168 : decode cX12_isOwn 168 = .ok (.lload_n 1, 1) := by decide +kernel
theorem dX12_isOwn_169 : decode cX12_isOwn 169 = .ok (.ldc2_w 302, 3) := by decide +kernel
theorem dX12_isOwn_172 : decode cX12_isOwn 172 = .ok (.lcmp, 1) := by decide +kernel
theorem dX12_isOwn_173 : decode cX12_isOwn 173 = .ok (.ifCond .eq 35, 3) := by decide +kernel
theorem dX12_isOwn_176 : decode cX12_isOwn 176 = .ok (.lload_n 1, 1) := by decide +kernel
theorem dX12_isOwn_177 : decode cX12_isOwn 177 = .ok (.ldc2_w 304, 3) := by decide +kernel
theorem dX12_isOwn_180 : decode cX12_isOwn 180 = .ok (.lcmp, 1) := by decide +kernel
theorem dX12_isOwn_181 : decode cX12_isOwn 181 = .ok (.ifCond .eq 27, 3) := by decide +kernel
theorem dX12_isOwn_184 : decode cX12_isOwn 184 = .ok (.lload_n 1, 1) := by decide +kernel
theorem dX12_isOwn_185 : decode cX12_isOwn 185 = .ok (.ldc2_w 306, 3) := by decide +kernel
theorem dX12_isOwn_188 : decode cX12_isOwn 188 = .ok (.lcmp, 1) := by decide +kernel
theorem dX12_isOwn_189 : decode cX12_isOwn 189 = .ok (.ifCond .eq 19, 3) := by decide +kernel
theorem dX12_isOwn_192 : decode cX12_isOwn 192 = .ok (.lload_n 1, 1) := by decide +kernel
theorem dX12_isOwn_193 : decode cX12_isOwn 193 = .ok (.ldc2_w 308, 3) := by decide +kernel
theorem dX12_isOwn_196 : decode cX12_isOwn 196 = .ok (.lcmp, 1) := by decide +kernel
theorem dX12_isOwn_197 : decode cX12_isOwn 197 = .ok (.ifCond .eq 11, 3) := by decide +kernel
theorem dX12_isOwn_200 : decode cX12_isOwn 200 = .ok (.lload_n 1, 1) := by decide +kernel
theorem dX12_isOwn_201 : decode cX12_isOwn 201 = .ok (.ldc2_w 310, 3) := by decide +kernel
theorem dX12_isOwn_204 : decode cX12_isOwn 204 = .ok (.lcmp, 1) := by decide +kernel
theorem dX12_isOwn_205 : decode cX12_isOwn 205 = .ok (.ifCond .ne 5, 3) := by decide +kernel
theorem dX12_isOwn_208 : decode cX12_isOwn 208 = .ok (.iconst 1, 1) := by decide +kernel
theorem dX12_isOwn_209 : decode cX12_isOwn 209 = .ok (.ireturn, 1) := by decide +kernel
theorem dX12_isOwn_210 : decode cX12_isOwn 210 = .ok (.lload_n 1, 1) := by decide +kernel
theorem dX12_isOwn_211 : decode cX12_isOwn 211 = .ok (.ldc2_w 312, 3) := by decide +kernel
theorem dX12_isOwn_214 : decode cX12_isOwn 214 = .ok (.lcmp, 1) := by decide +kernel
theorem dX12_isOwn_215 : decode cX12_isOwn 215 = .ok (.ifCond .eq 19, 3) := by decide +kernel
theorem dX12_isOwn_218 : decode cX12_isOwn 218 = .ok (.lload_n 1, 1) := by decide +kernel
theorem dX12_isOwn_219 : decode cX12_isOwn 219 = .ok (.ldc2_w 314, 3) := by decide +kernel
theorem dX12_isOwn_222 : decode cX12_isOwn 222 = .ok (.lcmp, 1) := by decide +kernel
theorem dX12_isOwn_223 : decode cX12_isOwn 223 = .ok (.ifCond .eq 11, 3) := by decide +kernel
theorem dX12_isOwn_226 : decode cX12_isOwn 226 = .ok (.lload_n 1, 1) := by decide +kernel
theorem dX12_isOwn_227 : decode cX12_isOwn 227 = .ok (.ldc2_w 316, 3) := by decide +kernel
theorem dX12_isOwn_230 : decode cX12_isOwn 230 = .ok (.lcmp, 1) := by decide +kernel
theorem dX12_isOwn_231 : decode cX12_isOwn 231 = .ok (.ifCond .ne 5, 3) := by decide +kernel
theorem dX12_isOwn_234 : decode cX12_isOwn 234 = .ok (.iconst 1, 1) := by decide +kernel
theorem dX12_isOwn_235 : decode cX12_isOwn 235 = .ok (.ireturn, 1) := by decide +kernel
theorem dX12_isOwn_236 : decode cX12_isOwn 236 = .ok (.iconst 0, 1) := by decide +kernel
theorem dX12_isOwn_237 : decode cX12_isOwn 237 = .ok (.ireturn, 1) := by decide +kernel
theorem dX12_isDefault_0 : decode cX12_isDefault 0 = .ok (.aload_n 0, 1) := by decide +kernel
theorem dX12_isDefault_1 : decode cX12_isDefault 1 = .ok (.getfield 81, 3) := by decide +kernel
theorem dX12_isDefault_4 : decode cX12_isDefault 4 = .ok (.iconst 3, 1) := by decide +kernel
theorem dX12_isDefault_5 : decode cX12_isDefault 5 = .ok (.iload_n 1, 1) := by decide +kernel
theorem dX12_isDefault_6 : decode cX12_isDefault 6 = .ok (.imul, 1) := by decide +kernel
theorem dX12_isDefault_7 : decode cX12_isDefault 7 = .ok (.iconst 0, 1) := by decide +kernel
theorem dX12_isDefault_8 : decode cX12_isDefault 8 = .ok (.iadd, 1) := by decide +kernel
theorem dX12_isDefault_9 : decode cX12_isDefault 9 = .ok (.sipush 500, 3) := by decide +kernel
theorem dX12_isDefault_12 : decode cX12_isDefault 12 = .ok (.iastore, 1) := by decide +kernel
theorem dX12_isDefault_13 : decode cX12_isDefault 13 = .ok (.aload_n 0, 1) := by decide +kernel
theorem dX12_isDefault_14 : decode cX12_isDefault 14 = .ok (.getfield 81, 3) := by decide +kernel
theorem dX12_isDefault_17 : decode cX12_isDefault 17 = .ok (.iconst 3, 1) := by decide +kernel
theorem dX12_isDefault_18 : decode cX12_isDefault 18 = .ok (.iload_n 1, 1) := by decide +kernel
theorem dX12_isDefault_19 : decode cX12_isDefault 19 = .ok (.imul, 1) := by decide +kernel
theorem dX12_isDefault_20 : decode cX12_isDefault 20 = .ok (.iconst 1, 1) := by decide +kernel
theorem dX12_isDefault_21 : decode cX12_isDefault 21 = .ok (.iadd, 1) := by decide +kernel
theorem dX12_isDefault_22 : decode cX12_isDefault 22 = .ok (.iconst 0, 1) := by decide +kernel
theorem dX12_isDefault_23 : decode cX12_isDefault 23 = .ok (.iastore, 1) := by decide +kernel
theorem dX12_isDefault_24 : decode cX12_isDefault 24 = .ok (.aload_n 0, 1) := by decide +kernel
theorem dX12_isDefault_25 : decode cX12_isDefault 25 = .ok (.getfield 81, 3) := by decide +kernel
theorem dX12_isDefault_28 : decode cX12_isDefault 28 = .ok (.iconst 3, 1) := by decide +kernel
theorem dX12_isDefault_29 : decode cX12_isDefault 29 = .ok (.iload_n 1, 1) := by decide +kernel
theorem dX12_isDefault_30 : decode cX12_isDefault 30 = .ok (.imul, 1) := by decide +kernel
theorem dX12_isDefault_31 : decode cX12_isDefault 31 = .ok (.iconst 2, 1) := by decide +kernel
theorem dX12_isDefault_32 : decode cX12_isDefault 32 = .ok (.iadd, 1) := by decide +kernel
theorem dX12_isDefault_33 : decode cX12_isDefault 33 = .ok (.iconst 0, 1) := by decide +kernel
theorem dX12_isDefault_34 : decode cX12_isDefault 34 = .ok (.iastore, 1) := by decide +kernel
theorem dX12_isDefault_35 : decode cX12_isDefault 35 = .ok (.return_, 1) := by decide +kernel
theorem dX12_toldOf_0 : decode cX12_toldOf 0 = .ok (.aload_n 0, 1) := by decide +kernel
theorem dX12_toldOf_1 : decode cX12_toldOf 1 = .ok (.getfield 81, 3) := by decide +kernel
theorem dX12_toldOf_4 : decode cX12_toldOf 4 = .ok (.iconst 3, 1) := by decide +kernel
theorem dX12_toldOf_5 : decode cX12_toldOf 5 = .ok (.aload_n 0, 1) := by decide +kernel
theorem dX12_toldOf_6 : decode cX12_toldOf 6 = .ok (.getfield 51, 3) := by decide +kernel
theorem dX12_toldOf_9 : decode cX12_toldOf 9 = .ok (.imul, 1) := by decide +kernel
theorem dX12_toldOf_10 : decode cX12_toldOf 10 = .ok (.iload_n 1, 1) := by decide +kernel
theorem dX12_toldOf_11 : decode cX12_toldOf 11 = .ok (.iadd, 1) := by decide +kernel
theorem dX12_toldOf_12 : decode cX12_toldOf 12 = .ok (.iaload, 1) := by decide +kernel
theorem dX12_toldOf_13 : decode cX12_toldOf 13 = .ok (.ireturn, 1) := by decide +kernel
theorem dX12_named_0 : decode cX12_named 0 = .ok (.iconst 0, 1) := by decide +kernel
theorem dX12_named_1 : decode cX12_named 1 = .ok (.istore_n 3, 1) := by decide +kernel
theorem dX12_named_2 : decode cX12_named 2 = .ok (.iload_n 3, 1) := by decide +kernel
