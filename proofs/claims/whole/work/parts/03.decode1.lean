-- the decode rows as printed for this claim (a starting text)
theorem dX6_number_65 : decode cX6_number 65 = .ok (.if_icmp .le 7, 3) := by decide +kernel
theorem dX6_number_68 : decode cX6_number 68 = .ok (.iconst 0, 1) := by decide +kernel
theorem dX6_number_69 : decode cX6_number 69 = .ok (.goto 15, 3) := by decide +kernel
theorem dX6_number_72 : decode cX6_number 72 = .ok (.iload_n 3, 1) := by decide +kernel
theorem dX6_number_73 : decode cX6_number 73 = .ok (.bipush 10, 2) := by decide +kernel
theorem dX6_number_75 : decode cX6_number 75 = .ok (.imul, 1) := by decide +kernel
theorem dX6_number_76 : decode cX6_number 76 = .ok (.aload_n 0, 1) := by decide +kernel
theorem dX6_number_77 : decode cX6_number 77 = .ok (.invokevirtual 47, 3) := by decide +kernel
theorem dX6_number_80 : decode cX6_number 80 = .ok (.bipush 48, 2) := by decide +kernel
theorem dX6_number_82 : decode cX6_number 82 = .ok (.isub, 1) := by decide +kernel
theorem dX6_number_83 : decode cX6_number 83 = .ok (.iadd, 1) := by decide +kernel
theorem dX6_number_84 : decode cX6_number 84 = .ok (.istore_n 3, 1) := by decide +kernel
theorem dX6_number_85 : decode cX6_number 85 = .ok (.aload_n 0, 1) := by decide +kernel
theorem dX6_number_86 : decode cX6_number 86 = .ok (.dup, 1) := by decide +kernel
theorem dX6_number_87 : decode cX6_number 87 = .ok (.getfield 29, 3) := by decide +kernel
theorem dX6_number_90 : decode cX6_number 90 = .ok (.iconst 1, 1) := by decide +kernel
theorem dX6_number_91 : decode cX6_number 91 = .ok (.iadd, 1) := by decide +kernel
theorem dX6_number_92 : decode cX6_number 92 = .ok (.putfield 29, 3) := by decide +kernel
theorem dX6_number_95 : decode cX6_number 95 = .ok (.goto (-57), 3) := by decide +kernel
theorem dX6_number_98 : decode cX6_number 98 = .ok (.iload 4, 2) := by decide +kernel
theorem dX6_number_100 : decode cX6_number 100 = .ok (.iconst 3, 1) := by decide +kernel
theorem dX6_number_101 : decode cX6_number 101 = .ok (.if_icmp .gt 13, 3) := by decide +kernel
theorem dX6_number_104 : decode cX6_number 104 = .ok (.iload_n 3, 1) := by decide +kernel
theorem dX6_number_105 : decode cX6_number 105 = .ok (.iload_n 1, 1) := by decide +kernel
theorem dX6_number_106 : decode cX6_number 106 = .ok (.if_icmp .lt 8, 3) := by decide +kernel
theorem dX6_number_109 : decode cX6_number 109 = .ok (.iload_n 3, 1) := by decide +kernel
theorem dX6_number_110 : decode cX6_number 110 = .ok (.iload_n 2, 1) := by decide +kernel
theorem dX6_number_111 : decode cX6_number 111 = .ok (.if_icmp .le 12, 3) := by decide +kernel
theorem dX6_number_114 : decode cX6_number 114 = .ok (.aload_n 0, 1) := by decide +kernel
theorem dX6_number_115 : decode cX6_number 115 = .ok (.iconst 2, 1) := by decide +kernel
theorem dX6_number_116 : decode cX6_number 116 = .ok (.aload_n 0, 1) := by decide +kernel
theorem dX6_number_117 : decode cX6_number 117 = .ok (.getfield 32, 3) := by decide +kernel
theorem dX6_number_120 : decode cX6_number 120 = .ok (.invokevirtual 55, 3) := by decide +kernel
theorem dX6_number_123 : decode cX6_number 123 = .ok (.iload_n 3, 1) := by decide +kernel
theorem dX6_number_124 : decode cX6_number 124 = .ok (.ireturn, 1) := by decide +kernel
theorem dX6_skipBlanks_0 : decode cX6_skipBlanks 0 = .ok (.aload_n 0, 1) := by decide +kernel
theorem dX6_skipBlanks_1 : decode cX6_skipBlanks 1 = .ok (.getfield 29, 3) := by decide +kernel
theorem dX6_skipBlanks_4 : decode cX6_skipBlanks 4 = .ok (.aload_n 0, 1) := by decide +kernel
theorem dX6_skipBlanks_5 : decode cX6_skipBlanks 5 = .ok (.getfield 26, 3) := by decide +kernel
theorem dX6_skipBlanks_8 : decode cX6_skipBlanks 8 = .ok (.if_icmp .ge 25, 3) := by decide +kernel
theorem dX6_skipBlanks_11 : decode cX6_skipBlanks 11 = .ok (.aload_n 0, 1) := by decide +kernel
theorem dX6_skipBlanks_12 : decode cX6_skipBlanks 12 = .ok (.invokevirtual 47, 3) := by decide +kernel
theorem dX6_skipBlanks_15 : decode cX6_skipBlanks 15 = .ok (.bipush 32, 2) := by decide +kernel
theorem dX6_skipBlanks_17 : decode cX6_skipBlanks 17 = .ok (.if_icmp .ne 16, 3) := by decide +kernel
theorem dX6_skipBlanks_20 : decode cX6_skipBlanks 20 = .ok (.aload_n 0, 1) := by decide +kernel
theorem dX6_skipBlanks_21 : decode cX6_skipBlanks 21 = .ok (.dup, 1) := by decide +kernel
theorem dX6_skipBlanks_22 : decode cX6_skipBlanks 22 = .ok (.getfield 29, 3) := by decide +kernel
theorem dX6_skipBlanks_25 : decode cX6_skipBlanks 25 = .ok (.iconst 1, 1) := by decide +kernel
theorem dX6_skipBlanks_26 : decode cX6_skipBlanks 26 = .ok (.iadd, 1) := by decide +kernel
theorem dX6_skipBlanks_27 : decode cX6_skipBlanks 27 = .ok (.putfield 29, 3) := by decide +kernel
theorem dX6_skipBlanks_30 : decode cX6_skipBlanks 30 = .ok (.goto (-30), 3) := by decide +kernel
theorem dX6_skipBlanks_33 : decode cX6_skipBlanks 33 = .ok (.return_, 1) := by decide +kernel
theorem dX6_letterHere_0 : decode cX6_letterHere 0 = .ok (.aload_n 0, 1) := by decide +kernel
theorem dX6_letterHere_1 : decode cX6_letterHere 1 = .ok (.getfield 29, 3) := by decide +kernel
theorem dX6_letterHere_4 : decode cX6_letterHere 4 = .ok (.ifCond .lt 36, 3) := by decide +kernel
theorem dX6_letterHere_7 : decode cX6_letterHere 7 = .ok (.aload_n 0, 1) := by decide +kernel
theorem dX6_letterHere_8 : decode cX6_letterHere 8 = .ok (.getfield 29, 3) := by decide +kernel
theorem dX6_letterHere_11 : decode cX6_letterHere 11 = .ok (.aload_n 0, 1) := by decide +kernel
theorem dX6_letterHere_12 : decode cX6_letterHere 12 = .ok (.getfield 26, 3) := by decide +kernel
theorem dX6_letterHere_15 : decode cX6_letterHere 15 = .ok (.if_icmp .ge 25, 3) := by decide +kernel
theorem dX6_letterHere_18 : decode cX6_letterHere 18 = .ok (.aload_n 0, 1) := by decide +kernel
theorem dX6_letterHere_19 : decode cX6_letterHere 19 = .ok (.getfield 29, 3) := by decide +kernel
theorem dX6_letterHere_22 : decode cX6_letterHere 22 = .ok (.sipush 240, 3) := by decide +kernel
theorem dX6_letterHere_25 : decode cX6_letterHere 25 = .ok (.if_icmp .ge 15, 3) := by decide +kernel
theorem dX6_letterHere_28 : decode cX6_letterHere 28 = .ok (.aload_n 0, 1) := by decide +kernel
theorem dX6_letterHere_29 : decode cX6_letterHere 29 = .ok (.getfield 18, 3) := by decide +kernel
theorem dX6_letterHere_32 : decode cX6_letterHere 32 = .ok (.aload_n 0, 1) := by decide +kernel
theorem dX6_letterHere_33 : decode cX6_letterHere 33 = .ok (.getfield 29, 3) := by decide +kernel
theorem dX6_letterHere_36 : decode cX6_letterHere 36 = .ok (.caload, 1) := by decide +kernel
theorem dX6_letterHere_37 : decode cX6_letterHere 37 = .ok (.goto 4, 3) := by decide +kernel
theorem dX6_letterHere_40 : decode cX6_letterHere 40 = .ok (.iconst (-1), 1) := by decide +kernel
theorem dX6_letterHere_41 : decode cX6_letterHere 41 = .ok (.ireturn, 1) := by decide +kernel
theorem dX6_isFigure_0 : decode cX6_isFigure 0 = .ok (.iload_n 0, 1) := by decide +kernel
theorem dX6_isFigure_1 : decode cX6_isFigure 1 = .ok (.bipush 48, 2) := by decide +kernel
theorem dX6_isFigure_3 : decode cX6_isFigure 3 = .ok (.if_icmp .lt 13, 3) := by decide +kernel
theorem dX6_isFigure_6 : decode cX6_isFigure 6 = .ok (.iload_n 0, 1) := by decide +kernel
theorem dX6_isFigure_7 : decode cX6_isFigure 7 = .ok (.bipush 57, 2) := by decide +kernel
theorem dX6_isFigure_9 : decode cX6_isFigure 9 = .ok (.if_icmp .gt 7, 3) := by decide +kernel
theorem dX6_isFigure_12 : decode cX6_isFigure 12 = .ok (.iconst 1, 1) := by decide +kernel
theorem dX6_isFigure_13 : decode cX6_isFigure 13 = .ok (.goto 4, 3) := by decide +kernel
theorem dX6_isFigure_16 : decode cX6_isFigure 16 = .ok (.iconst 0, 1) := by decide +kernel
theorem dX6_isFigure_17 : decode cX6_isFigure 17 = .ok (.ireturn, 1) := by decide +kernel
theorem dX6_fails_0 : decode cX6_fails 0 = .ok (.aload_n 0, 1) := by decide +kernel
theorem dX6_fails_1 : decode cX6_fails 1 = .ok (.getfield 35, 3) := by decide +kernel
theorem dX6_fails_4 : decode cX6_fails 4 = .ok (.ifCond .ne 13, 3) := by decide +kernel
theorem dX6_fails_7 : decode cX6_fails 7 = .ok (.aload_n 0, 1) := by decide +kernel
theorem dX6_fails_8 : decode cX6_fails 8 = .ok (.iload_n 1, 1) := by decide +kernel
theorem dX6_fails_9 : decode cX6_fails 9 = .ok (.putfield 35, 3) := by decide +kernel
theorem dX6_fails_12 : decode cX6_fails 12 = .ok (.aload_n 0, 1) := by decide +kernel
theorem dX6_fails_13 : decode cX6_fails 13 = .ok (.iload_n 2, 1) := by decide +kernel
theorem dX6_fails_14 : decode cX6_fails 14 = .ok (.putfield 22, 3) := by decide +kernel
theorem dX6_fails_17 : decode cX6_fails 17 = .ok (.return_, 1) := by decide +kernel
theorem dX7_init_0 : decode cX7_init 0 = .ok (.aload_n 0, 1) := by decide +kernel
theorem dX7_init_1 : decode cX7_init 1 = .ok (.invokespecial 3, 3) := by decide +kernel
theorem dX7_init_4 : decode cX7_init 4 = .ok (.aload_n 0, 1) := by decide +kernel
theorem dX7_init_5 : decode cX7_init 5 = .ok (.bipush 9, 2) := by decide +kernel
theorem dX7_init_7 : decode cX7_init 7 = .ok (.newarray .int, 2) := by decide +kernel
theorem dX7_init_9 : decode cX7_init 9 = .ok (.putfield 9, 3) := by decide +kernel
theorem dX7_init_12 : decode cX7_init 12 = .ok (.aload_n 0, 1) := by decide +kernel
theorem dX7_init_13 : decode cX7_init 13 = .ok (.bipush 9, 2) := by decide +kernel
theorem dX7_init_15 : decode cX7_init 15 = .ok (.newarray .int, 2) := by decide +kernel
theorem dX7_init_17 : decode cX7_init 17 = .ok (.putfield 15, 3) := by decide +kernel
theorem dX7_init_20 : decode cX7_init 20 = .ok (.aload_n 0, 1) := by decide +kernel
theorem dX7_init_21 : decode cX7_init 21 = .ok (.bipush 14, 2) := by decide +kernel
theorem dX7_init_23 : decode cX7_init 23 = .ok (.newarray .int, 2) := by decide +kernel
theorem dX7_init_25 : decode cX7_init 25 = .ok (.putfield 18, 3) := by decide +kernel
theorem dX7_init_28 : decode cX7_init 28 = .ok (.aload_n 0, 1) := by decide +kernel
theorem dX7_init_29 : decode cX7_init 29 = .ok (.bipush 14, 2) := by decide +kernel
theorem dX7_init_31 : decode cX7_init 31 = .ok (.newarray .int, 2) := by decide +kernel
theorem dX7_init_33 : decode cX7_init 33 = .ok (.putfield 21, 3) := by decide +kernel
theorem dX7_init_36 : decode cX7_init 36 = .ok (.return_, 1) := by decide +kernel
theorem dX7_forget_0 : decode cX7_forget 0 = .ok (.aload_n 0, 1) := by decide +kernel
theorem dX7_forget_1 : decode cX7_forget 1 = .ok (.iconst 0, 1) := by decide +kernel
theorem dX7_forget_2 : decode cX7_forget 2 = .ok (.putfield 24, 3) := by decide +kernel
theorem dX7_forget_5 : decode cX7_forget 5 = .ok (.aload_n 0, 1) := by decide +kernel
theorem dX7_forget_6 : decode cX7_forget 6 = .ok (.iconst 0, 1) := by decide +kernel
theorem dX7_forget_7 : decode cX7_forget 7 = .ok (.putfield 28, 3) := by decide +kernel
theorem dX7_forget_10 : decode cX7_forget 10 = .ok (.aload_n 0, 1) := by decide +kernel
theorem dX7_forget_11 : decode cX7_forget 11 = .ok (.iconst 0, 1) := by decide +kernel
theorem dX7_forget_12 : decode cX7_forget 12 = .ok (.putfield 32, 3) := by decide +kernel
theorem dX7_forget_15 : decode cX7_forget 15 = .ok (.aload_n 0, 1) := by decide +kernel
theorem dX7_forget_16 : decode cX7_forget 16 = .ok (.iconst 0, 1) := by decide +kernel
theorem dX7_forget_17 : decode cX7_forget 17 = .ok (.putfield 35, 3) := by decide +kernel
theorem dX7_forget_20 : decode cX7_forget 20 = .ok (.aload_n 0, 1) := by decide +kernel
theorem dX7_forget_21 : decode cX7_forget 21 = .ok (.iconst 0, 1) := by decide +kernel
theorem dX7_forget_22 : decode cX7_forget 22 = .ok (.putfield 38, 3) := by decide +kernel
theorem dX7_forget_25 : decode cX7_forget 25 = .ok (.return_, 1) := by decide +kernel
theorem dX7_becomes_0 : decode cX7_becomes 0 = .ok (.aload_n 0, 1) := by decide +kernel
theorem dX7_becomes_1 : decode cX7_becomes 1 = .ok (.aload_n 1, 1) := by decide +kernel
theorem dX7_becomes_2 : decode cX7_becomes 2 = .ok (.getfield 24, 3) := by decide +kernel
theorem dX7_becomes_5 : decode cX7_becomes 5 = .ok (.putfield 24, 3) := by decide +kernel
theorem dX7_becomes_8 : decode cX7_becomes 8 = .ok (.aload_n 0, 1) := by decide +kernel
theorem dX7_becomes_9 : decode cX7_becomes 9 = .ok (.aload_n 1, 1) := by decide +kernel
theorem dX7_becomes_10 : decode cX7_becomes 10 = .ok (.getfield 28, 3) := by decide +kernel
theorem dX7_becomes_13 : decode cX7_becomes 13 = .ok (.putfield 28, 3) := by decide +kernel
theorem dX7_becomes_16 : decode cX7_becomes 16 = .ok (.aload_n 0, 1) := by decide +kernel
theorem dX7_becomes_17 : decode cX7_becomes 17 = .ok (.aload_n 1, 1) := by decide +kernel
theorem dX7_becomes_18 : decode cX7_becomes 18 = .ok (.getfield 32, 3) := by decide +kernel
theorem dX7_becomes_21 : decode cX7_becomes 21 = .ok (.putfield 32, 3) := by decide +kernel
theorem dX7_becomes_24 : decode cX7_becomes 24 = .ok (.aload_n 0, 1) := by decide +kernel
theorem dX7_becomes_25 : decode cX7_becomes 25 = .ok (.aload_n 1, 1) := by decide +kernel
theorem dX7_becomes_26 : decode cX7_becomes 26 = .ok (.getfield 35, 3) := by decide +kernel
theorem dX7_becomes_29 : decode cX7_becomes 29 = .ok (.putfield 35, 3) := by decide +kernel
theorem dX7_becomes_32 : decode cX7_becomes 32 = .ok (.aload_n 0, 1) := by decide +kernel
theorem dX7_becomes_33 : decode cX7_becomes 33 = .ok (.aload_n 1, 1) := by decide +kernel
theorem dX7_becomes_34 : decode cX7_becomes 34 = .ok (.getfield 38, 3) := by decide +kernel
theorem dX7_becomes_37 : decode cX7_becomes 37 = .ok (.putfield 38, 3) := by decide +kernel
theorem dX7_becomes_40 : decode cX7_becomes 40 = .ok (.iconst 0, 1) := by decide +kernel
theorem dX7_becomes_41 : decode cX7_becomes 41 = .ok (.istore_n 2, 1) := by decide +kernel
theorem dX7_becomes_42 : decode cX7_becomes 42 = .ok (.iload_n 2, 1) := by decide +kernel
theorem dX7_becomes_43 : decode cX7_becomes 43 = .ok (.bipush 9, 2) := by decide +kernel
theorem dX7_becomes_45 : decode cX7_becomes 45 = .ok (.if_icmp .ge 33, 3) := by decide +kernel
theorem dX7_becomes_48 : decode cX7_becomes 48 = .ok (.aload_n 0, 1) := by decide +kernel
theorem dX7_becomes_49 : decode cX7_becomes 49 = .ok (.getfield 9, 3) := by decide +kernel
theorem dX7_becomes_52 : decode cX7_becomes 52 = .ok (.iload_n 2, 1) := by decide +kernel
theorem dX7_becomes_53 : decode cX7_becomes 53 = .ok (.aload_n 1, 1) := by decide +kernel
theorem dX7_becomes_54 : decode cX7_becomes 54 = .ok (.getfield 9, 3) := by decide +kernel
theorem dX7_becomes_57 : decode cX7_becomes 57 = .ok (.iload_n 2, 1) := by decide +kernel
theorem dX7_becomes_58 : decode cX7_becomes 58 = .ok (.iaload, 1) := by decide +kernel
theorem dX7_becomes_59 : decode cX7_becomes 59 = .ok (.iastore, 1) := by decide +kernel
theorem dX7_becomes_60 : decode cX7_becomes 60 = .ok (.aload_n 0, 1) := by decide +kernel
theorem dX7_becomes_61 : decode cX7_becomes 61 = .ok (.getfield 15, 3) := by decide +kernel
theorem dX7_becomes_64 : decode cX7_becomes 64 = .ok (.iload_n 2, 1) := by decide +kernel
theorem dX7_becomes_65 : decode cX7_becomes 65 = .ok (.aload_n 1, 1) := by decide +kernel
theorem dX7_becomes_66 : decode cX7_becomes 66 = .ok (.getfield 15, 3) := by decide +kernel
theorem dX7_becomes_69 : decode cX7_becomes 69 = .ok (.iload_n 2, 1) := by decide +kernel
theorem dX7_becomes_70 : decode cX7_becomes 70 = .ok (.iaload, 1) := by decide +kernel
theorem dX7_becomes_71 : decode cX7_becomes 71 = .ok (.iastore, 1) := by decide +kernel
theorem dX7_becomes_72 : decode cX7_becomes 72 = .ok (.iinc 2 1, 3) := by decide +kernel
theorem dX7_becomes_75 : decode cX7_becomes 75 = .ok (.goto (-33), 3) := by decide +kernel
theorem dX7_becomes_78 : decode cX7_becomes 78 = .ok (.iconst 0, 1) := by decide +kernel
theorem dX7_becomes_79 : decode cX7_becomes 79 = .ok (.istore_n 2, 1) := by decide +kernel
theorem dX7_becomes_80 : decode cX7_becomes 80 = .ok (.iload_n 2, 1) := by decide +kernel
theorem dX7_becomes_81 : decode cX7_becomes 81 = .ok (.bipush 14, 2) := by decide +kernel
theorem dX7_becomes_83 : decode cX7_becomes 83 = .ok (.if_icmp .ge 33, 3) := by decide +kernel
theorem dX7_becomes_86 : decode cX7_becomes 86 = .ok (.aload_n 0, 1) := by decide +kernel
theorem dX7_becomes_87 : decode cX7_becomes 87 = .ok (.getfield 18, 3) := by decide +kernel
theorem dX7_becomes_90 : decode cX7_becomes 90 = .ok (.iload_n 2, 1) := by decide +kernel
theorem dX7_becomes_91 : decode cX7_becomes 91 = .ok (.aload_n 1, 1) := by decide +kernel
theorem dX7_becomes_92 : decode cX7_becomes 92 = .ok (.getfield 18, 3) := by decide +kernel
theorem dX7_becomes_95 : decode cX7_becomes 95 = .ok (.iload_n 2, 1) := by decide +kernel
theorem dX7_becomes_96 : decode cX7_becomes 96 = .ok (.iaload, 1) := by decide +kernel
theorem dX7_becomes_97 : decode cX7_becomes 97 = .ok (.iastore, 1) := by decide +kernel
theorem dX7_becomes_98 : decode cX7_becomes 98 = .ok (.aload_n 0, 1) := by decide +kernel
theorem dX7_becomes_99 : decode cX7_becomes 99 = .ok (.getfield 21, 3) := by decide +kernel
theorem dX7_becomes_102 : decode cX7_becomes 102 = .ok (.iload_n 2, 1) := by decide +kernel
theorem dX7_becomes_103 : decode cX7_becomes 103 = .ok (.aload_n 1, 1) := by decide +kernel
theorem dX7_becomes_104 : decode cX7_becomes 104 = .ok (.getfield 21, 3) := by decide +kernel
theorem dX7_becomes_107 : decode cX7_becomes 107 = .ok (.iload_n 2, 1) := by decide +kernel
theorem dX7_becomes_108 : decode cX7_becomes 108 = .ok (.iaload, 1) := by decide +kernel
theorem dX7_becomes_109 : decode cX7_becomes 109 = .ok (.iastore, 1) := by decide +kernel
theorem dX7_becomes_110 : decode cX7_becomes 110 = .ok (.iinc 2 1, 3) := by decide +kernel
theorem dX7_becomes_113 : decode cX7_becomes 113 = .ok (.goto (-33), 3) := by decide +kernel
theorem dX7_becomes_116 : decode cX7_becomes 116 = .ok (.return_, 1) := by decide +kernel
theorem dX7_hasTable_0 : decode cX7_hasTable 0 = .ok (.iload_n 1, 1) := by decide +kernel
theorem dX7_hasTable_1 : decode cX7_hasTable 1 = .ok (.ifCond .lt 15, 3) := by decide +kernel
theorem dX7_hasTable_4 : decode cX7_hasTable 4 = .ok (.iload_n 1, 1) := by decide +kernel
theorem dX7_hasTable_5 : decode cX7_hasTable 5 = .ok (.aload_n 0, 1) := by decide +kernel
theorem dX7_hasTable_6 : decode cX7_hasTable 6 = .ok (.getfield 35, 3) := by decide +kernel
theorem dX7_hasTable_9 : decode cX7_hasTable 9 = .ok (.if_icmp .ge 7, 3) := by decide +kernel
theorem dX7_hasTable_12 : decode cX7_hasTable 12 = .ok (.iconst 1, 1) := by decide +kernel
theorem dX7_hasTable_13 : decode cX7_hasTable 13 = .ok (.goto 4, 3) := by decide +kernel
theorem dX7_hasTable_16 : decode cX7_hasTable 16 = .ok (.iconst 0, 1) := by decide +kernel
theorem dX7_hasTable_17 : decode cX7_hasTable 17 = .ok (.ireturn, 1) := by decide +kernel
theorem dX7_hasWay_0 : decode cX7_hasWay 0 = .ok (.iload_n 1, 1) := by decide +kernel
theorem dX7_hasWay_1 : decode cX7_hasWay 1 = .ok (.ifCond .lt 15, 3) := by decide +kernel
theorem dX7_hasWay_4 : decode cX7_hasWay 4 = .ok (.iload_n 1, 1) := by decide +kernel
theorem dX7_hasWay_5 : decode cX7_hasWay 5 = .ok (.aload_n 0, 1) := by decide +kernel
theorem dX7_hasWay_6 : decode cX7_hasWay 6 = .ok (.getfield 38, 3) := by decide +kernel
theorem dX7_hasWay_9 : decode cX7_hasWay 9 = .ok (.if_icmp .ge 7, 3) := by decide +kernel
theorem dX7_hasWay_12 : decode cX7_hasWay 12 = .ok (.iconst 1, 1) := by decide +kernel
theorem dX7_hasWay_13 : decode cX7_hasWay 13 = .ok (.goto 4, 3) := by decide +kernel
theorem dX7_hasWay_16 : decode cX7_hasWay 16 = .ok (.iconst 0, 1) := by decide +kernel
theorem dX7_hasWay_17 : decode cX7_hasWay 17 = .ok (.ireturn, 1) := by decide +kernel
theorem dX7_allTables_0 : decode cX7_allTables 0 = .ok (.iconst 1, 1) := by decide +kernel
theorem dX7_allTables_1 : decode cX7_allTables 1 = .ok (.aload_n 0, 1) := by decide +kernel
theorem dX7_allTables_2 : decode cX7_allTables 2 = .ok (.getfield 35, 3) := by decide +kernel
theorem dX7_allTables_5 : decode cX7_allTables 5 = .ok (.ishl, 1) := by decide +kernel
theorem dX7_allTables_6 : decode cX7_allTables 6 = .ok (.iconst 1, 1) := by decide +kernel
theorem dX7_allTables_7 : decode cX7_allTables 7 = .ok (.isub, 1) := by decide +kernel
theorem dX7_allTables_8 : decode cX7_allTables 8 = .ok (.ireturn, 1) := by decide +kernel
theorem dX7_hasAll_0 : decode cX7_hasAll 0 = .ok (.iload_n 1, 1) := by decide +kernel
theorem dX7_hasAll_1 : decode cX7_hasAll 1 = .ok (.aload_n 0, 1) := by decide +kernel
theorem dX7_hasAll_2 : decode cX7_hasAll 2 = .ok (.invokevirtual 41, 3) := by decide +kernel
theorem dX7_hasAll_5 : decode cX7_hasAll 5 = .ok (.iconst (-1), 1) := by decide +kernel
theorem dX7_hasAll_6 : decode cX7_hasAll 6 = .ok (.ixor, 1) := by decide +kernel
theorem dX7_hasAll_7 : decode cX7_hasAll 7 = .ok (.iand, 1) := by decide +kernel
theorem dX7_hasAll_8 : decode cX7_hasAll 8 = .ok (.ifCond .ne 7, 3) := by decide +kernel
theorem dX7_hasAll_11 : decode cX7_hasAll 11 = .ok (.iconst 1, 1) := by decide +kernel
theorem dX7_hasAll_12 : decode cX7_hasAll 12 = .ok (.goto 4, 3) := by decide +kernel
theorem dX7_hasAll_15 : decode cX7_hasAll 15 = .ok (.iconst 0, 1) := by decide +kernel
theorem dX7_hasAll_16 : decode cX7_hasAll 16 = .ok (.ireturn, 1) := by decide +kernel
theorem dX7_joins_0 : decode cX7_joins 0 = .ok (.iconst 0, 1) := by decide +kernel
theorem dX7_joins_1 : decode cX7_joins 1 = .ok (.istore_n 3, 1) := by decide +kernel
theorem dX7_joins_2 : decode cX7_joins 2 = .ok (.iload_n 3, 1) := by decide +kernel
theorem dX7_joins_3 : decode cX7_joins 3 = .ok (.aload_n 0, 1) := by decide +kernel
theorem dX7_joins_4 : decode cX7_joins 4 = .ok (.getfield 38, 3) := by decide +kernel
theorem dX7_joins_7 : decode cX7_joins 7 = .ok (.if_icmp .ge 51, 3) := by decide +kernel
theorem dX7_joins_10 : decode cX7_joins 10 = .ok (.aload_n 0, 1) := by decide +kernel
theorem dX7_joins_11 : decode cX7_joins 11 = .ok (.getfield 18, 3) := by decide +kernel
theorem dX7_joins_14 : decode cX7_joins 14 = .ok (.iload_n 3, 1) := by decide +kernel
theorem dX7_joins_15 : decode cX7_joins 15 = .ok (.iaload, 1) := by decide +kernel
theorem dX7_joins_16 : decode cX7_joins 16 = .ok (.iload_n 1, 1) := by decide +kernel
theorem dX7_joins_17 : decode cX7_joins 17 = .ok (.if_icmp .ne 13, 3) := by decide +kernel
theorem dX7_joins_20 : decode cX7_joins 20 = .ok (.aload_n 0, 1) := by decide +kernel
theorem dX7_joins_21 : decode cX7_joins 21 = .ok (.getfield 21, 3) := by decide +kernel
theorem dX7_joins_24 : decode cX7_joins 24 = .ok (.iload_n 3, 1) := by decide +kernel
theorem dX7_joins_25 : decode cX7_joins 25 = .ok (.iaload, 1) := by decide +kernel
theorem dX7_joins_26 : decode cX7_joins 26 = .ok (.iload_n 2, 1) := by decide +kernel
theorem dX7_joins_27 : decode cX7_joins 27 = .ok (.if_icmp .eq 23, 3) := by decide +kernel
theorem dX7_joins_30 : decode cX7_joins 30 = .ok (.aload_n 0, 1) := by decide +kernel
theorem dX7_joins_31 : decode cX7_joins 31 = .ok (.getfield 18, 3) := by decide +kernel
theorem dX7_joins_34 : decode cX7_joins 34 = .ok (.iload_n 3, 1) := by decide +kernel
theorem dX7_joins_35 : decode cX7_joins 35 = .ok (.iaload, 1) := by decide +kernel
theorem dX7_joins_36 : decode cX7_joins 36 = .ok (.iload_n 2, 1) := by decide +kernel
theorem dX7_joins_37 : decode cX7_joins 37 = .ok (.if_icmp .ne 15, 3) := by decide +kernel
theorem dX7_joins_40 : decode cX7_joins 40 = .ok (.aload_n 0, 1) := by decide +kernel
theorem dX7_joins_41 : decode cX7_joins 41 = .ok (.getfield 21, 3) := by decide +kernel
theorem dX7_joins_44 : decode cX7_joins 44 = .ok (.iload_n 3, 1) := by decide +kernel
theorem dX7_joins_45 : decode cX7_joins 45 = .ok (.iaload, 1) := by decide +kernel
theorem dX7_joins_46 : decode cX7_joins 46 = .ok (.iload_n 1, 1) := by decide +kernel
theorem dX7_joins_47 : decode cX7_joins 47 = .ok (.if_icmp .ne 5, 3) := by decide +kernel
theorem dX7_joins_50 : decode cX7_joins 50 = .ok (.iconst 1, 1) := by decide +kernel
theorem dX7_joins_51 : decode cX7_joins 51 = .ok (.ireturn, 1) := by decide +kernel
theorem dX7_joins_52 : decode cX7_joins 52 = .ok (.iinc 3 1, 3) := by decide +kernel
theorem dX7_joins_55 : decode cX7_joins 55 = .ok (.goto (-53), 3) := by decide +kernel
theorem dX7_joins_58 : decode cX7_joins 58 = .ok (.iconst 0, 1) := by decide +kernel
theorem dX7_joins_59 : decode cX7_joins 59 = .ok (.ireturn, 1) := by decide +kernel
theorem dX7_addTable_0 : decode cX7_addTable 0 = .ok (.aload_n 0, 1) := by decide +kernel
theorem dX7_addTable_1 : decode cX7_addTable 1 = .ok (.getfield 35, 3) := by decide +kernel
theorem dX7_addTable_4 : decode cX7_addTable 4 = .ok (.bipush 9, 2) := by decide +kernel
theorem dX7_addTable_6 : decode cX7_addTable 6 = .ok (.if_icmp .ge 33, 3) := by decide +kernel
theorem dX7_addTable_9 : decode cX7_addTable 9 = .ok (.aload_n 0, 1) := by decide +kernel
theorem dX7_addTable_10 : decode cX7_addTable 10 = .ok (.getfield 9, 3) := by decide +kernel
theorem dX7_addTable_13 : decode cX7_addTable 13 = .ok (.aload_n 0, 1) := by decide +kernel
theorem dX7_addTable_14 : decode cX7_addTable 14 = .ok (.getfield 35, 3) := by decide +kernel
theorem dX7_addTable_17 : decode cX7_addTable 17 = .ok (.iload_n 1, 1) := by decide +kernel
theorem dX7_addTable_18 : decode cX7_addTable 18 = .ok (.iastore, 1) := by decide +kernel
theorem dX7_addTable_19 : decode cX7_addTable 19 = .ok (.aload_n 0, 1) := by decide +kernel
theorem dX7_addTable_20 : decode cX7_addTable 20 = .ok (.getfield 15, 3) := by decide +kernel
theorem dX7_addTable_23 : decode cX7_addTable 23 = .ok (.aload_n 0, 1) := by decide +kernel
theorem dX7_addTable_24 : decode cX7_addTable 24 = .ok (.getfield 35, 3) := by decide +kernel
theorem dX7_addTable_27 : decode cX7_addTable 27 = .ok (.iload_n 2, 1) := by decide +kernel
theorem dX7_addTable_28 : decode cX7_addTable 28 = .ok (.iastore, 1) := by decide +kernel
theorem dX7_addTable_29 : decode cX7_addTable 29 = .ok (.aload_n 0, 1) := by decide +kernel
theorem dX7_addTable_30 : decode cX7_addTable 30 = .ok (.dup, 1) := by decide +kernel
theorem dX7_addTable_31 : decode cX7_addTable 31 = .ok (.getfield 35, 3) := by decide +kernel
theorem dX7_addTable_34 : decode cX7_addTable 34 = .ok (.iconst 1, 1) := by decide +kernel
theorem dX7_addTable_35 : decode cX7_addTable 35 = .ok (.iadd, 1) := by decide +kernel
theorem dX7_addTable_36 : decode cX7_addTable 36 = .ok (.putfield 35, 3) := by decide +kernel
theorem dX7_addTable_39 : decode cX7_addTable 39 = .ok (.return_, 1) := by decide +kernel
theorem dX7_addWay_0 : decode cX7_addWay 0 = .ok (.aload_n 0, 1) := by decide +kernel
theorem dX7_addWay_1 : decode cX7_addWay 1 = .ok (.getfield 38, 3) := by decide +kernel
theorem dX7_addWay_4 : decode cX7_addWay 4 = .ok (.bipush 14, 2) := by decide +kernel
theorem dX7_addWay_6 : decode cX7_addWay 6 = .ok (.if_icmp .ge 33, 3) := by decide +kernel
theorem dX7_addWay_9 : decode cX7_addWay 9 = .ok (.aload_n 0, 1) := by decide +kernel
theorem dX7_addWay_10 : decode cX7_addWay 10 = .ok (.getfield 18, 3) := by decide +kernel
theorem dX7_addWay_13 : decode cX7_addWay 13 = .ok (.aload_n 0, 1) := by decide +kernel
theorem dX7_addWay_14 : decode cX7_addWay 14 = .ok (.getfield 38, 3) := by decide +kernel
theorem dX7_addWay_17 : decode cX7_addWay 17 = .ok (.iload_n 1, 1) := by decide +kernel
theorem dX7_addWay_18 : decode cX7_addWay 18 = .ok (.iastore, 1) := by decide +kernel
theorem dX7_addWay_19 : decode cX7_addWay 19 = .ok (.aload_n 0, 1) := by decide +kernel
theorem dX7_addWay_20 : decode cX7_addWay 20 = .ok (.getfield 21, 3) := by decide +kernel
theorem dX7_addWay_23 : decode cX7_addWay 23 = .ok (.aload_n 0, 1) := by decide +kernel
theorem dX7_addWay_24 : decode cX7_addWay 24 = .ok (.getfield 38, 3) := by decide +kernel
theorem dX7_addWay_27 : decode cX7_addWay 27 = .ok (.iload_n 2, 1) := by decide +kernel
theorem dX7_addWay_28 : decode cX7_addWay 28 = .ok (.iastore, 1) := by decide +kernel
theorem dX7_addWay_29 : decode cX7_addWay 29 = .ok (.aload_n 0, 1) := by decide +kernel
theorem dX7_addWay_30 : decode cX7_addWay 30 = .ok (.dup, 1) := by decide +kernel
theorem dX7_addWay_31 : decode cX7_addWay 31 = .ok (.getfield 38, 3) := by decide +kernel
theorem dX7_addWay_34 : decode cX7_addWay 34 = .ok (.iconst 1, 1) := by decide +kernel
theorem dX7_addWay_35 : decode cX7_addWay 35 = .ok (.iadd, 1) := by decide +kernel
theorem dX7_addWay_36 : decode cX7_addWay 36 = .ok (.putfield 38, 3) := by decide +kernel
theorem dX7_addWay_39 : decode cX7_addWay 39 = .ok (.return_, 1) := by decide +kernel
theorem dX8_init_0 : decode cX8_init 0 = .ok (.aload_n 0, 1) := by decide +kernel
theorem dX8_init_1 : decode cX8_init 1 = .ok (.invokespecial 3, 3) := by decide +kernel
theorem dX8_init_4 : decode cX8_init 4 = .ok (.return_, 1) := by decide +kernel
theorem dX8_forget_0 : decode cX8_forget 0 = .ok (.aload_n 0, 1) := by decide +kernel
theorem dX8_forget_1 : decode cX8_forget 1 = .ok (.iconst 0, 1) := by decide +kernel
theorem dX8_forget_2 : decode cX8_forget 2 = .ok (.putfield 9, 3) := by decide +kernel
theorem dX8_forget_5 : decode cX8_forget 5 = .ok (.aload_n 0, 1) := by decide +kernel
theorem dX8_forget_6 : decode cX8_forget 6 = .ok (.iconst 0, 1) := by decide +kernel
theorem dX8_forget_7 : decode cX8_forget 7 = .ok (.putfield 15, 3) := by decide +kernel
theorem dX8_forget_10 : decode cX8_forget 10 = .ok (.aload_n 0, 1) := by decide +kernel
theorem dX8_forget_11 : decode cX8_forget 11 = .ok (.iconst 0, 1) := by decide +kernel
theorem dX8_forget_12 : decode cX8_forget 12 = .ok (.putfield 18, 3) := by decide +kernel
theorem dX8_forget_15 : decode cX8_forget 15 = .ok (.return_, 1) := by decide +kernel
theorem dX8_add_0 : decode cX8_add 0 = .ok (.iload_n 2, 1) := by decide +kernel
theorem dX8_add_1 : decode cX8_add 1 = .ok (.ifCond .eq 18, 3) := by decide +kernel
theorem dX8_add_4 : decode cX8_add 4 = .ok (.aload_n 0, 1) := by decide +kernel
theorem dX8_add_5 : decode cX8_add 5 = .ok (.dup, 1) := by decide +kernel
theorem dX8_add_6 : decode cX8_add 6 = .ok (.getfield 15, 3) := by decide +kernel
theorem dX8_add_9 : decode cX8_add 9 = .ok (.iconst 1, 1) := by decide +kernel
theorem dX8_add_10 : decode cX8_add 10 = .ok (.iload_n 1, 1) := by decide +kernel
theorem dX8_add_11 : decode cX8_add 11 = .ok (.ishl, 1) := by decide +kernel
theorem dX8_add_12 : decode cX8_add 12 = .ok (.ior, 1) := by decide +kernel
theorem dX8_add_13 : decode cX8_add 13 = .ok (.putfield 15, 3) := by decide +kernel
theorem dX8_add_16 : decode cX8_add 16 = .ok (.goto 15, 3) := by decide +kernel
theorem dX8_add_19 : decode cX8_add 19 = .ok (.aload_n 0, 1) := by decide +kernel
theorem dX8_add_20 : decode cX8_add 20 = .ok (.dup, 1) := by decide +kernel
theorem dX8_add_21 : decode cX8_add 21 = .ok (.getfield 18, 3) := by decide +kernel
theorem dX8_add_24 : decode cX8_add 24 = .ok (.iconst 1, 1) := by decide +kernel
theorem dX8_add_25 : decode cX8_add 25 = .ok (.iload_n 1, 1) := by decide +kernel
theorem dX8_add_26 : decode cX8_add 26 = .ok (.ishl, 1) := by decide +kernel
theorem dX8_add_27 : decode cX8_add 27 = .ok (.ior, 1) := by decide +kernel
theorem dX8_add_28 : decode cX8_add 28 = .ok (.putfield 18, 3) := by decide +kernel
theorem dX8_add_31 : decode cX8_add 31 = .ok (.aload_n 0, 1) := by decide +kernel
theorem dX8_add_32 : decode cX8_add 32 = .ok (.dup, 1) := by decide +kernel
theorem dX8_add_33 : decode cX8_add 33 = .ok (.getfield 9, 3) := by decide +kernel
theorem dX8_add_36 : decode cX8_add 36 = .ok (.iconst 1, 1) := by decide +kernel
theorem dX8_add_37 : decode cX8_add 37 = .ok (.iadd, 1) := by decide +kernel
theorem dX8_add_38 : decode cX8_add 38 = .ok (.putfield 9, 3) := by decide +kernel
theorem dX8_add_41 : decode cX8_add 41 = .ok (.return_, 1) := by decide +kernel
theorem dX8_fitting_0 : decode cX8_fitting 0 = .ok (.iconst 0, 1) := by decide +kernel
theorem dX8_fitting_1 : decode cX8_fitting 1 = .ok (.istore_n 2, 1) := by decide +kernel
theorem dX8_fitting_2 : decode cX8_fitting 2 = .ok (.iconst 0, 1) := by decide +kernel
theorem dX8_fitting_3 : decode cX8_fitting 3 = .ok (.istore_n 3, 1) := by decide +kernel
theorem dX8_fitting_4 : decode cX8_fitting 4 = .ok (.iload_n 3, 1) := by decide +kernel
theorem dX8_fitting_5 : decode cX8_fitting 5 = .ok (.aload_n 1, 1) := by decide +kernel
theorem dX8_fitting_6 : decode cX8_fitting 6 = .ok (.getfield 21, 3) := by decide +kernel
theorem dX8_fitting_9 : decode cX8_fitting 9 = .ok (.if_icmp .ge 53, 3) := by decide +kernel
theorem dX8_fitting_12 : decode cX8_fitting 12 = .ok (.aload_n 1, 1) := by decide +kernel
theorem dX8_fitting_13 : decode cX8_fitting 13 = .ok (.iload_n 3, 1) := by decide +kernel
theorem dX8_fitting_14 : decode cX8_fitting 14 = .ok (.invokevirtual 26, 3) := by decide +kernel
theorem dX8_fitting_17 : decode cX8_fitting 17 = .ok (.istore 4, 2) := by decide +kernel
theorem dX8_fitting_19 : decode cX8_fitting 19 = .ok (.aload_n 1, 1) := by decide +kernel
theorem dX8_fitting_20 : decode cX8_fitting 20 = .ok (.iload_n 3, 1) := by decide +kernel
theorem dX8_fitting_21 : decode cX8_fitting 21 = .ok (.invokevirtual 30, 3) := by decide +kernel
theorem dX8_fitting_24 : decode cX8_fitting 24 = .ok (.iconst (-1), 1) := by decide +kernel
theorem dX8_fitting_25 : decode cX8_fitting 25 = .ok (.if_icmp .eq 31, 3) := by decide +kernel
theorem dX8_fitting_28 : decode cX8_fitting 28 = .ok (.aload_n 0, 1) := by decide +kernel
theorem dX8_fitting_29 : decode cX8_fitting 29 = .ok (.getfield 15, 3) := by decide +kernel
theorem dX8_fitting_32 : decode cX8_fitting 32 = .ok (.iload 4, 2) := by decide +kernel
theorem dX8_fitting_34 : decode cX8_fitting 34 = .ok (.iconst (-1), 1) := by decide +kernel
theorem dX8_fitting_35 : decode cX8_fitting 35 = .ok (.ixor, 1) := by decide +kernel
theorem dX8_fitting_36 : decode cX8_fitting 36 = .ok (.iand, 1) := by decide +kernel
theorem dX8_fitting_37 : decode cX8_fitting 37 = .ok (.ifCond .ne 19, 3) := by decide +kernel
theorem dX8_fitting_40 : decode cX8_fitting 40 = .ok (.aload_n 0, 1) := by decide +kernel
theorem dX8_fitting_41 : decode cX8_fitting 41 = .ok (.getfield 18, 3) := by decide +kernel
theorem dX8_fitting_44 : decode cX8_fitting 44 = .ok (.iload 4, 2) := by decide +kernel
theorem dX8_fitting_46 : decode cX8_fitting 46 = .ok (.iand, 1) := by decide +kernel
theorem dX8_fitting_47 : decode cX8_fitting 47 = .ok (.ifCond .ne 9, 3) := by decide +kernel
theorem dX8_fitting_50 : decode cX8_fitting 50 = .ok (.iload_n 2, 1) := by decide +kernel
theorem dX8_fitting_51 : decode cX8_fitting 51 = .ok (.iconst 1, 1) := by decide +kernel
theorem dX8_fitting_52 : decode cX8_fitting 52 = .ok (.iload_n 3, 1) := by decide +kernel
theorem dX8_fitting_53 : decode cX8_fitting 53 = .ok (.ishl, 1) := by decide +kernel
theorem dX8_fitting_54 : decode cX8_fitting 54 = .ok (.ior, 1) := by decide +kernel
theorem dX8_fitting_55 : decode cX8_fitting 55 = .ok (.istore_n 2, 1) := by decide +kernel
theorem dX8_fitting_56 : decode cX8_fitting 56 = .ok (.iinc 3 1, 3) := by decide +kernel
theorem dX8_fitting_59 : decode cX8_fitting 59 = .ok (.goto (-55), 3) := by decide +kernel
theorem dX8_fitting_62 : decode cX8_fitting 62 = .ok (.iload_n 2, 1) := by decide +kernel
theorem dX8_fitting_63 : decode cX8_fitting 63 = .ok (.ireturn, 1) := by decide +kernel
theorem dX8_best_0 : decode cX8_best 0 = .ok (.aload_n 0, 1) := by decide +kernel
theorem dX8_best_1 : decode cX8_best 1 = .ok (.aload_n 1, 1) := by decide +kernel
theorem dX8_best_2 : decode cX8_best 2 = .ok (.invokevirtual 33, 3) := by decide +kernel
theorem dX8_best_5 : decode cX8_best 5 = .ok (.istore_n 2, 1) := by decide +kernel
theorem dX8_best_6 : decode cX8_best 6 = .ok (.iconst (-1), 1) := by decide +kernel
theorem dX8_best_7 : decode cX8_best 7 = .ok (.istore_n 3, 1) := by decide +kernel
theorem dX8_best_8 : decode cX8_best 8 = .ok (.iload_n 2, 1) := by decide +kernel
theorem dX8_best_9 : decode cX8_best 9 = .ok (.invokestatic 37, 3) := by decide +kernel
theorem dX8_best_12 : decode cX8_best 12 = .ok (.istore 4, 2) := by decide +kernel
theorem dX8_best_14 : decode cX8_best 14 = .ok (.iconst 0, 1) := by decide +kernel
theorem dX8_best_15 : decode cX8_best 15 = .ok (.istore 5, 2) := by decide +kernel
theorem dX8_best_17 : decode cX8_best 17 = .ok (.iload 5, 2) := by decide +kernel
theorem dX8_best_19 : decode cX8_best 19 = .ok (.aload_n 1, 1) := by decide +kernel
theorem dX8_best_20 : decode cX8_best 20 = .ok (.getfield 21, 3) := by decide +kernel
theorem dX8_best_23 : decode cX8_best 23 = .ok (.if_icmp .ge 32, 3) := by decide +kernel
theorem dX8_best_26 : decode cX8_best 26 = .ok (.aload_n 1, 1) := by decide +kernel
theorem dX8_best_27 : decode cX8_best 27 = .ok (.iload_n 2, 1) := by decide +kernel
theorem dX8_best_28 : decode cX8_best 28 = .ok (.iload 5, 2) := by decide +kernel
theorem dX8_best_30 : decode cX8_best 30 = .ok (.invokestatic 42, 3) := by decide +kernel
theorem dX8_best_33 : decode cX8_best 33 = .ok (.istore 6, 2) := by decide +kernel
theorem dX8_best_35 : decode cX8_best 35 = .ok (.iload 6, 2) := by decide +kernel
theorem dX8_best_37 : decode cX8_best 37 = .ok (.iload 4, 2) := by decide +kernel
theorem dX8_best_39 : decode cX8_best 39 = .ok (.if_icmp .ge 10, 3) := by decide +kernel
theorem dX8_best_42 : decode cX8_best 42 = .ok (.iload 6, 2) := by decide +kernel
theorem dX8_best_44 : decode cX8_best 44 = .ok (.istore 4, 2) := by decide +kernel
theorem dX8_best_46 : decode cX8_best 46 = .ok (.iload 5, 2) := by decide +kernel
theorem dX8_best_48 : decode cX8_best 48 = .ok (.istore_n 3, 1) := by decide +kernel
theorem dX8_best_49 : decode cX8_best 49 = .ok (.iinc 5 1, 3) := by decide +kernel
theorem dX8_best_52 : decode cX8_best 52 = .ok (.goto (-35), 3) := by decide +kernel
theorem dX8_best_55 : decode cX8_best 55 = .ok (.iload_n 3, 1) := by decide +kernel
theorem dX8_best_56 : decode cX8_best 56 = .ok (.ireturn, 1) := by decide +kernel
theorem dX8_greatestPart_0 : decode cX8_greatestPart 0 = .ok (.iconst 0, 1) := by decide +kernel
theorem dX8_greatestPart_1 : decode cX8_greatestPart 1 = .ok (.istore_n 3, 1) := by decide +kernel
theorem dX8_greatestPart_2 : decode cX8_greatestPart 2 = .ok (.iconst 0, 1) := by decide +kernel
theorem dX8_greatestPart_3 : decode cX8_greatestPart 3 = .ok (.istore 4, 2) := by decide +kernel
theorem dX8_greatestPart_5 : decode cX8_greatestPart 5 = .ok (.iconst 0, 1) := by decide +kernel
theorem dX8_greatestPart_6 : decode cX8_greatestPart 6 = .ok (.istore 5, 2) := by decide +kernel
theorem dX8_greatestPart_8 : decode cX8_greatestPart 8 = .ok (.iload 5, 2) := by decide +kernel
theorem dX8_greatestPart_10 : decode cX8_greatestPart 10 = .ok (.aload_n 0, 1) := by decide +kernel
theorem dX8_greatestPart_11 : decode cX8_greatestPart 11 = .ok (.getfield 21, 3) := by decide +kernel
theorem dX8_greatestPart_14 : decode cX8_greatestPart 14 = .ok (.if_icmp .ge 34, 3) := by decide +kernel
theorem dX8_greatestPart_17 : decode cX8_greatestPart 17 = .ok (.iload_n 1, 1) := by decide +kernel
theorem dX8_greatestPart_18 : decode cX8_greatestPart 18 = .ok (.iload 5, 2) := by decide +kernel
theorem dX8_greatestPart_20 : decode cX8_greatestPart 20 = .ok (.ishr, 1) := by decide +kernel
theorem dX8_greatestPart_21 : decode cX8_greatestPart 21 = .ok (.iconst 1, 1) := by decide +kernel
theorem dX8_greatestPart_22 : decode cX8_greatestPart 22 = .ok (.iand, 1) := by decide +kernel
theorem dX8_greatestPart_23 : decode cX8_greatestPart 23 = .ok (.ifCond .eq 19, 3) := by decide +kernel
theorem dX8_greatestPart_26 : decode cX8_greatestPart 26 = .ok (.iinc 4 1, 3) := by decide +kernel
theorem dX8_greatestPart_29 : decode cX8_greatestPart 29 = .ok (.iload_n 3, 1) := by decide +kernel
theorem dX8_greatestPart_30 : decode cX8_greatestPart 30 = .ok (.aload_n 0, 1) := by decide +kernel
theorem dX8_greatestPart_31 : decode cX8_greatestPart 31 = .ok (.iload 5, 2) := by decide +kernel
theorem dX8_greatestPart_33 : decode cX8_greatestPart 33 = .ok (.invokevirtual 26, 3) := by decide +kernel
theorem dX8_greatestPart_36 : decode cX8_greatestPart 36 = .ok (.iload_n 2, 1) := by decide +kernel
theorem dX8_greatestPart_37 : decode cX8_greatestPart 37 = .ok (.ishr, 1) := by decide +kernel
theorem dX8_greatestPart_38 : decode cX8_greatestPart 38 = .ok (.iconst 1, 1) := by decide +kernel
theorem dX8_greatestPart_39 : decode cX8_greatestPart 39 = .ok (.iand, 1) := by decide +kernel
theorem dX8_greatestPart_40 : decode cX8_greatestPart 40 = .ok (.iadd, 1) := by decide +kernel
theorem dX8_greatestPart_41 : decode cX8_greatestPart 41 = .ok (.istore_n 3, 1) := by decide +kernel
theorem dX8_greatestPart_42 : decode cX8_greatestPart 42 = .ok (.iinc 5 1, 3) := by decide +kernel
theorem dX8_greatestPart_45 : decode cX8_greatestPart 45 = .ok (.goto (-37), 3) := by decide +kernel
theorem dX8_greatestPart_48 : decode cX8_greatestPart 48 = .ok (.iload_n 3, 1) := by decide +kernel
theorem dX8_greatestPart_49 : decode cX8_greatestPart 49 = .ok (.iload 4, 2) := by decide +kernel
theorem dX8_greatestPart_51 : decode cX8_greatestPart 51 = .ok (.iload_n 3, 1) := by decide +kernel
theorem dX8_greatestPart_52 : decode cX8_greatestPart 52 = .ok (.isub, 1) := by decide +kernel
theorem dX8_greatestPart_53 : decode cX8_greatestPart 53 = .ok (.invokestatic 46, 3) := by decide +kernel
theorem dX8_greatestPart_56 : decode cX8_greatestPart 56 = .ok (.ireturn, 1) := by decide +kernel
theorem dX9_init_0 : decode cX9_init 0 = .ok (.aload_n 0, 1) := by decide +kernel
theorem dX9_init_1 : decode cX9_init 1 = .ok (.invokespecial 3, 3) := by decide +kernel
theorem dX9_init_4 : decode cX9_init 4 = .ok (.aload_n 0, 1) := by decide +kernel
theorem dX9_init_5 : decode cX9_init 5 = .ok (.bipush 9, 2) := by decide +kernel
theorem dX9_init_7 : decode cX9_init 7 = .ok (.newarray .int, 2) := by decide +kernel
theorem dX9_init_9 : decode cX9_init 9 = .ok (.putfield 9, 3) := by decide +kernel
theorem dX9_init_12 : decode cX9_init 12 = .ok (.aload_n 0, 1) := by decide +kernel
theorem dX9_init_13 : decode cX9_init 13 = .ok (.bipush 9, 2) := by decide +kernel
theorem dX9_init_15 : decode cX9_init 15 = .ok (.newarray .int, 2) := by decide +kernel
theorem dX9_init_17 : decode cX9_init 17 = .ok (.putfield 15, 3) := by decide +kernel
theorem dX9_init_20 : decode cX9_init 20 = .ok (.return_, 1) := by decide +kernel
theorem dX9_begins_0 : decode cX9_begins 0 = .ok (.iconst 0, 1) := by decide +kernel
theorem dX9_begins_1 : decode cX9_begins 1 = .ok (.istore_n 2, 1) := by decide +kernel
theorem dX9_begins_2 : decode cX9_begins 2 = .ok (.iload_n 2, 1) := by decide +kernel
theorem dX9_begins_3 : decode cX9_begins 3 = .ok (.bipush 9, 2) := by decide +kernel
theorem dX9_begins_5 : decode cX9_begins 5 = .ok (.if_icmp .ge 55, 3) := by decide +kernel
theorem dX9_begins_8 : decode cX9_begins 8 = .ok (.aload_n 1, 1) := by decide +kernel
theorem dX9_begins_9 : decode cX9_begins 9 = .ok (.iload_n 2, 1) := by decide +kernel
theorem dX9_begins_10 : decode cX9_begins 10 = .ok (.invokevirtual 18, 3) := by decide +kernel
theorem dX9_begins_13 : decode cX9_begins 13 = .ok (.istore_n 3, 1) := by decide +kernel
theorem dX9_begins_14 : decode cX9_begins 14 = .ok (.aload_n 0, 1) := by decide +kernel
theorem dX9_begins_15 : decode cX9_begins 15 = .ok (.getfield 9, 3) := by decide +kernel
theorem dX9_begins_18 : decode cX9_begins 18 = .ok (.iload_n 2, 1) := by decide +kernel
theorem dX9_begins_19 : decode cX9_begins 19 = .ok (.iload_n 3, 1) := by decide +kernel
theorem dX9_begins_20 : decode cX9_begins 20 = .ok (.ifCond .eq 12, 3) := by decide +kernel
theorem dX9_begins_23 : decode cX9_begins 23 = .ok (.aload_n 1, 1) := by decide +kernel
theorem dX9_begins_24 : decode cX9_begins 24 = .ok (.getfield 24, 3) := by decide +kernel
theorem dX9_begins_27 : decode cX9_begins 27 = .ok (.iload_n 2, 1) := by decide +kernel
theorem dX9_begins_28 : decode cX9_begins 28 = .ok (.iaload, 1) := by decide +kernel
theorem dX9_begins_29 : decode cX9_begins 29 = .ok (.goto 4, 3) := by decide +kernel
theorem dX9_begins_32 : decode cX9_begins 32 = .ok (.iconst 0, 1) := by decide +kernel
theorem dX9_begins_33 : decode cX9_begins 33 = .ok (.iastore, 1) := by decide +kernel
theorem dX9_begins_34 : decode cX9_begins 34 = .ok (.aload_n 0, 1) := by decide +kernel
theorem dX9_begins_35 : decode cX9_begins 35 = .ok (.getfield 15, 3) := by decide +kernel
theorem dX9_begins_38 : decode cX9_begins 38 = .ok (.iload_n 2, 1) := by decide +kernel
theorem dX9_begins_39 : decode cX9_begins 39 = .ok (.iload_n 3, 1) := by decide +kernel
theorem dX9_begins_40 : decode cX9_begins 40 = .ok (.ifCond .eq 12, 3) := by decide +kernel
theorem dX9_begins_43 : decode cX9_begins 43 = .ok (.aload_n 1, 1) := by decide +kernel
theorem dX9_begins_44 : decode cX9_begins 44 = .ok (.getfield 25, 3) := by decide +kernel
theorem dX9_begins_47 : decode cX9_begins 47 = .ok (.iload_n 2, 1) := by decide +kernel
theorem dX9_begins_48 : decode cX9_begins 48 = .ok (.iaload, 1) := by decide +kernel
theorem dX9_begins_49 : decode cX9_begins 49 = .ok (.goto 4, 3) := by decide +kernel
theorem dX9_begins_52 : decode cX9_begins 52 = .ok (.iconst 0, 1) := by decide +kernel
theorem dX9_begins_53 : decode cX9_begins 53 = .ok (.iastore, 1) := by decide +kernel
theorem dX9_begins_54 : decode cX9_begins 54 = .ok (.iinc 2 1, 3) := by decide +kernel
theorem dX9_begins_57 : decode cX9_begins 57 = .ok (.goto (-55), 3) := by decide +kernel
theorem dX9_begins_60 : decode cX9_begins 60 = .ok (.aload_n 0, 1) := by decide +kernel
theorem dX9_begins_61 : decode cX9_begins 61 = .ok (.aload_n 1, 1) := by decide +kernel
theorem dX9_begins_62 : decode cX9_begins 62 = .ok (.getfield 26, 3) := by decide +kernel
theorem dX9_begins_65 : decode cX9_begins 65 = .ok (.putfield 30, 3) := by decide +kernel
theorem dX9_begins_68 : decode cX9_begins 68 = .ok (.aload_n 0, 1) := by decide +kernel
theorem dX9_begins_69 : decode cX9_begins 69 = .ok (.iconst 0, 1) := by decide +kernel
theorem dX9_begins_70 : decode cX9_begins 70 = .ok (.putfield 31, 3) := by decide +kernel
theorem dX9_begins_73 : decode cX9_begins 73 = .ok (.aload_n 0, 1) := by decide +kernel
theorem dX9_begins_74 : decode cX9_begins 74 = .ok (.iconst 0, 1) := by decide +kernel
theorem dX9_begins_75 : decode cX9_begins 75 = .ok (.putfield 34, 3) := by decide +kernel
theorem dX9_begins_78 : decode cX9_begins 78 = .ok (.aload_n 0, 1) := by decide +kernel
theorem dX9_begins_79 : decode cX9_begins 79 = .ok (.iconst 0, 1) := by decide +kernel
theorem dX9_begins_80 : decode cX9_begins 80 = .ok (.putfield 37, 3) := by decide +kernel
theorem dX9_begins_83 : decode cX9_begins 83 = .ok (.aload_n 0, 1) := by decide +kernel
theorem dX9_begins_84 : decode cX9_begins 84 = .ok (.iconst 0, 1) := by decide +kernel
theorem dX9_begins_85 : decode cX9_begins 85 = .ok (.putfield 40, 3) := by decide +kernel
theorem dX9_begins_88 : decode cX9_begins 88 = .ok (.aload_n 0, 1) := by decide +kernel
theorem dX9_begins_89 : decode cX9_begins 89 = .ok (.iconst 0, 1) := by decide +kernel
theorem dX9_begins_90 : decode cX9_begins 90 = .ok (.putfield 43, 3) := by decide +kernel
theorem dX9_begins_93 : decode cX9_begins 93 = .ok (.aload_n 0, 1) := by decide +kernel
theorem dX9_begins_94 : decode cX9_begins 94 = .ok (.iconst 0, 1) := by decide +kernel
theorem dX9_begins_95 : decode cX9_begins 95 = .ok (.putfield 46, 3) := by decide +kernel
theorem dX9_begins_98 : decode cX9_begins 98 = .ok (.return_, 1) := by decide +kernel
theorem dX9_becomes_0 : decode cX9_becomes 0 = .ok (.iconst 0, 1) := by decide +kernel
theorem dX9_becomes_1 : decode cX9_becomes 1 = .ok (.istore_n 2, 1) := by decide +kernel
theorem dX9_becomes_2 : decode cX9_becomes 2 = .ok (.iload_n 2, 1) := by decide +kernel
theorem dX9_becomes_3 : decode cX9_becomes 3 = .ok (.bipush 9, 2) := by decide +kernel
theorem dX9_becomes_5 : decode cX9_becomes 5 = .ok (.if_icmp .ge 33, 3) := by decide +kernel
theorem dX9_becomes_8 : decode cX9_becomes 8 = .ok (.aload_n 0, 1) := by decide +kernel
theorem dX9_becomes_9 : decode cX9_becomes 9 = .ok (.getfield 9, 3) := by decide +kernel
theorem dX9_becomes_12 : decode cX9_becomes 12 = .ok (.iload_n 2, 1) := by decide +kernel
theorem dX9_becomes_13 : decode cX9_becomes 13 = .ok (.aload_n 1, 1) := by decide +kernel
theorem dX9_becomes_14 : decode cX9_becomes 14 = .ok (.getfield 9, 3) := by decide +kernel
theorem dX9_becomes_17 : decode cX9_becomes 17 = .ok (.iload_n 2, 1) := by decide +kernel
theorem dX9_becomes_18 : decode cX9_becomes 18 = .ok (.iaload, 1) := by decide +kernel
theorem dX9_becomes_19 : decode cX9_becomes 19 = .ok (.iastore, 1) := by decide +kernel
theorem dX9_becomes_20 : decode cX9_becomes 20 = .ok (.aload_n 0, 1) := by decide +kernel
theorem dX9_becomes_21 : decode cX9_becomes 21 = .ok (.getfield 15, 3) := by decide +kernel
theorem dX9_becomes_24 : decode cX9_becomes 24 = .ok (.iload_n 2, 1) := by decide +kernel
theorem dX9_becomes_25 : decode cX9_becomes 25 = .ok (.aload_n 1, 1) := by decide +kernel
theorem dX9_becomes_26 : decode cX9_becomes 26 = .ok (.getfield 15, 3) := by decide +kernel
theorem dX9_becomes_29 : decode cX9_becomes 29 = .ok (.iload_n 2, 1) := by decide +kernel
theorem dX9_becomes_30 : decode cX9_becomes 30 = .ok (.iaload, 1) := by decide +kernel
theorem dX9_becomes_31 : decode cX9_becomes 31 = .ok (.iastore, 1) := by decide +kernel
theorem dX9_becomes_32 : decode cX9_becomes 32 = .ok (.iinc 2 1, 3) := by decide +kernel
theorem dX9_becomes_35 : decode cX9_becomes 35 = .ok (.goto (-33), 3) := by decide +kernel
theorem dX9_becomes_38 : decode cX9_becomes 38 = .ok (.aload_n 0, 1) := by decide +kernel
theorem dX9_becomes_39 : decode cX9_becomes 39 = .ok (.aload_n 1, 1) := by decide +kernel
theorem dX9_becomes_40 : decode cX9_becomes 40 = .ok (.getfield 30, 3) := by decide +kernel
theorem dX9_becomes_43 : decode cX9_becomes 43 = .ok (.putfield 30, 3) := by decide +kernel
theorem dX9_becomes_46 : decode cX9_becomes 46 = .ok (.aload_n 0, 1) := by decide +kernel
theorem dX9_becomes_47 : decode cX9_becomes 47 = .ok (.aload_n 1, 1) := by decide +kernel
theorem dX9_becomes_48 : decode cX9_becomes 48 = .ok (.getfield 31, 3) := by decide +kernel
theorem dX9_becomes_51 : decode cX9_becomes 51 = .ok (.putfield 31, 3) := by decide +kernel
theorem dX9_becomes_54 : decode cX9_becomes 54 = .ok (.aload_n 0, 1) := by decide +kernel
theorem dX9_becomes_55 : decode cX9_becomes 55 = .ok (.aload_n 1, 1) := by decide +kernel
theorem dX9_becomes_56 : decode cX9_becomes 56 = .ok (.getfield 34, 3) := by decide +kernel
theorem dX9_becomes_59 : decode cX9_becomes 59 = .ok (.putfield 34, 3) := by decide +kernel
theorem dX9_becomes_62 : decode cX9_becomes 62 = .ok (.aload_n 0, 1) := by decide +kernel
theorem dX9_becomes_63 : decode cX9_becomes 63 = .ok (.aload_n 1, 1) := by decide +kernel
theorem dX9_becomes_64 : decode cX9_becomes 64 = .ok (.getfield 37, 3) := by decide +kernel
theorem dX9_becomes_67 : decode cX9_becomes 67 = .ok (.putfield 37, 3) := by decide +kernel
theorem dX9_becomes_70 : decode cX9_becomes 70 = .ok (.aload_n 0, 1) := by decide +kernel
theorem dX9_becomes_71 : decode cX9_becomes 71 = .ok (.aload_n 1, 1) := by decide +kernel
theorem dX9_becomes_72 : decode cX9_becomes 72 = .ok (.getfield 40, 3) := by decide +kernel
theorem dX9_becomes_75 : decode cX9_becomes 75 = .ok (.putfield 40, 3) := by decide +kernel
theorem dX9_becomes_78 : decode cX9_becomes 78 = .ok (.aload_n 0, 1) := by decide +kernel
theorem dX9_becomes_79 : decode cX9_becomes 79 = .ok (.aload_n 1, 1) := by decide +kernel
theorem dX9_becomes_80 : decode cX9_becomes 80 = .ok (.getfield 43, 3) := by decide +kernel
theorem dX9_becomes_83 : decode cX9_becomes 83 = .ok (.putfield 43, 3) := by decide +kernel
theorem dX9_becomes_86 : decode cX9_becomes 86 = .ok (.aload_n 0, 1) := by decide +kernel
theorem dX9_becomes_87 : decode cX9_becomes 87 = .ok (.aload_n 1, 1) := by decide +kernel
theorem dX9_becomes_88 : decode cX9_becomes 88 = .ok (.getfield 46, 3) := by decide +kernel
theorem dX9_becomes_91 : decode cX9_becomes 91 = .ok (.putfield 46, 3) := by decide +kernel
theorem dX9_becomes_94 : decode cX9_becomes 94 = .ok (.return_, 1) := by decide +kernel
theorem dX9_free_0 : decode cX9_free 0 = .ok (.iload_n 1, 1) := by decide +kernel
theorem dX9_free_1 : decode cX9_free 1 = .ok (.ifCond .lt 25, 3) := by decide +kernel
theorem dX9_free_4 : decode cX9_free 4 = .ok (.iload_n 1, 1) := by decide +kernel
theorem dX9_free_5 : decode cX9_free 5 = .ok (.bipush 9, 2) := by decide +kernel
theorem dX9_free_7 : decode cX9_free 7 = .ok (.if_icmp .ge 19, 3) := by decide +kernel
theorem dX9_free_10 : decode cX9_free 10 = .ok (.aload_n 0, 1) := by decide +kernel
theorem dX9_free_11 : decode cX9_free 11 = .ok (.getfield 9, 3) := by decide +kernel
theorem dX9_free_14 : decode cX9_free 14 = .ok (.iload_n 1, 1) := by decide +kernel
theorem dX9_free_15 : decode cX9_free 15 = .ok (.iaload, 1) := by decide +kernel
theorem dX9_free_16 : decode cX9_free 16 = .ok (.aload_n 0, 1) := by decide +kernel
theorem dX9_free_17 : decode cX9_free 17 = .ok (.getfield 15, 3) := by decide +kernel
theorem dX9_free_20 : decode cX9_free 20 = .ok (.iload_n 1, 1) := by decide +kernel
theorem dX9_free_21 : decode cX9_free 21 = .ok (.iaload, 1) := by decide +kernel
theorem dX9_free_22 : decode cX9_free 22 = .ok (.isub, 1) := by decide +kernel
theorem dX9_free_23 : decode cX9_free 23 = .ok (.goto 4, 3) := by decide +kernel
theorem dX9_free_26 : decode cX9_free 26 = .ok (.iconst 0, 1) := by decide +kernel
theorem dX9_free_27 : decode cX9_free 27 = .ok (.ireturn, 1) := by decide +kernel
theorem dX9_sitting_0 : decode cX9_sitting 0 = .ok (.iconst 0, 1) := by decide +kernel
theorem dX9_sitting_1 : decode cX9_sitting 1 = .ok (.istore_n 1, 1) := by decide +kernel
theorem dX9_sitting_2 : decode cX9_sitting 2 = .ok (.iconst 0, 1) := by decide +kernel
theorem dX9_sitting_3 : decode cX9_sitting 3 = .ok (.istore_n 2, 1) := by decide +kernel
theorem dX9_sitting_4 : decode cX9_sitting 4 = .ok (.iload_n 2, 1) := by decide +kernel
theorem dX9_sitting_5 : decode cX9_sitting 5 = .ok (.bipush 9, 2) := by decide +kernel
theorem dX9_sitting_7 : decode cX9_sitting 7 = .ok (.if_icmp .ge 18, 3) := by decide +kernel
theorem dX9_sitting_10 : decode cX9_sitting 10 = .ok (.iload_n 1, 1) := by decide +kernel
theorem dX9_sitting_11 : decode cX9_sitting 11 = .ok (.aload_n 0, 1) := by decide +kernel
theorem dX9_sitting_12 : decode cX9_sitting 12 = .ok (.getfield 15, 3) := by decide +kernel
theorem dX9_sitting_15 : decode cX9_sitting 15 = .ok (.iload_n 2, 1) := by decide +kernel
theorem dX9_sitting_16 : decode cX9_sitting 16 = .ok (.iaload, 1) := by decide +kernel
theorem dX9_sitting_17 : decode cX9_sitting 17 = .ok (.iadd, 1) := by decide +kernel
theorem dX9_sitting_18 : decode cX9_sitting 18 = .ok (.istore_n 1, 1) := by decide +kernel
theorem dX9_sitting_19 : decode cX9_sitting 19 = .ok (.iinc 2 1, 3) := by decide +kernel
theorem dX9_sitting_22 : decode cX9_sitting 22 = .ok (.goto (-18), 3) := by decide +kernel
theorem dX9_sitting_25 : decode cX9_sitting 25 = .ok (.iload_n 1, 1) := by decide +kernel
theorem dX9_sitting_26 : decode cX9_sitting 26 = .ok (.ireturn, 1) := by decide +kernel
theorem dX9_withFreeBelow_0 : decode cX9_withFreeBelow 0 = .ok (.iconst 0, 1) := by decide +kernel
theorem dX9_withFreeBelow_1 : decode cX9_withFreeBelow 1 = .ok (.istore_n 3, 1) := by decide +kernel
theorem dX9_withFreeBelow_2 : decode cX9_withFreeBelow 2 = .ok (.iconst 0, 1) := by decide +kernel
theorem dX9_withFreeBelow_3 : decode cX9_withFreeBelow 3 = .ok (.istore 4, 2) := by decide +kernel
theorem dX9_withFreeBelow_5 : decode cX9_withFreeBelow 5 = .ok (.iload 4, 2) := by decide +kernel
theorem dX9_withFreeBelow_7 : decode cX9_withFreeBelow 7 = .ok (.iload_n 2, 1) := by decide +kernel
theorem dX9_withFreeBelow_8 : decode cX9_withFreeBelow 8 = .ok (.if_icmp .ge 26, 3) := by decide +kernel
theorem dX9_withFreeBelow_11 : decode cX9_withFreeBelow 11 = .ok (.aload_n 0, 1) := by decide +kernel
theorem dX9_withFreeBelow_12 : decode cX9_withFreeBelow 12 = .ok (.iload 4, 2) := by decide +kernel
theorem dX9_withFreeBelow_14 : decode cX9_withFreeBelow 14 = .ok (.invokevirtual 49, 3) := by decide +kernel
theorem dX9_withFreeBelow_17 : decode cX9_withFreeBelow 17 = .ok (.iload_n 1, 1) := by decide +kernel
theorem dX9_withFreeBelow_18 : decode cX9_withFreeBelow 18 = .ok (.if_icmp .ge 10, 3) := by decide +kernel
theorem dX9_withFreeBelow_21 : decode cX9_withFreeBelow 21 = .ok (.iload_n 3, 1) := by decide +kernel
theorem dX9_withFreeBelow_22 : decode cX9_withFreeBelow 22 = .ok (.iconst 1, 1) := by decide +kernel
theorem dX9_withFreeBelow_23 : decode cX9_withFreeBelow 23 = .ok (.iload 4, 2) := by decide +kernel
theorem dX9_withFreeBelow_25 : decode cX9_withFreeBelow 25 = .ok (.ishl, 1) := by decide +kernel
theorem dX9_withFreeBelow_26 : decode cX9_withFreeBelow 26 = .ok (.ior, 1) := by decide +kernel
theorem dX9_withFreeBelow_27 : decode cX9_withFreeBelow 27 = .ok (.istore_n 3, 1) := by decide +kernel
theorem dX9_withFreeBelow_28 : decode cX9_withFreeBelow 28 = .ok (.iinc 4 1, 3) := by decide +kernel
theorem dX9_withFreeBelow_31 : decode cX9_withFreeBelow 31 = .ok (.goto (-26), 3) := by decide +kernel
theorem dX9_withFreeBelow_34 : decode cX9_withFreeBelow 34 = .ok (.iload_n 3, 1) := by decide +kernel
theorem dX9_withFreeBelow_35 : decode cX9_withFreeBelow 35 = .ok (.ireturn, 1) := by decide +kernel
theorem dX9_isShut_0 : decode cX9_isShut 0 = .ok (.aload_n 0, 1) := by decide +kernel
theorem dX9_isShut_1 : decode cX9_isShut 1 = .ok (.getfield 31, 3) := by decide +kernel
theorem dX9_isShut_4 : decode cX9_isShut 4 = .ok (.iload_n 1, 1) := by decide +kernel
theorem dX9_isShut_5 : decode cX9_isShut 5 = .ok (.ishr, 1) := by decide +kernel
theorem dX9_isShut_6 : decode cX9_isShut 6 = .ok (.iconst 1, 1) := by decide +kernel
theorem dX9_isShut_7 : decode cX9_isShut 7 = .ok (.iand, 1) := by decide +kernel
theorem dX9_isShut_8 : decode cX9_isShut 8 = .ok (.ifCond .eq 7, 3) := by decide +kernel
theorem dX9_isShut_11 : decode cX9_isShut 11 = .ok (.iconst 1, 1) := by decide +kernel
theorem dX9_isShut_12 : decode cX9_isShut 12 = .ok (.goto 4, 3) := by decide +kernel
theorem dX9_isShut_15 : decode cX9_isShut 15 = .ok (.iconst 0, 1) := by decide +kernel
theorem dX9_isShut_16 : decode cX9_isShut 16 = .ok (.ireturn, 1) := by decide +kernel
theorem dX9_setShut_0 : decode cX9_setShut 0 = .ok (.aload_n 0, 1) := by decide +kernel
theorem dX9_setShut_1 : decode cX9_setShut 1 = .ok (.iload_n 2, 1) := by decide +kernel
theorem dX9_setShut_2 : decode cX9_setShut 2 = .ok (.ifCond .eq 14, 3) := by decide +kernel
theorem dX9_setShut_5 : decode cX9_setShut 5 = .ok (.aload_n 0, 1) := by decide +kernel
theorem dX9_setShut_6 : decode cX9_setShut 6 = .ok (.getfield 31, 3) := by decide +kernel
theorem dX9_setShut_9 : decode cX9_setShut 9 = .ok (.iconst 1, 1) := by decide +kernel
theorem dX9_setShut_10 : decode cX9_setShut 10 = .ok (.iload_n 1, 1) := by decide +kernel
theorem dX9_setShut_11 : decode cX9_setShut 11 = .ok (.ishl, 1) := by decide +kernel
theorem dX9_setShut_12 : decode cX9_setShut 12 = .ok (.ior, 1) := by decide +kernel
theorem dX9_setShut_13 : decode cX9_setShut 13 = .ok (.goto 13, 3) := by decide +kernel
theorem dX9_setShut_16 : decode cX9_setShut 16 = .ok (.aload_n 0, 1) := by decide +kernel
theorem dX9_setShut_17 : decode cX9_setShut 17 = .ok (.getfield 31, 3) := by decide +kernel
theorem dX9_setShut_20 : decode cX9_setShut 20 = .ok (.iconst 1, 1) := by decide +kernel
theorem dX9_setShut_21 : decode cX9_setShut 21 = .ok (.iload_n 1, 1) := by decide +kernel
theorem dX9_setShut_22 : decode cX9_setShut 22 = .ok (.ishl, 1) := by decide +kernel
theorem dX9_setShut_23 : decode cX9_setShut 23 = .ok (.iconst (-1), 1) := by decide +kernel
theorem dX9_setShut_24 : decode cX9_setShut 24 = .ok (.ixor, 1) := by decide +kernel
theorem dX9_setShut_25 : decode cX9_setShut 25 = .ok (.iand, 1) := by decide +kernel
theorem dX9_setShut_26 : decode cX9_setShut 26 = .ok (.putfield 31, 3) := by decide +kernel
theorem dX9_setShut_29 : decode cX9_setShut 29 = .ok (.return_, 1) := by decide +kernel
theorem dX9_chairsFor_0 : decode cX9_chairsFor 0 = .ok (.iconst 0, 1) := by decide +kernel
theorem dX9_chairsFor_1 : decode cX9_chairsFor 1 = .ok (.istore_n 2, 1) := by decide +kernel
theorem dX9_chairsFor_2 : decode cX9_chairsFor 2 = .ok (.iconst 0, 1) := by decide +kernel
theorem dX9_chairsFor_3 : decode cX9_chairsFor 3 = .ok (.istore_n 3, 1) := by decide +kernel
theorem dX9_chairsFor_4 : decode cX9_chairsFor 4 = .ok (.iload_n 3, 1) := by decide +kernel
theorem dX9_chairsFor_5 : decode cX9_chairsFor 5 = .ok (.bipush 9, 2) := by decide +kernel
theorem dX9_chairsFor_7 : decode cX9_chairsFor 7 = .ok (.if_icmp .ge 53, 3) := by decide +kernel
theorem dX9_chairsFor_10 : decode cX9_chairsFor 10 = .ok (.iconst 0, 1) := by decide +kernel
theorem dX9_chairsFor_11 : decode cX9_chairsFor 11 = .ok (.iconst 2, 1) := by decide +kernel
theorem dX9_chairsFor_12 : decode cX9_chairsFor 12 = .ok (.aload_n 0, 1) := by decide +kernel
theorem dX9_chairsFor_13 : decode cX9_chairsFor 13 = .ok (.iload_n 3, 1) := by decide +kernel
theorem dX9_chairsFor_14 : decode cX9_chairsFor 14 = .ok (.invokevirtual 49, 3) := by decide +kernel
theorem dX9_chairsFor_17 : decode cX9_chairsFor 17 = .ok (.isub, 1) := by decide +kernel
theorem dX9_chairsFor_18 : decode cX9_chairsFor 18 = .ok (.invokestatic 53, 3) := by decide +kernel
theorem dX9_chairsFor_21 : decode cX9_chairsFor 21 = .ok (.istore 4, 2) := by decide +kernel
theorem dX9_chairsFor_23 : decode cX9_chairsFor 23 = .ok (.iload_n 1, 1) := by decide +kernel
theorem dX9_chairsFor_24 : decode cX9_chairsFor 24 = .ok (.iload_n 3, 1) := by decide +kernel
theorem dX9_chairsFor_25 : decode cX9_chairsFor 25 = .ok (.ishr, 1) := by decide +kernel
theorem dX9_chairsFor_26 : decode cX9_chairsFor 26 = .ok (.iconst 1, 1) := by decide +kernel
theorem dX9_chairsFor_27 : decode cX9_chairsFor 27 = .ok (.iand, 1) := by decide +kernel
theorem dX9_chairsFor_28 : decode cX9_chairsFor 28 = .ok (.ifCond .eq 26, 3) := by decide +kernel
theorem dX9_chairsFor_31 : decode cX9_chairsFor 31 = .ok (.iload_n 2, 1) := by decide +kernel
theorem dX9_chairsFor_32 : decode cX9_chairsFor 32 = .ok (.aload_n 0, 1) := by decide +kernel
theorem dX9_chairsFor_33 : decode cX9_chairsFor 33 = .ok (.getfield 9, 3) := by decide +kernel
theorem dX9_chairsFor_36 : decode cX9_chairsFor 36 = .ok (.iload_n 3, 1) := by decide +kernel
theorem dX9_chairsFor_37 : decode cX9_chairsFor 37 = .ok (.iaload, 1) := by decide +kernel
theorem dX9_chairsFor_38 : decode cX9_chairsFor 38 = .ok (.iload 4, 2) := by decide +kernel
theorem dX9_chairsFor_40 : decode cX9_chairsFor 40 = .ok (.iadd, 1) := by decide +kernel
theorem dX9_chairsFor_41 : decode cX9_chairsFor 41 = .ok (.bipush 20, 2) := by decide +kernel
theorem dX9_chairsFor_43 : decode cX9_chairsFor 43 = .ok (.if_icmp .le 7, 3) := by decide +kernel
theorem dX9_chairsFor_46 : decode cX9_chairsFor 46 = .ok (.iconst 5, 1) := by decide +kernel
theorem dX9_chairsFor_47 : decode cX9_chairsFor 47 = .ok (.goto 5, 3) := by decide +kernel
theorem dX9_chairsFor_50 : decode cX9_chairsFor 50 = .ok (.iload 4, 2) := by decide +kernel
theorem dX9_chairsFor_52 : decode cX9_chairsFor 52 = .ok (.iadd, 1) := by decide +kernel
theorem dX9_chairsFor_53 : decode cX9_chairsFor 53 = .ok (.istore_n 2, 1) := by decide +kernel
theorem dX9_chairsFor_54 : decode cX9_chairsFor 54 = .ok (.iinc 3 1, 3) := by decide +kernel
theorem dX9_chairsFor_57 : decode cX9_chairsFor 57 = .ok (.goto (-53), 3) := by decide +kernel
theorem dX9_chairsFor_60 : decode cX9_chairsFor 60 = .ok (.iload_n 2, 1) := by decide +kernel
theorem dX9_chairsFor_61 : decode cX9_chairsFor 61 = .ok (.ireturn, 1) := by decide +kernel
theorem dX10_init_0 : decode cX10_init 0 = .ok (.aload_n 0, 1) := by decide +kernel
theorem dX10_init_1 : decode cX10_init 1 = .ok (.invokespecial 3, 3) := by decide +kernel
theorem dX10_init_4 : decode cX10_init 4 = .ok (.aload_n 0, 1) := by decide +kernel
theorem dX10_init_5 : decode cX10_init 5 = .ok (.new 9, 3) := by decide +kernel
theorem dX10_init_8 : decode cX10_init 8 = .ok (.dup, 1) := by decide +kernel
theorem dX10_init_9 : decode cX10_init 9 = .ok (.invokespecial 11, 3) := by decide +kernel
theorem dX10_init_12 : decode cX10_init 12 = .ok (.putfield 12, 3) := by decide +kernel
theorem dX10_init_15 : decode cX10_init 15 = .ok (.aload_n 0, 1) := by decide +kernel
theorem dX10_init_16 : decode cX10_init 16 = .ok (.new 18, 3) := by decide +kernel
theorem dX10_init_19 : decode cX10_init 19 = .ok (.dup, 1) := by decide +kernel
theorem dX10_init_20 : decode cX10_init 20 = .ok (.invokespecial 20, 3) := by decide +kernel
theorem dX10_init_23 : decode cX10_init 23 = .ok (.putfield 21, 3) := by decide +kernel
theorem dX10_init_26 : decode cX10_init 26 = .ok (.aload_n 0, 1) := by decide +kernel
theorem dX10_init_27 : decode cX10_init 27 = .ok (.new 25, 3) := by decide +kernel
theorem dX10_init_30 : decode cX10_init 30 = .ok (.dup, 1) := by decide +kernel
theorem dX10_init_31 : decode cX10_init 31 = .ok (.invokespecial 27, 3) := by decide +kernel
theorem dX10_init_34 : decode cX10_init 34 = .ok (.putfield 28, 3) := by decide +kernel
theorem dX10_init_37 : decode cX10_init 37 = .ok (.aload_n 0, 1) := by decide +kernel
theorem dX10_init_38 : decode cX10_init 38 = .ok (.bipush 9, 2) := by decide +kernel
theorem dX10_init_40 : decode cX10_init 40 = .ok (.newarray .int, 2) := by decide +kernel
theorem dX10_init_42 : decode cX10_init 42 = .ok (.putfield 32, 3) := by decide +kernel
theorem dX10_init_45 : decode cX10_init 45 = .ok (.return_, 1) := by decide +kernel
theorem dX10_moreGuests_0 : decode cX10_moreGuests 0 = .ok (.aload_n 0, 1) := by decide +kernel
theorem dX10_moreGuests_1 : decode cX10_moreGuests 1 = .ok (.getfield 12, 3) := by decide +kernel
theorem dX10_moreGuests_4 : decode cX10_moreGuests 4 = .ok (.aload_n 1, 1) := by decide +kernel
theorem dX10_moreGuests_5 : decode cX10_moreGuests 5 = .ok (.aload_n 2, 1) := by decide +kernel
theorem dX10_moreGuests_6 : decode cX10_moreGuests 6 = .ok (.getfield 36, 3) := by decide +kernel
theorem dX10_moreGuests_9 : decode cX10_moreGuests 9 = .ok (.invokevirtual 40, 3) := by decide +kernel
theorem dX10_moreGuests_12 : decode cX10_moreGuests 12 = .ok (.aload_n 0, 1) := by decide +kernel
theorem dX10_moreGuests_13 : decode cX10_moreGuests 13 = .ok (.getfield 12, 3) := by decide +kernel
theorem dX10_moreGuests_16 : decode cX10_moreGuests 16 = .ok (.iload_n 3, 1) := by decide +kernel
theorem dX10_moreGuests_17 : decode cX10_moreGuests 17 = .ok (.invokevirtual 44, 3) := by decide +kernel
theorem dX10_moreGuests_20 : decode cX10_moreGuests 20 = .ok (.istore 4, 2) := by decide +kernel
theorem dX10_moreGuests_22 : decode cX10_moreGuests 22 = .ok (.iconst 0, 1) := by decide +kernel
theorem dX10_moreGuests_23 : decode cX10_moreGuests 23 = .ok (.istore 5, 2) := by decide +kernel
theorem dX10_moreGuests_25 : decode cX10_moreGuests 25 = .ok (.iconst 0, 1) := by decide +kernel
theorem dX10_moreGuests_26 : decode cX10_moreGuests 26 = .ok (.istore 6, 2) := by decide +kernel
theorem dX10_moreGuests_28 : decode cX10_moreGuests 28 = .ok (.iload 6, 2) := by decide +kernel
theorem dX10_moreGuests_30 : decode cX10_moreGuests 30 = .ok (.aload_n 1, 1) := by decide +kernel
theorem dX10_moreGuests_31 : decode cX10_moreGuests 31 = .ok (.getfield 48, 3) := by decide +kernel
theorem dX10_moreGuests_34 : decode cX10_moreGuests 34 = .ok (.if_icmp .ge 36, 3) := by decide +kernel
theorem dX10_moreGuests_37 : decode cX10_moreGuests 37 = .ok (.iload 4, 2) := by decide +kernel
theorem dX10_moreGuests_39 : decode cX10_moreGuests 39 = .ok (.iload 6, 2) := by decide +kernel
theorem dX10_moreGuests_41 : decode cX10_moreGuests 41 = .ok (.ishr, 1) := by decide +kernel
theorem dX10_moreGuests_42 : decode cX10_moreGuests 42 = .ok (.iconst 1, 1) := by decide +kernel
theorem dX10_moreGuests_43 : decode cX10_moreGuests 43 = .ok (.iand, 1) := by decide +kernel
theorem dX10_moreGuests_44 : decode cX10_moreGuests 44 = .ok (.ifCond .eq 20, 3) := by decide +kernel
theorem dX10_moreGuests_47 : decode cX10_moreGuests 47 = .ok (.iload 5, 2) := by decide +kernel
theorem dX10_moreGuests_49 : decode cX10_moreGuests 49 = .ok (.iconst 0, 1) := by decide +kernel
theorem dX10_moreGuests_50 : decode cX10_moreGuests 50 = .ok (.aload_n 2, 1) := by decide +kernel
theorem dX10_moreGuests_51 : decode cX10_moreGuests 51 = .ok (.iload 6, 2) := by decide +kernel
theorem dX10_moreGuests_53 : decode cX10_moreGuests 53 = .ok (.invokevirtual 53, 3) := by decide +kernel
theorem dX10_moreGuests_56 : decode cX10_moreGuests 56 = .ok (.iconst 1, 1) := by decide +kernel
theorem dX10_moreGuests_57 : decode cX10_moreGuests 57 = .ok (.isub, 1) := by decide +kernel
theorem dX10_moreGuests_58 : decode cX10_moreGuests 58 = .ok (.invokestatic 56, 3) := by decide +kernel
theorem dX10_moreGuests_61 : decode cX10_moreGuests 61 = .ok (.iadd, 1) := by decide +kernel
theorem dX10_moreGuests_62 : decode cX10_moreGuests 62 = .ok (.istore 5, 2) := by decide +kernel
theorem dX10_moreGuests_64 : decode cX10_moreGuests 64 = .ok (.iinc 6 1, 3) := by decide +kernel
theorem dX10_moreGuests_67 : decode cX10_moreGuests 67 = .ok (.goto (-39), 3) := by decide +kernel
theorem dX10_moreGuests_70 : decode cX10_moreGuests 70 = .ok (.iload 5, 2) := by decide +kernel
theorem dX10_moreGuests_72 : decode cX10_moreGuests 72 = .ok (.ireturn, 1) := by decide +kernel
theorem dX10_leastFree_0 : decode cX10_leastFree 0 = .ok (.aload_n 0, 1) := by decide +kernel
theorem dX10_leastFree_1 : decode cX10_leastFree 1 = .ok (.getfield 12, 3) := by decide +kernel
theorem dX10_leastFree_4 : decode cX10_leastFree 4 = .ok (.aload_n 1, 1) := by decide +kernel
theorem dX10_leastFree_5 : decode cX10_leastFree 5 = .ok (.aload_n 2, 1) := by decide +kernel
theorem dX10_leastFree_6 : decode cX10_leastFree 6 = .ok (.getfield 36, 3) := by decide +kernel
theorem dX10_leastFree_9 : decode cX10_leastFree 9 = .ok (.invokevirtual 40, 3) := by decide +kernel
theorem dX10_leastFree_12 : decode cX10_leastFree 12 = .ok (.aload_n 0, 1) := by decide +kernel
theorem dX10_leastFree_13 : decode cX10_leastFree 13 = .ok (.getfield 12, 3) := by decide +kernel
theorem dX10_leastFree_16 : decode cX10_leastFree 16 = .ok (.iload_n 3, 1) := by decide +kernel
theorem dX10_leastFree_17 : decode cX10_leastFree 17 = .ok (.invokevirtual 44, 3) := by decide +kernel
theorem dX10_leastFree_20 : decode cX10_leastFree 20 = .ok (.istore 4, 2) := by decide +kernel
theorem dX10_leastFree_22 : decode cX10_leastFree 22 = .ok (.iconst 0, 1) := by decide +kernel
theorem dX10_leastFree_23 : decode cX10_leastFree 23 = .ok (.istore 5, 2) := by decide +kernel
theorem dX10_leastFree_25 : decode cX10_leastFree 25 = .ok (.iconst 0, 1) := by decide +kernel
theorem dX10_leastFree_26 : decode cX10_leastFree 26 = .ok (.istore 6, 2) := by decide +kernel
theorem dX10_leastFree_28 : decode cX10_leastFree 28 = .ok (.bipush 20, 2) := by decide +kernel
theorem dX10_leastFree_30 : decode cX10_leastFree 30 = .ok (.istore 7, 2) := by decide +kernel
theorem dX10_leastFree_32 : decode cX10_leastFree 32 = .ok (.iconst 0, 1) := by decide +kernel
theorem dX10_leastFree_33 : decode cX10_leastFree 33 = .ok (.istore 8, 2) := by decide +kernel
theorem dX10_leastFree_35 : decode cX10_leastFree 35 = .ok (.iload 8, 2) := by decide +kernel
theorem dX10_leastFree_37 : decode cX10_leastFree 37 = .ok (.aload_n 1, 1) := by decide +kernel
theorem dX10_leastFree_38 : decode cX10_leastFree 38 = .ok (.getfield 48, 3) := by decide +kernel
theorem dX10_leastFree_41 : decode cX10_leastFree 41 = .ok (.if_icmp .ge 47, 3) := by decide +kernel
theorem dX10_leastFree_44 : decode cX10_leastFree 44 = .ok (.iload 4, 2) := by decide +kernel
theorem dX10_leastFree_46 : decode cX10_leastFree 46 = .ok (.iload 8, 2) := by decide +kernel
theorem dX10_leastFree_48 : decode cX10_leastFree 48 = .ok (.ishr, 1) := by decide +kernel
theorem dX10_leastFree_49 : decode cX10_leastFree 49 = .ok (.iconst 1, 1) := by decide +kernel
theorem dX10_leastFree_50 : decode cX10_leastFree 50 = .ok (.iand, 1) := by decide +kernel
theorem dX10_leastFree_51 : decode cX10_leastFree 51 = .ok (.ifCond .eq 31, 3) := by decide +kernel
theorem dX10_leastFree_54 : decode cX10_leastFree 54 = .ok (.iload 5, 2) := by decide +kernel
theorem dX10_leastFree_56 : decode cX10_leastFree 56 = .ok (.aload_n 2, 1) := by decide +kernel
theorem dX10_leastFree_57 : decode cX10_leastFree 57 = .ok (.iload 8, 2) := by decide +kernel
theorem dX10_leastFree_59 : decode cX10_leastFree 59 = .ok (.invokevirtual 53, 3) := by decide +kernel
theorem dX10_leastFree_62 : decode cX10_leastFree 62 = .ok (.iadd, 1) := by decide +kernel
theorem dX10_leastFree_63 : decode cX10_leastFree 63 = .ok (.istore 5, 2) := by decide +kernel
theorem dX10_leastFree_65 : decode cX10_leastFree 65 = .ok (.iinc 6 1, 3) := by decide +kernel
theorem dX10_leastFree_68 : decode cX10_leastFree 68 = .ok (.iload 7, 2) := by decide +kernel
theorem dX10_leastFree_70 : decode cX10_leastFree 70 = .ok (.aload_n 2, 1) := by decide +kernel
theorem dX10_leastFree_71 : decode cX10_leastFree 71 = .ok (.getfield 62, 3) := by decide +kernel
theorem dX10_leastFree_74 : decode cX10_leastFree 74 = .ok (.iload 8, 2) := by decide +kernel
theorem dX10_leastFree_76 : decode cX10_leastFree 76 = .ok (.iaload, 1) := by decide +kernel
theorem dX10_leastFree_77 : decode cX10_leastFree 77 = .ok (.invokestatic 65, 3) := by decide +kernel
theorem dX10_leastFree_80 : decode cX10_leastFree 80 = .ok (.istore 7, 2) := by decide +kernel
theorem dX10_leastFree_82 : decode cX10_leastFree 82 = .ok (.iinc 8 1, 3) := by decide +kernel
theorem dX10_leastFree_85 : decode cX10_leastFree 85 = .ok (.goto (-50), 3) := by decide +kernel
theorem dX10_leastFree_88 : decode cX10_leastFree 88 = .ok (.iload 6, 2) := by decide +kernel
theorem dX10_leastFree_90 : decode cX10_leastFree 90 = .ok (.ifCond .le 16, 3) := by decide +kernel
theorem dX10_leastFree_93 : decode cX10_leastFree 93 = .ok (.iload 7, 2) := by decide +kernel
theorem dX10_leastFree_95 : decode cX10_leastFree 95 = .ok (.iload 5, 2) := by decide +kernel
theorem dX10_leastFree_97 : decode cX10_leastFree 97 = .ok (.iload 6, 2) := by decide +kernel
theorem dX10_leastFree_99 : decode cX10_leastFree 99 = .ok (.idiv, 1) := by decide +kernel
theorem dX10_leastFree_100 : decode cX10_leastFree 100 = .ok (.invokestatic 65, 3) := by decide +kernel
theorem dX10_leastFree_103 : decode cX10_leastFree 103 = .ok (.goto 4, 3) := by decide +kernel
theorem dX10_leastFree_106 : decode cX10_leastFree 106 = .ok (.iconst 0, 1) := by decide +kernel
theorem dX10_leastFree_107 : decode cX10_leastFree 107 = .ok (.ireturn, 1) := by decide +kernel
theorem dX10_movesOfTwo_0 : decode cX10_movesOfTwo 0 = .ok (.aload_n 0, 1) := by decide +kernel
theorem dX10_movesOfTwo_1 : decode cX10_movesOfTwo 1 = .ok (.getfield 28, 3) := by decide +kernel
theorem dX10_movesOfTwo_4 : decode cX10_movesOfTwo 4 = .ok (.aload_n 2, 1) := by decide +kernel
theorem dX10_movesOfTwo_5 : decode cX10_movesOfTwo 5 = .ok (.invokevirtual 68, 3) := by decide +kernel
theorem dX10_movesOfTwo_8 : decode cX10_movesOfTwo 8 = .ok (.aload_n 0, 1) := by decide +kernel
theorem dX10_movesOfTwo_9 : decode cX10_movesOfTwo 9 = .ok (.aload_n 1, 1) := by decide +kernel
theorem dX10_movesOfTwo_10 : decode cX10_movesOfTwo 10 = .ok (.iload_n 3, 1) := by decide +kernel
theorem dX10_movesOfTwo_11 : decode cX10_movesOfTwo 11 = .ok (.invokevirtual 72, 3) := by decide +kernel
theorem dX10_movesOfTwo_14 : decode cX10_movesOfTwo 14 = .ok (.aload_n 0, 1) := by decide +kernel
theorem dX10_movesOfTwo_15 : decode cX10_movesOfTwo 15 = .ok (.aload_n 1, 1) := by decide +kernel
theorem dX10_movesOfTwo_16 : decode cX10_movesOfTwo 16 = .ok (.iload 4, 2) := by decide +kernel
theorem dX10_movesOfTwo_18 : decode cX10_movesOfTwo 18 = .ok (.invokevirtual 72, 3) := by decide +kernel
theorem dX10_movesOfTwo_21 : decode cX10_movesOfTwo 21 = .ok (.iadd, 1) := by decide +kernel
theorem dX10_movesOfTwo_22 : decode cX10_movesOfTwo 22 = .ok (.ireturn, 1) := by decide +kernel
theorem dX10_movesCounted_0 : decode cX10_movesCounted 0 = .ok (.aload_n 0, 1) := by decide +kernel
theorem dX10_movesCounted_1 : decode cX10_movesCounted 1 = .ok (.getfield 21, 3) := by decide +kernel
theorem dX10_movesCounted_4 : decode cX10_movesCounted 4 = .ok (.aload_n 1, 1) := by decide +kernel
theorem dX10_movesCounted_5 : decode cX10_movesCounted 5 = .ok (.aload_n 0, 1) := by decide +kernel
theorem dX10_movesCounted_6 : decode cX10_movesCounted 6 = .ok (.getfield 28, 3) := by decide +kernel
theorem dX10_movesCounted_9 : decode cX10_movesCounted 9 = .ok (.iload_n 2, 1) := by decide +kernel
theorem dX10_movesCounted_10 : decode cX10_movesCounted 10 = .ok (.invokevirtual 76, 3) := by decide +kernel
theorem dX10_movesCounted_13 : decode cX10_movesCounted 13 = .ok (.istore_n 3, 1) := by decide +kernel
theorem dX10_movesCounted_14 : decode cX10_movesCounted 14 = .ok (.iload_n 3, 1) := by decide +kernel
theorem dX10_movesCounted_15 : decode cX10_movesCounted 15 = .ok (.ifCond .ge 9, 3) := by decide +kernel
theorem dX10_movesCounted_18 : decode cX10_movesCounted 18 = .ok (.sipush 1000, 3) := by decide +kernel
theorem dX10_movesCounted_21 : decode cX10_movesCounted 21 = .ok (.goto 4, 3) := by decide +kernel
theorem dX10_movesCounted_24 : decode cX10_movesCounted 24 = .ok (.iload_n 3, 1) := by decide +kernel
theorem dX10_movesCounted_25 : decode cX10_movesCounted 25 = .ok (.ireturn, 1) := by decide +kernel
theorem dX10_opened_0 : decode cX10_opened 0 = .ok (.aload_n 0, 1) := by decide +kernel
theorem dX10_opened_1 : decode cX10_opened 1 = .ok (.getfield 12, 3) := by decide +kernel
theorem dX10_opened_4 : decode cX10_opened 4 = .ok (.aload_n 1, 1) := by decide +kernel
theorem dX10_opened_5 : decode cX10_opened 5 = .ok (.aload_n 2, 1) := by decide +kernel
theorem dX10_opened_6 : decode cX10_opened 6 = .ok (.getfield 36, 3) := by decide +kernel
theorem dX10_opened_9 : decode cX10_opened 9 = .ok (.invokevirtual 40, 3) := by decide +kernel
theorem dX10_opened_12 : decode cX10_opened 12 = .ok (.iconst 0, 1) := by decide +kernel
theorem dX10_opened_13 : decode cX10_opened 13 = .ok (.istore 5, 2) := by decide +kernel
theorem dX10_opened_15 : decode cX10_opened 15 = .ok (.iload 5, 2) := by decide +kernel
theorem dX10_opened_17 : decode cX10_opened 17 = .ok (.aload_n 1, 1) := by decide +kernel
theorem dX10_opened_18 : decode cX10_opened 18 = .ok (.getfield 48, 3) := by decide +kernel
theorem dX10_opened_21 : decode cX10_opened 21 = .ok (.if_icmp .ge 27, 3) := by decide +kernel
theorem dX10_opened_24 : decode cX10_opened 24 = .ok (.aload_n 0, 1) := by decide +kernel
theorem dX10_opened_25 : decode cX10_opened 25 = .ok (.getfield 32, 3) := by decide +kernel
theorem dX10_opened_28 : decode cX10_opened 28 = .ok (.iload 5, 2) := by decide +kernel
theorem dX10_opened_30 : decode cX10_opened 30 = .ok (.aload_n 0, 1) := by decide +kernel
theorem dX10_opened_31 : decode cX10_opened 31 = .ok (.getfield 12, 3) := by decide +kernel
theorem dX10_opened_34 : decode cX10_opened 34 = .ok (.iload 5, 2) := by decide +kernel
theorem dX10_opened_36 : decode cX10_opened 36 = .ok (.iload 4, 2) := by decide +kernel
theorem dX10_opened_38 : decode cX10_opened 38 = .ok (.invokevirtual 80, 3) := by decide +kernel
theorem dX10_opened_41 : decode cX10_opened 41 = .ok (.iastore, 1) := by decide +kernel
theorem dX10_opened_42 : decode cX10_opened 42 = .ok (.iinc 5 1, 3) := by decide +kernel
theorem dX10_opened_45 : decode cX10_opened 45 = .ok (.goto (-30), 3) := by decide +kernel
theorem dX10_opened_48 : decode cX10_opened 48 = .ok (.aload_n 2, 1) := by decide +kernel
theorem dX10_opened_49 : decode cX10_opened 49 = .ok (.iconst 2, 1) := by decide +kernel
theorem dX10_opened_50 : decode cX10_opened 50 = .ok (.aload_n 1, 1) := by decide +kernel
theorem dX10_opened_51 : decode cX10_opened 51 = .ok (.getfield 48, 3) := by decide +kernel
theorem dX10_opened_54 : decode cX10_opened 54 = .ok (.invokevirtual 83, 3) := by decide +kernel
theorem dX10_opened_57 : decode cX10_opened 57 = .ok (.istore 5, 2) := by decide +kernel
theorem dX10_opened_59 : decode cX10_opened 59 = .ok (.aload_n 1, 1) := by decide +kernel
theorem dX10_opened_60 : decode cX10_opened 60 = .ok (.invokevirtual 86, 3) := by decide +kernel
theorem dX10_opened_63 : decode cX10_opened 63 = .ok (.iload 5, 2) := by decide +kernel
theorem dX10_opened_65 : decode cX10_opened 65 = .ok (.iconst (-1), 1) := by decide +kernel
theorem dX10_opened_66 : decode cX10_opened 66 = .ok (.ixor, 1) := by decide +kernel
theorem dX10_opened_67 : decode cX10_opened 67 = .ok (.iand, 1) := by decide +kernel
theorem dX10_opened_68 : decode cX10_opened 68 = .ok (.istore 6, 2) := by decide +kernel
theorem dX10_opened_70 : decode cX10_opened 70 = .ok (.iconst (-1), 1) := by decide +kernel
theorem dX10_opened_71 : decode cX10_opened 71 = .ok (.istore 7, 2) := by decide +kernel
theorem dX10_opened_73 : decode cX10_opened 73 = .ok (.iconst 5, 1) := by decide +kernel
theorem dX10_opened_74 : decode cX10_opened 74 = .ok (.istore 8, 2) := by decide +kernel
theorem dX10_opened_76 : decode cX10_opened 76 = .ok (.iconst 0, 1) := by decide +kernel
theorem dX10_opened_77 : decode cX10_opened 77 = .ok (.istore 9, 2) := by decide +kernel
theorem dX10_opened_79 : decode cX10_opened 79 = .ok (.iload 9, 2) := by decide +kernel
theorem dX10_opened_81 : decode cX10_opened 81 = .ok (.iload 5, 2) := by decide +kernel
theorem dX10_opened_83 : decode cX10_opened 83 = .ok (.if_icmp .gt 93, 3) := by decide +kernel
theorem dX10_opened_86 : decode cX10_opened 86 = .ok (.iload 8, 2) := by decide +kernel
theorem dX10_opened_88 : decode cX10_opened 88 = .ok (.ifCond .le 88, 3) := by decide +kernel
theorem dX10_opened_91 : decode cX10_opened 91 = .ok (.iload 9, 2) := by decide +kernel
theorem dX10_opened_93 : decode cX10_opened 93 = .ok (.iload 5, 2) := by decide +kernel
theorem dX10_opened_95 : decode cX10_opened 95 = .ok (.iconst (-1), 1) := by decide +kernel
theorem dX10_opened_96 : decode cX10_opened 96 = .ok (.ixor, 1) := by decide +kernel
theorem dX10_opened_97 : decode cX10_opened 97 = .ok (.iand, 1) := by decide +kernel
theorem dX10_opened_98 : decode cX10_opened 98 = .ok (.ifCond .ne 72, 3) := by decide +kernel
theorem dX10_opened_101 : decode cX10_opened 101 = .ok (.iload 9, 2) := by decide +kernel
theorem dX10_opened_103 : decode cX10_opened 103 = .ok (.invokestatic 90, 3) := by decide +kernel
theorem dX10_opened_106 : decode cX10_opened 106 = .ok (.iconst 4, 1) := by decide +kernel
theorem dX10_opened_107 : decode cX10_opened 107 = .ok (.if_icmp .le 6, 3) := by decide +kernel
theorem dX10_opened_110 : decode cX10_opened 110 = .ok (.goto 60, 3) := by decide +kernel
theorem dX10_opened_113 : decode cX10_opened 113 = .ok (.aload_n 0, 1) := by decide +kernel
theorem dX10_opened_114 : decode cX10_opened 114 = .ok (.aload_n 1, 1) := by decide +kernel
theorem dX10_opened_115 : decode cX10_opened 115 = .ok (.iload_n 3, 1) := by decide +kernel
theorem dX10_opened_116 : decode cX10_opened 116 = .ok (.iload 6, 2) := by decide +kernel
theorem dX10_opened_118 : decode cX10_opened 118 = .ok (.iload 9, 2) := by decide +kernel
theorem dX10_opened_120 : decode cX10_opened 120 = .ok (.ior, 1) := by decide +kernel
theorem dX10_opened_121 : decode cX10_opened 121 = .ok (.invokevirtual 95, 3) := by decide +kernel
theorem dX10_opened_124 : decode cX10_opened 124 = .ok (.ifCond .ne 6, 3) := by decide +kernel
theorem dX10_opened_127 : decode cX10_opened 127 = .ok (.goto 43, 3) := by decide +kernel
theorem dX10_opened_130 : decode cX10_opened 130 = .ok (.aload_n 2, 1) := by decide +kernel
theorem dX10_opened_131 : decode cX10_opened 131 = .ok (.iload 9, 2) := by decide +kernel
theorem dX10_opened_133 : decode cX10_opened 133 = .ok (.invokevirtual 99, 3) := by decide +kernel
theorem dX10_opened_136 : decode cX10_opened 136 = .ok (.istore 10, 2) := by decide +kernel
theorem dX10_opened_138 : decode cX10_opened 138 = .ok (.iload 10, 2) := by decide +kernel
theorem dX10_opened_140 : decode cX10_opened 140 = .ok (.iload 8, 2) := by decide +kernel
theorem dX10_opened_142 : decode cX10_opened 142 = .ok (.if_icmp .lt 20, 3) := by decide +kernel
theorem dX10_opened_145 : decode cX10_opened 145 = .ok (.iload 10, 2) := by decide +kernel
theorem dX10_opened_147 : decode cX10_opened 147 = .ok (.iload 8, 2) := by decide +kernel
theorem dX10_opened_149 : decode cX10_opened 149 = .ok (.if_icmp .ne 21, 3) := by decide +kernel
theorem dX10_opened_152 : decode cX10_opened 152 = .ok (.iload 9, 2) := by decide +kernel
theorem dX10_opened_154 : decode cX10_opened 154 = .ok (.iload 7, 2) := by decide +kernel
theorem dX10_opened_156 : decode cX10_opened 156 = .ok (.invokestatic 102, 3) := by decide +kernel
theorem dX10_opened_159 : decode cX10_opened 159 = .ok (.ifCond .eq 11, 3) := by decide +kernel
theorem dX10_opened_162 : decode cX10_opened 162 = .ok (.iload 10, 2) := by decide +kernel
theorem dX10_opened_164 : decode cX10_opened 164 = .ok (.istore 8, 2) := by decide +kernel
theorem dX10_opened_166 : decode cX10_opened 166 = .ok (.iload 9, 2) := by decide +kernel
theorem dX10_opened_168 : decode cX10_opened 168 = .ok (.istore 7, 2) := by decide +kernel
theorem dX10_opened_170 : decode cX10_opened 170 = .ok (.iinc 9 1, 3) := by decide +kernel
theorem dX10_opened_173 : decode cX10_opened 173 = .ok (.goto (-94), 3) := by decide +kernel
theorem dX10_opened_176 : decode cX10_opened 176 = .ok (.iload 7, 2) := by decide +kernel
theorem dX10_opened_178 : decode cX10_opened 178 = .ok (.ireturn, 1) := by decide +kernel
theorem dX10_reachesAll_0 : decode cX10_reachesAll 0 = .ok (.iconst 0, 1) := by decide +kernel
theorem dX10_reachesAll_1 : decode cX10_reachesAll 1 = .ok (.istore 4, 2) := by decide +kernel
theorem dX10_reachesAll_3 : decode cX10_reachesAll 3 = .ok (.iload 4, 2) := by decide +kernel
theorem dX10_reachesAll_5 : decode cX10_reachesAll 5 = .ok (.aload_n 1, 1) := by decide +kernel
theorem dX10_reachesAll_6 : decode cX10_reachesAll 6 = .ok (.getfield 48, 3) := by decide +kernel
theorem dX10_reachesAll_9 : decode cX10_reachesAll 9 = .ok (.if_icmp .ge 32, 3) := by decide +kernel
theorem dX10_reachesAll_12 : decode cX10_reachesAll 12 = .ok (.iload_n 2, 1) := by decide +kernel
theorem dX10_reachesAll_13 : decode cX10_reachesAll 13 = .ok (.iload 4, 2) := by decide +kernel
theorem dX10_reachesAll_15 : decode cX10_reachesAll 15 = .ok (.ishr, 1) := by decide +kernel
theorem dX10_reachesAll_16 : decode cX10_reachesAll 16 = .ok (.iconst 1, 1) := by decide +kernel
theorem dX10_reachesAll_17 : decode cX10_reachesAll 17 = .ok (.iand, 1) := by decide +kernel
theorem dX10_reachesAll_18 : decode cX10_reachesAll 18 = .ok (.ifCond .eq 17, 3) := by decide +kernel
theorem dX10_reachesAll_21 : decode cX10_reachesAll 21 = .ok (.aload_n 0, 1) := by decide +kernel
theorem dX10_reachesAll_22 : decode cX10_reachesAll 22 = .ok (.getfield 32, 3) := by decide +kernel
theorem dX10_reachesAll_25 : decode cX10_reachesAll 25 = .ok (.iload 4, 2) := by decide +kernel
theorem dX10_reachesAll_27 : decode cX10_reachesAll 27 = .ok (.iaload, 1) := by decide +kernel
theorem dX10_reachesAll_28 : decode cX10_reachesAll 28 = .ok (.iload_n 3, 1) := by decide +kernel
theorem dX10_reachesAll_29 : decode cX10_reachesAll 29 = .ok (.iand, 1) := by decide +kernel
theorem dX10_reachesAll_30 : decode cX10_reachesAll 30 = .ok (.ifCond .ne 5, 3) := by decide +kernel
theorem dX10_reachesAll_33 : decode cX10_reachesAll 33 = .ok (.iconst 0, 1) := by decide +kernel
theorem dX10_reachesAll_34 : decode cX10_reachesAll 34 = .ok (.ireturn, 1) := by decide +kernel
theorem dX10_reachesAll_35 : decode cX10_reachesAll 35 = .ok (.iinc 4 1, 3) := by decide +kernel
theorem dX10_reachesAll_38 : decode cX10_reachesAll 38 = .ok (.goto (-35), 3) := by decide +kernel
theorem dX10_reachesAll_41 : decode cX10_reachesAll 41 = .ok (.iconst 1, 1) := by decide +kernel
theorem dX10_reachesAll_42 : decode cX10_reachesAll 42 = .ok (.ireturn, 1) := by decide +kernel
theorem dX10_isAhead_0 : decode cX10_isAhead 0 = .ok (.iload_n 0, 1) := by decide +kernel
theorem dX10_isAhead_1 : decode cX10_isAhead 1 = .ok (.iload_n 1, 1) := by decide +kernel
theorem dX10_isAhead_2 : decode cX10_isAhead 2 = .ok (.ixor, 1) := by decide +kernel
theorem dX10_isAhead_3 : decode cX10_isAhead 3 = .ok (.istore_n 2, 1) := by decide +kernel
theorem dX10_isAhead_4 : decode cX10_isAhead 4 = .ok (.iload_n 2, 1) := by decide +kernel
theorem dX10_isAhead_5 : decode cX10_isAhead 5 = .ok (.iload_n 2, 1) := by decide +kernel
theorem dX10_isAhead_6 : decode cX10_isAhead 6 = .ok (.ineg, 1) := by decide +kernel
theorem dX10_isAhead_7 : decode cX10_isAhead 7 = .ok (.iand, 1) := by decide +kernel
theorem dX10_isAhead_8 : decode cX10_isAhead 8 = .ok (.istore_n 3, 1) := by decide +kernel
theorem dX10_isAhead_9 : decode cX10_isAhead 9 = .ok (.iload_n 1, 1) := by decide +kernel
theorem dX10_isAhead_10 : decode cX10_isAhead 10 = .ok (.iconst (-1), 1) := by decide +kernel
theorem dX10_isAhead_11 : decode cX10_isAhead 11 = .ok (.if_icmp .eq 13, 3) := by decide +kernel
theorem dX10_isAhead_14 : decode cX10_isAhead 14 = .ok (.iload_n 0, 1) := by decide +kernel
theorem dX10_isAhead_15 : decode cX10_isAhead 15 = .ok (.iload_n 3, 1) := by decide +kernel
theorem dX10_isAhead_16 : decode cX10_isAhead 16 = .ok (.iand, 1) := by decide +kernel
theorem dX10_isAhead_17 : decode cX10_isAhead 17 = .ok (.ifCond .eq 7, 3) := by decide +kernel
theorem dX10_isAhead_20 : decode cX10_isAhead 20 = .ok (.iconst 1, 1) := by decide +kernel
theorem dX10_isAhead_21 : decode cX10_isAhead 21 = .ok (.goto 4, 3) := by decide +kernel
theorem dX10_isAhead_24 : decode cX10_isAhead 24 = .ok (.iconst 0, 1) := by decide +kernel
theorem dX10_isAhead_25 : decode cX10_isAhead 25 = .ok (.ireturn, 1) := by decide +kernel
theorem dX11_init_0 : decode cX11_init 0 = .ok (.aload_n 0, 1) := by decide +kernel
theorem dX11_init_1 : decode cX11_init 1 = .ok (.invokespecial 1, 3) := by decide +kernel
theorem dX11_init_4 : decode cX11_init 4 = .ok (.aload_n 0, 1) := by decide +kernel
theorem dX11_init_5 : decode cX11_init 5 = .ok (.new 7, 3) := by decide +kernel
theorem dX11_init_8 : decode cX11_init 8 = .ok (.dup, 1) := by decide +kernel
theorem dX11_init_9 : decode cX11_init 9 = .ok (.invokespecial 9, 3) := by decide +kernel
theorem dX11_init_12 : decode cX11_init 12 = .ok (.putfield 10, 3) := by decide +kernel
theorem dX11_init_15 : decode cX11_init 15 = .ok (.aload_n 0, 1) := by decide +kernel
theorem dX11_init_16 : decode cX11_init 16 = .ok (.new 16, 3) := by decide +kernel
theorem dX11_init_19 : decode cX11_init 19 = .ok (.dup, 1) := by decide +kernel
theorem dX11_init_20 : decode cX11_init 20 = .ok (.invokespecial 18, 3) := by decide +kernel
theorem dX11_init_23 : decode cX11_init 23 = .ok (.putfield 19, 3) := by decide +kernel
theorem dX11_init_26 : decode cX11_init 26 = .ok (.aload_n 0, 1) := by decide +kernel
theorem dX11_init_27 : decode cX11_init 27 = .ok (.new 23, 3) := by decide +kernel
theorem dX11_init_30 : decode cX11_init 30 = .ok (.dup, 1) := by decide +kernel
theorem dX11_init_31 : decode cX11_init 31 = .ok (.invokespecial 25, 3) := by decide +kernel
theorem dX11_init_34 : decode cX11_init 34 = .ok (.putfield 26, 3) := by decide +kernel
theorem dX11_init_37 : decode cX11_init 37 = .ok (.aload_n 0, 1) := by decide +kernel
theorem dX11_init_38 : decode cX11_init 38 = .ok (.new 30, 3) := by decide +kernel
theorem dX11_init_41 : decode cX11_init 41 = .ok (.dup, 1) := by decide +kernel
theorem dX11_init_42 : decode cX11_init 42 = .ok (.invokespecial 32, 3) := by decide +kernel
theorem dX11_init_45 : decode cX11_init 45 = .ok (.putfield 33, 3) := by decide +kernel
theorem dX11_init_48 : decode cX11_init 48 = .ok (.aload_n 0, 1) := by decide +kernel
theorem dX11_init_49 : decode cX11_init 49 = .ok (.new 37, 3) := by decide +kernel
theorem dX11_init_52 : decode cX11_init 52 = .ok (.dup, 1) := by decide +kernel
theorem dX11_init_53 : decode cX11_init 53 = .ok (.invokespecial 39, 3) := by decide +kernel
theorem dX11_init_56 : decode cX11_init 56 = .ok (.putfield 40, 3) := by decide +kernel
theorem dX11_init_59 : decode cX11_init 59 = .ok (.aload_n 0, 1) := by decide +kernel
theorem dX11_init_60 : decode cX11_init 60 = .ok (.new 44, 3) := by decide +kernel
theorem dX11_init_63 : decode cX11_init 63 = .ok (.dup, 1) := by decide +kernel
theorem dX11_init_64 : decode cX11_init 64 = .ok (.invokespecial 46, 3) := by decide +kernel
theorem dX11_init_67 : decode cX11_init 67 = .ok (.putfield 47, 3) := by decide +kernel
theorem dX11_init_70 : decode cX11_init 70 = .ok (.aload_n 0, 1) := by decide +kernel
theorem dX11_init_71 : decode cX11_init 71 = .ok (.new 51, 3) := by decide +kernel
theorem dX11_init_74 : decode cX11_init 74 = .ok (.dup, 1) := by decide +kernel
theorem dX11_init_75 : decode cX11_init 75 = .ok (.invokespecial 53, 3) := by decide +kernel
theorem dX11_init_78 : decode cX11_init 78 = .ok (.putfield 54, 3) := by decide +kernel
theorem dX11_init_81 : decode cX11_init 81 = .ok (.aload_n 0, 1) := by decide +kernel
theorem dX11_init_82 : decode cX11_init 82 = .ok (.new 58, 3) := by decide +kernel
theorem dX11_init_85 : decode cX11_init 85 = .ok (.dup, 1) := by decide +kernel
theorem dX11_init_86 : decode cX11_init 86 = .ok (.invokespecial 60, 3) := by decide +kernel
theorem dX11_init_89 : decode cX11_init 89 = .ok (.putfield 61, 3) := by decide +kernel
theorem dX11_init_92 : decode cX11_init 92 = .ok (.aload_n 0, 1) := by decide +kernel
theorem dX11_init_93 : decode cX11_init 93 = .ok (.new 65, 3) := by decide +kernel
theorem dX11_init_96 : decode cX11_init 96 = .ok (.dup, 1) := by decide +kernel
theorem dX11_init_97 : decode cX11_init 97 = .ok (.invokespecial 67, 3) := by decide +kernel
theorem dX11_init_100 : decode cX11_init 100 = .ok (.putfield 68, 3) := by decide +kernel
theorem dX11_init_103 : decode cX11_init 103 = .ok (.aload_n 0, 1) := by decide +kernel
theorem dX11_init_104 : decode cX11_init 104 = .ok (.new 72, 3) := by decide +kernel
theorem dX11_init_107 : decode cX11_init 107 = .ok (.dup, 1) := by decide +kernel
theorem dX11_init_108 : decode cX11_init 108 = .ok (.invokespecial 74, 3) := by decide +kernel
theorem dX11_init_111 : decode cX11_init 111 = .ok (.putfield 75, 3) := by decide +kernel
theorem dX11_init_114 : decode cX11_init 114 = .ok (.aload_n 0, 1) := by decide +kernel
theorem dX11_init_115 : decode cX11_init 115 = .ok (.new 79, 3) := by decide +kernel
theorem dX11_init_118 : decode cX11_init 118 = .ok (.dup, 1) := by decide +kernel
theorem dX11_init_119 : decode cX11_init 119 = .ok (.invokespecial 81, 3) := by decide +kernel
theorem dX11_init_122 : decode cX11_init 122 = .ok (.putfield 82, 3) := by decide +kernel
theorem dX11_init_125 : decode cX11_init 125 = .ok (.return_, 1) := by decide +kernel
theorem dX11_feed_0 : decode cX11_feed 0 = .ok (.iload_n 1, 1) := by decide +kernel
theorem dX11_feed_1 : decode cX11_feed 1 = .ok (.ifCond .lt 10, 3) := by decide +kernel
theorem dX11_feed_4 : decode cX11_feed 4 = .ok (.iload_n 1, 1) := by decide +kernel
theorem dX11_feed_5 : decode cX11_feed 5 = .ok (.sipush 255, 3) := by decide +kernel
theorem dX11_feed_8 : decode cX11_feed 8 = .ok (.if_icmp .le 6, 3) := by decide +kernel
theorem dX11_feed_11 : decode cX11_feed 11 = .ok (.ldc 86, 2) := by decide +kernel
theorem dX11_feed_13 : decode cX11_feed 13 = .ok (.ireturn, 1) := by decide +kernel
theorem dX11_feed_14 : decode cX11_feed 14 = .ok (.aload_n 0, 1) := by decide +kernel
theorem dX11_feed_15 : decode cX11_feed 15 = .ok (.getfield 10, 3) := by decide +kernel
theorem dX11_feed_18 : decode cX11_feed 18 = .ok (.iload_n 1, 1) := by decide +kernel
theorem dX11_feed_19 : decode cX11_feed 19 = .ok (.invokevirtual 87, 3) := by decide +kernel
theorem dX11_feed_22 : decode cX11_feed 22 = .ok (.ifCond .ne 6, 3) := by decide +kernel
theorem dX11_feed_25 : decode cX11_feed 25 = .ok (.ldc 91, 2) := by decide +kernel
theorem dX11_feed_27 : decode cX11_feed 27 = .ok (.ireturn, 1) := by decide +kernel
theorem dX11_feed_28 : decode cX11_feed 28 = .ok (.aload_n 0, 1) := by decide +kernel
theorem dX11_feed_29 : decode cX11_feed 29 = .ok (.getfield 10, 3) := by decide +kernel
theorem dX11_feed_32 : decode cX11_feed 32 = .ok (.getfield 92, 3) := by decide +kernel
theorem dX11_feed_35 : decode cX11_feed 35 = .ok (.ireturn, 1) := by decide +kernel
theorem dX11_realm_0 : decode cX11_realm 0 = .ok (.aload_n 0, 1) := by decide +kernel
theorem dX11_realm_1 : decode cX11_realm 1 = .ok (.getfield 10, 3) := by decide +kernel
theorem dX11_realm_4 : decode cX11_realm 4 = .ok (.invokevirtual 96, 3) := by decide +kernel
theorem dX11_realm_7 : decode cX11_realm 7 = .ok (.ifCond .ne 14, 3) := by decide +kernel
theorem dX11_realm_10 : decode cX11_realm 10 = .ok (.bipush (-10), 2) := by decide +kernel
theorem dX11_realm_12 : decode cX11_realm 12 = .ok (.aload_n 0, 1) := by decide +kernel
theorem dX11_realm_13 : decode cX11_realm 13 = .ok (.getfield 10, 3) := by decide +kernel
theorem dX11_realm_16 : decode cX11_realm 16 = .ok (.getfield 100, 3) := by decide +kernel
theorem dX11_realm_19 : decode cX11_realm 19 = .ok (.isub, 1) := by decide +kernel
theorem dX11_realm_20 : decode cX11_realm 20 = .ok (.ireturn, 1) := by decide +kernel
theorem dX11_realm_21 : decode cX11_realm 21 = .ok (.aload_n 0, 1) := by decide +kernel
theorem dX11_realm_22 : decode cX11_realm 22 = .ok (.getfield 19, 3) := by decide +kernel
theorem dX11_realm_25 : decode cX11_realm 25 = .ok (.aload_n 0, 1) := by decide +kernel
theorem dX11_realm_26 : decode cX11_realm 26 = .ok (.getfield 10, 3) := by decide +kernel
theorem dX11_realm_29 : decode cX11_realm 29 = .ok (.getfield 103, 3) := by decide +kernel
theorem dX11_realm_32 : decode cX11_realm 32 = .ok (.invokevirtual 106, 3) := by decide +kernel
theorem dX11_realm_35 : decode cX11_realm 35 = .ok (.aload_n 0, 1) := by decide +kernel
theorem dX11_realm_36 : decode cX11_realm 36 = .ok (.getfield 26, 3) := by decide +kernel
theorem dX11_realm_39 : decode cX11_realm 39 = .ok (.aload_n 0, 1) := by decide +kernel
theorem dX11_realm_40 : decode cX11_realm 40 = .ok (.getfield 19, 3) := by decide +kernel
theorem dX11_realm_43 : decode cX11_realm 43 = .ok (.invokevirtual 110, 3) := by decide +kernel
theorem dX11_realm_46 : decode cX11_realm 46 = .ok (.aload_n 0, 1) := by decide +kernel
theorem dX11_realm_47 : decode cX11_realm 47 = .ok (.getfield 54, 3) := by decide +kernel
theorem dX11_realm_50 : decode cX11_realm 50 = .ok (.invokevirtual 113, 3) := by decide +kernel
theorem dX11_realm_53 : decode cX11_realm 53 = .ok (.aload_n 0, 1) := by decide +kernel
theorem dX11_realm_54 : decode cX11_realm 54 = .ok (.getfield 61, 3) := by decide +kernel
theorem dX11_realm_57 : decode cX11_realm 57 = .ok (.invokevirtual 116, 3) := by decide +kernel
theorem dX11_realm_60 : decode cX11_realm 60 = .ok (.aload_n 0, 1) := by decide +kernel
theorem dX11_realm_61 : decode cX11_realm 61 = .ok (.getfield 75, 3) := by decide +kernel
theorem dX11_realm_64 : decode cX11_realm 64 = .ok (.invokevirtual 117, 3) := by decide +kernel
theorem dX11_realm_67 : decode cX11_realm 67 = .ok (.aload_n 0, 1) := by decide +kernel
theorem dX11_realm_68 : decode cX11_realm 68 = .ok (.getfield 82, 3) := by decide +kernel
theorem dX11_realm_71 : decode cX11_realm 71 = .ok (.invokevirtual 118, 3) := by decide +kernel
theorem dX11_realm_74 : decode cX11_realm 74 = .ok (.aload_n 0, 1) := by decide +kernel
theorem dX11_realm_75 : decode cX11_realm 75 = .ok (.getfield 19, 3) := by decide +kernel
theorem dX11_realm_78 : decode cX11_realm 78 = .ok (.getfield 119, 3) := by decide +kernel
theorem dX11_realm_81 : decode cX11_realm 81 = .ok (.ireturn, 1) := by decide +kernel
theorem dX11_fault_0 : decode cX11_fault 0 = .ok (.aload_n 0, 1) := by decide +kernel
theorem dX11_fault_1 : decode cX11_fault 1 = .ok (.getfield 10, 3) := by decide +kernel
theorem dX11_fault_4 : decode cX11_fault 4 = .ok (.getfield 122, 3) := by decide +kernel
