-- the decode rows as printed for this claim (a starting text)
theorem dX12_takeTable_5 : decode cX12_takeTable 5 = .ok (.aload_n 0, 1) := by decide +kernel
theorem dX12_takeTable_6 : decode cX12_takeTable 6 = .ok (.dup, 1) := by decide +kernel
theorem dX12_takeTable_7 : decode cX12_takeTable 7 = .ok (.getfield 121, 3) := by decide +kernel
theorem dX12_takeTable_10 : decode cX12_takeTable 10 = .ok (.iconst 1, 1) := by decide +kernel
theorem dX12_takeTable_11 : decode cX12_takeTable 11 = .ok (.iadd, 1) := by decide +kernel
theorem dX12_takeTable_12 : decode cX12_takeTable 12 = .ok (.putfield 121, 3) := by decide +kernel
theorem dX12_takeTable_15 : decode cX12_takeTable 15 = .ok (.aload_n 0, 1) := by decide +kernel
theorem dX12_takeTable_16 : decode cX12_takeTable 16 = .ok (.aload_n 0, 1) := by decide +kernel
theorem dX12_takeTable_17 : decode cX12_takeTable 17 = .ok (.getfield 29, 3) := by decide +kernel
theorem dX12_takeTable_20 : decode cX12_takeTable 20 = .ok (.iload_n 1, 1) := by decide +kernel
theorem dX12_takeTable_21 : decode cX12_takeTable 21 = .ok (.iconst 1, 1) := by decide +kernel
theorem dX12_takeTable_22 : decode cX12_takeTable 22 = .ok (.bipush 12, 2) := by decide +kernel
theorem dX12_takeTable_24 : decode cX12_takeTable 24 = .ok (.invokevirtual 117, 3) := by decide +kernel
theorem dX12_takeTable_27 : decode cX12_takeTable 27 = .ok (.istore_n 2, 1) := by decide +kernel
theorem dX12_takeTable_28 : decode cX12_takeTable 28 = .ok (.iload_n 2, 1) := by decide +kernel
theorem dX12_takeTable_29 : decode cX12_takeTable 29 = .ok (.ifCond .le 7, 3) := by decide +kernel
theorem dX12_takeTable_32 : decode cX12_takeTable 32 = .ok (.iload_n 2, 1) := by decide +kernel
theorem dX12_takeTable_33 : decode cX12_takeTable 33 = .ok (.goto 19, 3) := by decide +kernel
theorem dX12_takeTable_36 : decode cX12_takeTable 36 = .ok (.aload_n 0, 1) := by decide +kernel
theorem dX12_takeTable_37 : decode cX12_takeTable 37 = .ok (.aload_n 0, 1) := by decide +kernel
theorem dX12_takeTable_38 : decode cX12_takeTable 38 = .ok (.getfield 32, 3) := by decide +kernel
theorem dX12_takeTable_41 : decode cX12_takeTable 41 = .ok (.iload_n 1, 1) := by decide +kernel
theorem dX12_takeTable_42 : decode cX12_takeTable 42 = .ok (.iconst 0, 1) := by decide +kernel
theorem dX12_takeTable_43 : decode cX12_takeTable 43 = .ok (.aload_n 0, 1) := by decide +kernel
theorem dX12_takeTable_44 : decode cX12_takeTable 44 = .ok (.getfield 29, 3) := by decide +kernel
theorem dX12_takeTable_47 : decode cX12_takeTable 47 = .ok (.iload_n 1, 1) := by decide +kernel
theorem dX12_takeTable_48 : decode cX12_takeTable 48 = .ok (.iaload, 1) := by decide +kernel
theorem dX12_takeTable_49 : decode cX12_takeTable 49 = .ok (.invokevirtual 117, 3) := by decide +kernel
theorem dX12_takeTable_52 : decode cX12_takeTable 52 = .ok (.ireturn, 1) := by decide +kernel
theorem dX12_isWayAlready_0 : decode cX12_isWayAlready 0 = .ok (.aload_n 0, 1) := by decide +kernel
theorem dX12_isWayAlready_1 : decode cX12_isWayAlready 1 = .ok (.getfield 35, 3) := by decide +kernel
theorem dX12_isWayAlready_4 : decode cX12_isWayAlready 4 = .ok (.iload_n 1, 1) := by decide +kernel
theorem dX12_isWayAlready_5 : decode cX12_isWayAlready 5 = .ok (.iaload, 1) := by decide +kernel
theorem dX12_isWayAlready_6 : decode cX12_isWayAlready 6 = .ok (.aload_n 0, 1) := by decide +kernel
theorem dX12_isWayAlready_7 : decode cX12_isWayAlready 7 = .ok (.getfield 38, 3) := by decide +kernel
theorem dX12_isWayAlready_10 : decode cX12_isWayAlready 10 = .ok (.iload_n 1, 1) := by decide +kernel
theorem dX12_isWayAlready_11 : decode cX12_isWayAlready 11 = .ok (.iaload, 1) := by decide +kernel
theorem dX12_isWayAlready_12 : decode cX12_isWayAlready 12 = .ok (.if_icmp .ne 7, 3) := by decide +kernel
theorem dX12_isWayAlready_15 : decode cX12_isWayAlready 15 = .ok (.iconst 1, 1) := by decide +kernel
theorem dX12_isWayAlready_16 : decode cX12_isWayAlready 16 = .ok (.goto 4, 3) := by decide +kernel
theorem dX12_isWayAlready_19 : decode cX12_isWayAlready 19 = .ok (.iconst 0, 1) := by decide +kernel
theorem dX12_isWayAlready_20 : decode cX12_isWayAlready 20 = .ok (.istore_n 2, 1) := by decide +kernel
theorem dX12_isWayAlready_21 : decode cX12_isWayAlready 21 = .ok (.iconst 0, 1) := by decide +kernel
theorem dX12_isWayAlready_22 : decode cX12_isWayAlready 22 = .ok (.istore_n 3, 1) := by decide +kernel
theorem dX12_isWayAlready_23 : decode cX12_isWayAlready 23 = .ok (.iload_n 3, 1) := by decide +kernel
theorem dX12_isWayAlready_24 : decode cX12_isWayAlready 24 = .ok (.iload_n 1, 1) := by decide +kernel
theorem dX12_isWayAlready_25 : decode cX12_isWayAlready 25 = .ok (.if_icmp .ge 103, 3) := by decide +kernel
theorem dX12_isWayAlready_28 : decode cX12_isWayAlready 28 = .ok (.aload_n 0, 1) := by decide +kernel
theorem dX12_isWayAlready_29 : decode cX12_isWayAlready 29 = .ok (.getfield 35, 3) := by decide +kernel
theorem dX12_isWayAlready_32 : decode cX12_isWayAlready 32 = .ok (.iload_n 3, 1) := by decide +kernel
theorem dX12_isWayAlready_33 : decode cX12_isWayAlready 33 = .ok (.iaload, 1) := by decide +kernel
theorem dX12_isWayAlready_34 : decode cX12_isWayAlready 34 = .ok (.aload_n 0, 1) := by decide +kernel
theorem dX12_isWayAlready_35 : decode cX12_isWayAlready 35 = .ok (.getfield 35, 3) := by decide +kernel
theorem dX12_isWayAlready_38 : decode cX12_isWayAlready 38 = .ok (.iload_n 1, 1) := by decide +kernel
theorem dX12_isWayAlready_39 : decode cX12_isWayAlready 39 = .ok (.iaload, 1) := by decide +kernel
theorem dX12_isWayAlready_40 : decode cX12_isWayAlready 40 = .ok (.if_icmp .ne 22, 3) := by decide +kernel
theorem dX12_isWayAlready_43 : decode cX12_isWayAlready 43 = .ok (.aload_n 0, 1) := by decide +kernel
theorem dX12_isWayAlready_44 : decode cX12_isWayAlready 44 = .ok (.getfield 38, 3) := by decide +kernel
theorem dX12_isWayAlready_47 : decode cX12_isWayAlready 47 = .ok (.iload_n 3, 1) := by decide +kernel
theorem dX12_isWayAlready_48 : decode cX12_isWayAlready 48 = .ok (.iaload, 1) := by decide +kernel
theorem dX12_isWayAlready_49 : decode cX12_isWayAlready 49 = .ok (.aload_n 0, 1) := by decide +kernel
theorem dX12_isWayAlready_50 : decode cX12_isWayAlready 50 = .ok (.getfield 38, 3) := by decide +kernel
theorem dX12_isWayAlready_53 : decode cX12_isWayAlready 53 = .ok (.iload_n 1, 1) := by decide +kernel
theorem dX12_isWayAlready_54 : decode cX12_isWayAlready 54 = .ok (.iaload, 1) := by decide +kernel
theorem dX12_isWayAlready_55 : decode cX12_isWayAlready 55 = .ok (.if_icmp .ne 7, 3) := by decide +kernel
theorem dX12_isWayAlready_58 : decode cX12_isWayAlready 58 = .ok (.iconst 1, 1) := by decide +kernel
theorem dX12_isWayAlready_59 : decode cX12_isWayAlready 59 = .ok (.goto 4, 3) := by decide +kernel
theorem dX12_isWayAlready_62 : decode cX12_isWayAlready 62 = .ok (.iconst 0, 1) := by decide +kernel
theorem dX12_isWayAlready_63 : decode cX12_isWayAlready 63 = .ok (.istore 4, 2) := by decide +kernel
theorem dX12_isWayAlready_65 : decode cX12_isWayAlready 65 = .ok (.aload_n 0, 1) := by decide +kernel
theorem dX12_isWayAlready_66 : decode cX12_isWayAlready 66 = .ok (.getfield 35, 3) := by decide +kernel
theorem dX12_isWayAlready_69 : decode cX12_isWayAlready 69 = .ok (.iload_n 3, 1) := by decide +kernel
theorem dX12_isWayAlready_70 : decode cX12_isWayAlready 70 = .ok (.iaload, 1) := by decide +kernel
theorem dX12_isWayAlready_71 : decode cX12_isWayAlready 71 = .ok (.aload_n 0, 1) := by decide +kernel
theorem dX12_isWayAlready_72 : decode cX12_isWayAlready 72 = .ok (.getfield 38, 3) := by decide +kernel
theorem dX12_isWayAlready_75 : decode cX12_isWayAlready 75 = .ok (.iload_n 1, 1) := by decide +kernel
theorem dX12_isWayAlready_76 : decode cX12_isWayAlready 76 = .ok (.iaload, 1) := by decide +kernel
theorem dX12_isWayAlready_77 : decode cX12_isWayAlready 77 = .ok (.if_icmp .ne 22, 3) := by decide +kernel
theorem dX12_isWayAlready_80 : decode cX12_isWayAlready 80 = .ok (.aload_n 0, 1) := by decide +kernel
theorem dX12_isWayAlready_81 : decode cX12_isWayAlready 81 = .ok (.getfield 38, 3) := by decide +kernel
theorem dX12_isWayAlready_84 : decode cX12_isWayAlready 84 = .ok (.iload_n 3, 1) := by decide +kernel
theorem dX12_isWayAlready_85 : decode cX12_isWayAlready 85 = .ok (.iaload, 1) := by decide +kernel
theorem dX12_isWayAlready_86 : decode cX12_isWayAlready 86 = .ok (.aload_n 0, 1) := by decide +kernel
theorem dX12_isWayAlready_87 : decode cX12_isWayAlready 87 = .ok (.getfield 35, 3) := by decide +kernel
theorem dX12_isWayAlready_90 : decode cX12_isWayAlready 90 = .ok (.iload_n 1, 1) := by decide +kernel
theorem dX12_isWayAlready_91 : decode cX12_isWayAlready 91 = .ok (.iaload, 1) := by decide +kernel
theorem dX12_isWayAlready_92 : decode cX12_isWayAlready 92 = .ok (.if_icmp .ne 7, 3) := by decide +kernel
theorem dX12_isWayAlready_95 : decode cX12_isWayAlready 95 = .ok (.iconst 1, 1) := by decide +kernel
theorem dX12_isWayAlready_96 : decode cX12_isWayAlready 96 = .ok (.goto 4, 3) := by decide +kernel
theorem dX12_isWayAlready_99 : decode cX12_isWayAlready 99 = .ok (.iconst 0, 1) := by decide +kernel
theorem dX12_isWayAlready_100 : decode cX12_isWayAlready 100 = .ok (.istore 5, 2) := by decide +kernel
theorem dX12_isWayAlready_102 : decode cX12_isWayAlready 102 = .ok (.iload_n 2, 1) := by decide +kernel
theorem dX12_isWayAlready_103 : decode cX12_isWayAlready 103 = .ok (.ifCond .ne 13, 3) := by decide +kernel
theorem dX12_isWayAlready_106 : decode cX12_isWayAlready 106 = .ok (.iload 4, 2) := by decide +kernel
theorem dX12_isWayAlready_108 : decode cX12_isWayAlready 108 = .ok (.ifCond .ne 8, 3) := by decide +kernel
theorem dX12_isWayAlready_111 : decode cX12_isWayAlready 111 = .ok (.iload 5, 2) := by decide +kernel
theorem dX12_isWayAlready_113 : decode cX12_isWayAlready 113 = .ok (.ifCond .eq 7, 3) := by decide +kernel
theorem dX12_isWayAlready_116 : decode cX12_isWayAlready 116 = .ok (.iconst 1, 1) := by decide +kernel
theorem dX12_isWayAlready_117 : decode cX12_isWayAlready 117 = .ok (.goto 4, 3) := by decide +kernel
theorem dX12_isWayAlready_120 : decode cX12_isWayAlready 120 = .ok (.iconst 0, 1) := by decide +kernel
theorem dX12_isWayAlready_121 : decode cX12_isWayAlready 121 = .ok (.istore_n 2, 1) := by decide +kernel
theorem dX12_isWayAlready_122 : decode cX12_isWayAlready 122 = .ok (.iinc 3 1, 3) := by decide +kernel
theorem dX12_isWayAlready_125 : decode cX12_isWayAlready 125 = .ok (.goto (-102), 3) := by decide +kernel
theorem dX12_isWayAlready_128 : decode cX12_isWayAlready 128 = .ok (.iload_n 2, 1) := by decide +kernel
theorem dX12_isWayAlready_129 : decode cX12_isWayAlready 129 = .ok (.ireturn, 1) := by decide +kernel
theorem dX12_takeWay_0 : decode cX12_takeWay 0 = .ok (.aload_n 0, 1) := by decide +kernel
theorem dX12_takeWay_1 : decode cX12_takeWay 1 = .ok (.getfield 124, 3) := by decide +kernel
theorem dX12_takeWay_4 : decode cX12_takeWay 4 = .ok (.istore_n 1, 1) := by decide +kernel
theorem dX12_takeWay_5 : decode cX12_takeWay 5 = .ok (.aload_n 0, 1) := by decide +kernel
theorem dX12_takeWay_6 : decode cX12_takeWay 6 = .ok (.dup, 1) := by decide +kernel
theorem dX12_takeWay_7 : decode cX12_takeWay 7 = .ok (.getfield 124, 3) := by decide +kernel
theorem dX12_takeWay_10 : decode cX12_takeWay 10 = .ok (.iconst 1, 1) := by decide +kernel
theorem dX12_takeWay_11 : decode cX12_takeWay 11 = .ok (.iadd, 1) := by decide +kernel
theorem dX12_takeWay_12 : decode cX12_takeWay 12 = .ok (.putfield 124, 3) := by decide +kernel
theorem dX12_takeWay_15 : decode cX12_takeWay 15 = .ok (.aload_n 0, 1) := by decide +kernel
theorem dX12_takeWay_16 : decode cX12_takeWay 16 = .ok (.aload_n 0, 1) := by decide +kernel
theorem dX12_takeWay_17 : decode cX12_takeWay 17 = .ok (.getfield 35, 3) := by decide +kernel
theorem dX12_takeWay_20 : decode cX12_takeWay 20 = .ok (.iload_n 1, 1) := by decide +kernel
theorem dX12_takeWay_21 : decode cX12_takeWay 21 = .ok (.iconst 0, 1) := by decide +kernel
theorem dX12_takeWay_22 : decode cX12_takeWay 22 = .ok (.aload_n 0, 1) := by decide +kernel
theorem dX12_takeWay_23 : decode cX12_takeWay 23 = .ok (.getfield 121, 3) := by decide +kernel
theorem dX12_takeWay_26 : decode cX12_takeWay 26 = .ok (.iconst 1, 1) := by decide +kernel
theorem dX12_takeWay_27 : decode cX12_takeWay 27 = .ok (.isub, 1) := by decide +kernel
theorem dX12_takeWay_28 : decode cX12_takeWay 28 = .ok (.invokevirtual 117, 3) := by decide +kernel
theorem dX12_takeWay_31 : decode cX12_takeWay 31 = .ok (.istore_n 2, 1) := by decide +kernel
theorem dX12_takeWay_32 : decode cX12_takeWay 32 = .ok (.iload_n 2, 1) := by decide +kernel
theorem dX12_takeWay_33 : decode cX12_takeWay 33 = .ok (.ifCond .le 7, 3) := by decide +kernel
theorem dX12_takeWay_36 : decode cX12_takeWay 36 = .ok (.iload_n 2, 1) := by decide +kernel
theorem dX12_takeWay_37 : decode cX12_takeWay 37 = .ok (.goto 19, 3) := by decide +kernel
theorem dX12_takeWay_40 : decode cX12_takeWay 40 = .ok (.aload_n 0, 1) := by decide +kernel
theorem dX12_takeWay_41 : decode cX12_takeWay 41 = .ok (.aload_n 0, 1) := by decide +kernel
theorem dX12_takeWay_42 : decode cX12_takeWay 42 = .ok (.getfield 38, 3) := by decide +kernel
theorem dX12_takeWay_45 : decode cX12_takeWay 45 = .ok (.iload_n 1, 1) := by decide +kernel
theorem dX12_takeWay_46 : decode cX12_takeWay 46 = .ok (.iconst 0, 1) := by decide +kernel
theorem dX12_takeWay_47 : decode cX12_takeWay 47 = .ok (.aload_n 0, 1) := by decide +kernel
theorem dX12_takeWay_48 : decode cX12_takeWay 48 = .ok (.getfield 121, 3) := by decide +kernel
theorem dX12_takeWay_51 : decode cX12_takeWay 51 = .ok (.iconst 1, 1) := by decide +kernel
theorem dX12_takeWay_52 : decode cX12_takeWay 52 = .ok (.isub, 1) := by decide +kernel
theorem dX12_takeWay_53 : decode cX12_takeWay 53 = .ok (.invokevirtual 117, 3) := by decide +kernel
theorem dX12_takeWay_56 : decode cX12_takeWay 56 = .ok (.istore_n 2, 1) := by decide +kernel
theorem dX12_takeWay_57 : decode cX12_takeWay 57 = .ok (.iload_n 2, 1) := by decide +kernel
theorem dX12_takeWay_58 : decode cX12_takeWay 58 = .ok (.ifCond .ne 23, 3) := by decide +kernel
theorem dX12_takeWay_61 : decode cX12_takeWay 61 = .ok (.aload_n 0, 1) := by decide +kernel
theorem dX12_takeWay_62 : decode cX12_takeWay 62 = .ok (.iload_n 1, 1) := by decide +kernel
theorem dX12_takeWay_63 : decode cX12_takeWay 63 = .ok (.invokevirtual 127, 3) := by decide +kernel
theorem dX12_takeWay_66 : decode cX12_takeWay 66 = .ok (.ifCond .eq 15, 3) := by decide +kernel
theorem dX12_takeWay_69 : decode cX12_takeWay 69 = .ok (.aload_n 0, 1) := by decide +kernel
theorem dX12_takeWay_70 : decode cX12_takeWay 70 = .ok (.iconst 4, 1) := by decide +kernel
theorem dX12_takeWay_71 : decode cX12_takeWay 71 = .ok (.aload_n 0, 1) := by decide +kernel
theorem dX12_takeWay_72 : decode cX12_takeWay 72 = .ok (.getfield 105, 3) := by decide +kernel
theorem dX12_takeWay_75 : decode cX12_takeWay 75 = .ok (.invokevirtual 101, 3) := by decide +kernel
theorem dX12_takeWay_78 : decode cX12_takeWay 78 = .ok (.goto 4, 3) := by decide +kernel
theorem dX12_takeWay_81 : decode cX12_takeWay 81 = .ok (.iload_n 2, 1) := by decide +kernel
theorem dX12_takeWay_82 : decode cX12_takeWay 82 = .ok (.ireturn, 1) := by decide +kernel
theorem dX12_takeClause_0 : decode cX12_takeClause 0 = .ok (.aload_n 0, 1) := by decide +kernel
theorem dX12_takeClause_1 : decode cX12_takeClause 1 = .ok (.invokevirtual 93, 3) := by decide +kernel
theorem dX12_takeClause_4 : decode cX12_takeClause 4 = .ok (.istore_n 1, 1) := by decide +kernel
theorem dX12_takeClause_5 : decode cX12_takeClause 5 = .ok (.iload_n 1, 1) := by decide +kernel
theorem dX12_takeClause_6 : decode cX12_takeClause 6 = .ok (.bipush 114, 2) := by decide +kernel
theorem dX12_takeClause_8 : decode cX12_takeClause 8 = .ok (.if_icmp .ne 7, 3) := by decide +kernel
theorem dX12_takeClause_11 : decode cX12_takeClause 11 = .ok (.iconst 0, 1) := by decide +kernel
theorem dX12_takeClause_12 : decode cX12_takeClause 12 = .ok (.goto 24, 3) := by decide +kernel
theorem dX12_takeClause_15 : decode cX12_takeClause 15 = .ok (.iload_n 1, 1) := by decide +kernel
theorem dX12_takeClause_16 : decode cX12_takeClause 16 = .ok (.bipush 116, 2) := by decide +kernel
theorem dX12_takeClause_18 : decode cX12_takeClause 18 = .ok (.if_icmp .ne 7, 3) := by decide +kernel
theorem dX12_takeClause_21 : decode cX12_takeClause 21 = .ok (.iconst 1, 1) := by decide +kernel
theorem dX12_takeClause_22 : decode cX12_takeClause 22 = .ok (.goto 14, 3) := by decide +kernel
theorem dX12_takeClause_25 : decode cX12_takeClause 25 = .ok (.iload_n 1, 1) := by decide +kernel
theorem dX12_takeClause_26 : decode cX12_takeClause 26 = .ok (.bipush 119, 2) := by decide +kernel
theorem dX12_takeClause_28 : decode cX12_takeClause 28 = .ok (.if_icmp .ne 7, 3) := by decide +kernel
theorem dX12_takeClause_31 : decode cX12_takeClause 31 = .ok (.iconst 2, 1) := by decide +kernel
theorem dX12_takeClause_32 : decode cX12_takeClause 32 = .ok (.goto 4, 3) := by decide +kernel
theorem dX12_takeClause_35 : decode cX12_takeClause 35 = .ok (.iconst (-1), 1) := by decide +kernel
theorem dX12_takeClause_36 : decode cX12_takeClause 36 = .ok (.istore_n 2, 1) := by decide +kernel
theorem dX12_takeClause_37 : decode cX12_takeClause 37 = .ok (.iload_n 2, 1) := by decide +kernel
theorem dX12_takeClause_38 : decode cX12_takeClause 38 = .ok (.ifCond .lt 14, 3) := by decide +kernel
theorem dX12_takeClause_41 : decode cX12_takeClause 41 = .ok (.iload_n 2, 1) := by decide +kernel
theorem dX12_takeClause_42 : decode cX12_takeClause 42 = .ok (.ifCond .le 20, 3) := by decide +kernel
theorem dX12_takeClause_45 : decode cX12_takeClause 45 = .ok (.aload_n 0, 1) := by decide +kernel
theorem dX12_takeClause_46 : decode cX12_takeClause 46 = .ok (.getfield 114, 3) := by decide +kernel
theorem dX12_takeClause_49 : decode cX12_takeClause 49 = .ok (.ifCond .ne 13, 3) := by decide +kernel
theorem dX12_takeClause_52 : decode cX12_takeClause 52 = .ok (.aload_n 0, 1) := by decide +kernel
theorem dX12_takeClause_53 : decode cX12_takeClause 53 = .ok (.iconst 1, 1) := by decide +kernel
theorem dX12_takeClause_54 : decode cX12_takeClause 54 = .ok (.aload_n 0, 1) := by decide +kernel
theorem dX12_takeClause_55 : decode cX12_takeClause 55 = .ok (.getfield 90, 3) := by decide +kernel
theorem dX12_takeClause_58 : decode cX12_takeClause 58 = .ok (.invokevirtual 101, 3) := by decide +kernel
theorem dX12_takeClause_61 : decode cX12_takeClause 61 = .ok (.ireturn, 1) := by decide +kernel
theorem dX12_takeClause_62 : decode cX12_takeClause 62 = .ok (.iload_n 2, 1) := by decide +kernel
theorem dX12_takeClause_63 : decode cX12_takeClause 63 = .ok (.ifCond .ne 10, 3) := by decide +kernel
theorem dX12_takeClause_66 : decode cX12_takeClause 66 = .ok (.aload_n 0, 1) := by decide +kernel
theorem dX12_takeClause_67 : decode cX12_takeClause 67 = .ok (.getfield 114, 3) := by decide +kernel
theorem dX12_takeClause_70 : decode cX12_takeClause 70 = .ok (.goto 39, 3) := by decide +kernel
theorem dX12_takeClause_73 : decode cX12_takeClause 73 = .ok (.iload_n 2, 1) := by decide +kernel
theorem dX12_takeClause_74 : decode cX12_takeClause 74 = .ok (.iconst 1, 1) := by decide +kernel
theorem dX12_takeClause_75 : decode cX12_takeClause 75 = .ok (.if_icmp .ne 20, 3) := by decide +kernel
theorem dX12_takeClause_78 : decode cX12_takeClause 78 = .ok (.aload_n 0, 1) := by decide +kernel
theorem dX12_takeClause_79 : decode cX12_takeClause 79 = .ok (.getfield 121, 3) := by decide +kernel
theorem dX12_takeClause_82 : decode cX12_takeClause 82 = .ok (.bipush 9, 2) := by decide +kernel
theorem dX12_takeClause_84 : decode cX12_takeClause 84 = .ok (.if_icmp .ne 7, 3) := by decide +kernel
theorem dX12_takeClause_87 : decode cX12_takeClause 87 = .ok (.iconst 1, 1) := by decide +kernel
theorem dX12_takeClause_88 : decode cX12_takeClause 88 = .ok (.goto 21, 3) := by decide +kernel
theorem dX12_takeClause_91 : decode cX12_takeClause 91 = .ok (.iconst 0, 1) := by decide +kernel
theorem dX12_takeClause_92 : decode cX12_takeClause 92 = .ok (.goto 17, 3) := by decide +kernel
theorem dX12_takeClause_95 : decode cX12_takeClause 95 = .ok (.aload_n 0, 1) := by decide +kernel
theorem dX12_takeClause_96 : decode cX12_takeClause 96 = .ok (.getfield 124, 3) := by decide +kernel
theorem dX12_takeClause_99 : decode cX12_takeClause 99 = .ok (.bipush 14, 2) := by decide +kernel
theorem dX12_takeClause_101 : decode cX12_takeClause 101 = .ok (.if_icmp .ne 7, 3) := by decide +kernel
theorem dX12_takeClause_104 : decode cX12_takeClause 104 = .ok (.iconst 1, 1) := by decide +kernel
theorem dX12_takeClause_105 : decode cX12_takeClause 105 = .ok (.goto 4, 3) := by decide +kernel
theorem dX12_takeClause_108 : decode cX12_takeClause 108 = .ok (.iconst 0, 1) := by decide +kernel
theorem dX12_takeClause_109 : decode cX12_takeClause 109 = .ok (.istore_n 3, 1) := by decide +kernel
theorem dX12_takeClause_110 : decode cX12_takeClause 110 = .ok (.iload_n 3, 1) := by decide +kernel
theorem dX12_takeClause_111 : decode cX12_takeClause 111 = .ok (.ifCond .eq 13, 3) := by decide +kernel
theorem dX12_takeClause_114 : decode cX12_takeClause 114 = .ok (.aload_n 0, 1) := by decide +kernel
theorem dX12_takeClause_115 : decode cX12_takeClause 115 = .ok (.iconst 3, 1) := by decide +kernel
theorem dX12_takeClause_116 : decode cX12_takeClause 116 = .ok (.aload_n 0, 1) := by decide +kernel
theorem dX12_takeClause_117 : decode cX12_takeClause 117 = .ok (.getfield 90, 3) := by decide +kernel
theorem dX12_takeClause_120 : decode cX12_takeClause 120 = .ok (.invokevirtual 101, 3) := by decide +kernel
theorem dX12_takeClause_123 : decode cX12_takeClause 123 = .ok (.ireturn, 1) := by decide +kernel
theorem dX12_takeClause_124 : decode cX12_takeClause 124 = .ok (.aload_n 0, 1) := by decide +kernel
theorem dX12_takeClause_125 : decode cX12_takeClause 125 = .ok (.dup, 1) := by decide +kernel
theorem dX12_takeClause_126 : decode cX12_takeClause 126 = .ok (.getfield 90, 3) := by decide +kernel
theorem dX12_takeClause_129 : decode cX12_takeClause 129 = .ok (.iconst 1, 1) := by decide +kernel
theorem dX12_takeClause_130 : decode cX12_takeClause 130 = .ok (.iadd, 1) := by decide +kernel
theorem dX12_takeClause_131 : decode cX12_takeClause 131 = .ok (.putfield 90, 3) := by decide +kernel
theorem dX12_takeClause_134 : decode cX12_takeClause 134 = .ok (.iload_n 2, 1) := by decide +kernel
theorem dX12_takeClause_135 : decode cX12_takeClause 135 = .ok (.ifCond .ne 10, 3) := by decide +kernel
theorem dX12_takeClause_138 : decode cX12_takeClause 138 = .ok (.aload_n 0, 1) := by decide +kernel
theorem dX12_takeClause_139 : decode cX12_takeClause 139 = .ok (.invokevirtual 131, 3) := by decide +kernel
theorem dX12_takeClause_142 : decode cX12_takeClause 142 = .ok (.goto 19, 3) := by decide +kernel
theorem dX12_takeClause_145 : decode cX12_takeClause 145 = .ok (.iload_n 2, 1) := by decide +kernel
theorem dX12_takeClause_146 : decode cX12_takeClause 146 = .ok (.iconst 1, 1) := by decide +kernel
theorem dX12_takeClause_147 : decode cX12_takeClause 147 = .ok (.if_icmp .ne 10, 3) := by decide +kernel
theorem dX12_takeClause_150 : decode cX12_takeClause 150 = .ok (.aload_n 0, 1) := by decide +kernel
theorem dX12_takeClause_151 : decode cX12_takeClause 151 = .ok (.invokevirtual 134, 3) := by decide +kernel
theorem dX12_takeClause_154 : decode cX12_takeClause 154 = .ok (.goto 7, 3) := by decide +kernel
theorem dX12_takeClause_157 : decode cX12_takeClause 157 = .ok (.aload_n 0, 1) := by decide +kernel
theorem dX12_takeClause_158 : decode cX12_takeClause 158 = .ok (.invokevirtual 137, 3) := by decide +kernel
theorem dX12_takeClause_161 : decode cX12_takeClause 161 = .ok (.istore 4, 2) := by decide +kernel
theorem dX12_takeClause_163 : decode cX12_takeClause 163 = .ok (.iload 4, 2) := by decide +kernel
theorem dX12_takeClause_165 : decode cX12_takeClause 165 = .ok (.ifCond .ne 22, 3) := by decide +kernel
theorem dX12_takeClause_168 : decode cX12_takeClause 168 = .ok (.aload_n 0, 1) := by decide +kernel
theorem dX12_takeClause_169 : decode cX12_takeClause 169 = .ok (.invokevirtual 93, 3) := by decide +kernel
theorem dX12_takeClause_172 : decode cX12_takeClause 172 = .ok (.bipush 59, 2) := by decide +kernel
theorem dX12_takeClause_174 : decode cX12_takeClause 174 = .ok (.if_icmp .eq 13, 3) := by decide +kernel
theorem dX12_takeClause_177 : decode cX12_takeClause 177 = .ok (.aload_n 0, 1) := by decide +kernel
theorem dX12_takeClause_178 : decode cX12_takeClause 178 = .ok (.iconst 1, 1) := by decide +kernel
theorem dX12_takeClause_179 : decode cX12_takeClause 179 = .ok (.aload_n 0, 1) := by decide +kernel
theorem dX12_takeClause_180 : decode cX12_takeClause 180 = .ok (.getfield 90, 3) := by decide +kernel
theorem dX12_takeClause_183 : decode cX12_takeClause 183 = .ok (.invokevirtual 101, 3) := by decide +kernel
theorem dX12_takeClause_186 : decode cX12_takeClause 186 = .ok (.ireturn, 1) := by decide +kernel
theorem dX12_takeClause_187 : decode cX12_takeClause 187 = .ok (.aload_n 0, 1) := by decide +kernel
theorem dX12_takeClause_188 : decode cX12_takeClause 188 = .ok (.dup, 1) := by decide +kernel
theorem dX12_takeClause_189 : decode cX12_takeClause 189 = .ok (.getfield 90, 3) := by decide +kernel
theorem dX12_takeClause_192 : decode cX12_takeClause 192 = .ok (.iconst 1, 1) := by decide +kernel
theorem dX12_takeClause_193 : decode cX12_takeClause 193 = .ok (.iadd, 1) := by decide +kernel
theorem dX12_takeClause_194 : decode cX12_takeClause 194 = .ok (.putfield 90, 3) := by decide +kernel
theorem dX12_takeClause_197 : decode cX12_takeClause 197 = .ok (.iload 4, 2) := by decide +kernel
theorem dX12_takeClause_199 : decode cX12_takeClause 199 = .ok (.ireturn, 1) := by decide +kernel
theorem dX12_takeRead_0 : decode cX12_takeRead 0 = .ok (.aload_n 0, 1) := by decide +kernel
theorem dX12_takeRead_1 : decode cX12_takeRead 1 = .ok (.aload_n 0, 1) := by decide +kernel
theorem dX12_takeRead_2 : decode cX12_takeRead 2 = .ok (.getfield 114, 3) := by decide +kernel
theorem dX12_takeRead_5 : decode cX12_takeRead 5 = .ok (.putfield 72, 3) := by decide +kernel
theorem dX12_takeRead_8 : decode cX12_takeRead 8 = .ok (.aload_n 0, 1) := by decide +kernel
theorem dX12_takeRead_9 : decode cX12_takeRead 9 = .ok (.aload_n 0, 1) := by decide +kernel
theorem dX12_takeRead_10 : decode cX12_takeRead 10 = .ok (.getfield 114, 3) := by decide +kernel
theorem dX12_takeRead_13 : decode cX12_takeRead 13 = .ok (.ifCond .eq 12, 3) := by decide +kernel
theorem dX12_takeRead_16 : decode cX12_takeRead 16 = .ok (.aload_n 0, 1) := by decide +kernel
theorem dX12_takeRead_17 : decode cX12_takeRead 17 = .ok (.getfield 26, 3) := by decide +kernel
theorem dX12_takeRead_20 : decode cX12_takeRead 20 = .ok (.iconst 0, 1) := by decide +kernel
theorem dX12_takeRead_21 : decode cX12_takeRead 21 = .ok (.iaload, 1) := by decide +kernel
theorem dX12_takeRead_22 : decode cX12_takeRead 22 = .ok (.goto 4, 3) := by decide +kernel
theorem dX12_takeRead_25 : decode cX12_takeRead 25 = .ok (.iconst 0, 1) := by decide +kernel
theorem dX12_takeRead_26 : decode cX12_takeRead 26 = .ok (.putfield 140, 3) := by decide +kernel
theorem dX12_takeRead_29 : decode cX12_takeRead 29 = .ok (.aload_n 0, 1) := by decide +kernel
theorem dX12_takeRead_30 : decode cX12_takeRead 30 = .ok (.aload_n 0, 1) := by decide +kernel
theorem dX12_takeRead_31 : decode cX12_takeRead 31 = .ok (.getfield 121, 3) := by decide +kernel
theorem dX12_takeRead_34 : decode cX12_takeRead 34 = .ok (.putfield 76, 3) := by decide +kernel
theorem dX12_takeRead_37 : decode cX12_takeRead 37 = .ok (.aload_n 0, 1) := by decide +kernel
theorem dX12_takeRead_38 : decode cX12_takeRead 38 = .ok (.aload_n 0, 1) := by decide +kernel
theorem dX12_takeRead_39 : decode cX12_takeRead 39 = .ok (.getfield 124, 3) := by decide +kernel
theorem dX12_takeRead_42 : decode cX12_takeRead 42 = .ok (.putfield 143, 3) := by decide +kernel
theorem dX12_takeRead_45 : decode cX12_takeRead 45 = .ok (.iconst 0, 1) := by decide +kernel
theorem dX12_takeRead_46 : decode cX12_takeRead 46 = .ok (.istore_n 1, 1) := by decide +kernel
theorem dX12_takeRead_47 : decode cX12_takeRead 47 = .ok (.iload_n 1, 1) := by decide +kernel
theorem dX12_takeRead_48 : decode cX12_takeRead 48 = .ok (.aload_n 0, 1) := by decide +kernel
theorem dX12_takeRead_49 : decode cX12_takeRead 49 = .ok (.getfield 143, 3) := by decide +kernel
theorem dX12_takeRead_52 : decode cX12_takeRead 52 = .ok (.if_icmp .ge 33, 3) := by decide +kernel
theorem dX12_takeRead_55 : decode cX12_takeRead 55 = .ok (.aload_n 0, 1) := by decide +kernel
theorem dX12_takeRead_56 : decode cX12_takeRead 56 = .ok (.getfield 7, 3) := by decide +kernel
theorem dX12_takeRead_59 : decode cX12_takeRead 59 = .ok (.iload_n 1, 1) := by decide +kernel
theorem dX12_takeRead_60 : decode cX12_takeRead 60 = .ok (.aload_n 0, 1) := by decide +kernel
theorem dX12_takeRead_61 : decode cX12_takeRead 61 = .ok (.getfield 35, 3) := by decide +kernel
theorem dX12_takeRead_64 : decode cX12_takeRead 64 = .ok (.iload_n 1, 1) := by decide +kernel
theorem dX12_takeRead_65 : decode cX12_takeRead 65 = .ok (.iaload, 1) := by decide +kernel
theorem dX12_takeRead_66 : decode cX12_takeRead 66 = .ok (.iastore, 1) := by decide +kernel
theorem dX12_takeRead_67 : decode cX12_takeRead 67 = .ok (.aload_n 0, 1) := by decide +kernel
theorem dX12_takeRead_68 : decode cX12_takeRead 68 = .ok (.getfield 13, 3) := by decide +kernel
theorem dX12_takeRead_71 : decode cX12_takeRead 71 = .ok (.iload_n 1, 1) := by decide +kernel
theorem dX12_takeRead_72 : decode cX12_takeRead 72 = .ok (.aload_n 0, 1) := by decide +kernel
theorem dX12_takeRead_73 : decode cX12_takeRead 73 = .ok (.getfield 38, 3) := by decide +kernel
theorem dX12_takeRead_76 : decode cX12_takeRead 76 = .ok (.iload_n 1, 1) := by decide +kernel
theorem dX12_takeRead_77 : decode cX12_takeRead 77 = .ok (.iaload, 1) := by decide +kernel
theorem dX12_takeRead_78 : decode cX12_takeRead 78 = .ok (.iastore, 1) := by decide +kernel
theorem dX12_takeRead_79 : decode cX12_takeRead 79 = .ok (.iinc 1 1, 3) := by decide +kernel
theorem dX12_takeRead_82 : decode cX12_takeRead 82 = .ok (.goto (-35), 3) := by decide +kernel
theorem dX12_takeRead_85 : decode cX12_takeRead 85 = .ok (.iconst 0, 1) := by decide +kernel
theorem dX12_takeRead_86 : decode cX12_takeRead 86 = .ok (.istore_n 1, 1) := by decide +kernel
theorem dX12_takeRead_87 : decode cX12_takeRead 87 = .ok (.iload_n 1, 1) := by decide +kernel
theorem dX12_takeRead_88 : decode cX12_takeRead 88 = .ok (.bipush 25, 2) := by decide +kernel
theorem dX12_takeRead_90 : decode cX12_takeRead 90 = .ok (.if_icmp .ge 16, 3) := by decide +kernel
theorem dX12_takeRead_93 : decode cX12_takeRead 93 = .ok (.aload_n 0, 1) := by decide +kernel
theorem dX12_takeRead_94 : decode cX12_takeRead 94 = .ok (.getfield 16, 3) := by decide +kernel
theorem dX12_takeRead_97 : decode cX12_takeRead 97 = .ok (.iload_n 1, 1) := by decide +kernel
theorem dX12_takeRead_98 : decode cX12_takeRead 98 = .ok (.iconst 0, 1) := by decide +kernel
theorem dX12_takeRead_99 : decode cX12_takeRead 99 = .ok (.iastore, 1) := by decide +kernel
theorem dX12_takeRead_100 : decode cX12_takeRead 100 = .ok (.iinc 1 1, 3) := by decide +kernel
theorem dX12_takeRead_103 : decode cX12_takeRead 103 = .ok (.goto (-16), 3) := by decide +kernel
theorem dX12_takeRead_106 : decode cX12_takeRead 106 = .ok (.iconst 0, 1) := by decide +kernel
theorem dX12_takeRead_107 : decode cX12_takeRead 107 = .ok (.istore_n 1, 1) := by decide +kernel
theorem dX12_takeRead_108 : decode cX12_takeRead 108 = .ok (.iload_n 1, 1) := by decide +kernel
theorem dX12_takeRead_109 : decode cX12_takeRead 109 = .ok (.aload_n 0, 1) := by decide +kernel
theorem dX12_takeRead_110 : decode cX12_takeRead 110 = .ok (.getfield 76, 3) := by decide +kernel
theorem dX12_takeRead_113 : decode cX12_takeRead 113 = .ok (.if_icmp .ge 36, 3) := by decide +kernel
theorem dX12_takeRead_116 : decode cX12_takeRead 116 = .ok (.aload_n 0, 1) := by decide +kernel
theorem dX12_takeRead_117 : decode cX12_takeRead 117 = .ok (.getfield 16, 3) := by decide +kernel
theorem dX12_takeRead_120 : decode cX12_takeRead 120 = .ok (.iload_n 1, 1) := by decide +kernel
theorem dX12_takeRead_121 : decode cX12_takeRead 121 = .ok (.aload_n 0, 1) := by decide +kernel
theorem dX12_takeRead_122 : decode cX12_takeRead 122 = .ok (.getfield 29, 3) := by decide +kernel
theorem dX12_takeRead_125 : decode cX12_takeRead 125 = .ok (.iload_n 1, 1) := by decide +kernel
theorem dX12_takeRead_126 : decode cX12_takeRead 126 = .ok (.iaload, 1) := by decide +kernel
theorem dX12_takeRead_127 : decode cX12_takeRead 127 = .ok (.iastore, 1) := by decide +kernel
theorem dX12_takeRead_128 : decode cX12_takeRead 128 = .ok (.aload_n 0, 1) := by decide +kernel
theorem dX12_takeRead_129 : decode cX12_takeRead 129 = .ok (.getfield 16, 3) := by decide +kernel
theorem dX12_takeRead_132 : decode cX12_takeRead 132 = .ok (.bipush 9, 2) := by decide +kernel
theorem dX12_takeRead_134 : decode cX12_takeRead 134 = .ok (.iload_n 1, 1) := by decide +kernel
theorem dX12_takeRead_135 : decode cX12_takeRead 135 = .ok (.iadd, 1) := by decide +kernel
theorem dX12_takeRead_136 : decode cX12_takeRead 136 = .ok (.aload_n 0, 1) := by decide +kernel
theorem dX12_takeRead_137 : decode cX12_takeRead 137 = .ok (.getfield 32, 3) := by decide +kernel
theorem dX12_takeRead_140 : decode cX12_takeRead 140 = .ok (.iload_n 1, 1) := by decide +kernel
theorem dX12_takeRead_141 : decode cX12_takeRead 141 = .ok (.iaload, 1) := by decide +kernel
theorem dX12_takeRead_142 : decode cX12_takeRead 142 = .ok (.iastore, 1) := by decide +kernel
theorem dX12_takeRead_143 : decode cX12_takeRead 143 = .ok (.iinc 1 1, 3) := by decide +kernel
theorem dX12_takeRead_146 : decode cX12_takeRead 146 = .ok (.goto (-38), 3) := by decide +kernel
theorem dX12_takeRead_149 : decode cX12_takeRead 149 = .ok (.aload_n 0, 1) := by decide +kernel
theorem dX12_takeRead_150 : decode cX12_takeRead 150 = .ok (.getfield 16, 3) := by decide +kernel
theorem dX12_takeRead_153 : decode cX12_takeRead 153 = .ok (.bipush 18, 2) := by decide +kernel
theorem dX12_takeRead_155 : decode cX12_takeRead 155 = .ok (.aload_n 0, 1) := by decide +kernel
theorem dX12_takeRead_156 : decode cX12_takeRead 156 = .ok (.getfield 114, 3) := by decide +kernel
theorem dX12_takeRead_159 : decode cX12_takeRead 159 = .ok (.ifCond .eq 12, 3) := by decide +kernel
theorem dX12_takeRead_162 : decode cX12_takeRead 162 = .ok (.aload_n 0, 1) := by decide +kernel
theorem dX12_takeRead_163 : decode cX12_takeRead 163 = .ok (.getfield 26, 3) := by decide +kernel
theorem dX12_takeRead_166 : decode cX12_takeRead 166 = .ok (.iconst 1, 1) := by decide +kernel
theorem dX12_takeRead_167 : decode cX12_takeRead 167 = .ok (.iaload, 1) := by decide +kernel
theorem dX12_takeRead_168 : decode cX12_takeRead 168 = .ok (.goto 4, 3) := by decide +kernel
theorem dX12_takeRead_171 : decode cX12_takeRead 171 = .ok (.iconst 0, 1) := by decide +kernel
theorem dX12_takeRead_172 : decode cX12_takeRead 172 = .ok (.iastore, 1) := by decide +kernel
theorem dX12_takeRead_173 : decode cX12_takeRead 173 = .ok (.return_, 1) := by decide +kernel
theorem dX12_realm_0 : decode cX12_realm 0 = .ok (.aload_n 0, 1) := by decide +kernel
theorem dX12_realm_1 : decode cX12_realm 1 = .ok (.iconst (-1), 1) := by decide +kernel
theorem dX12_realm_2 : decode cX12_realm 2 = .ok (.putfield 22, 3) := by decide +kernel
theorem dX12_realm_5 : decode cX12_realm 5 = .ok (.aload_n 0, 1) := by decide +kernel
theorem dX12_realm_6 : decode cX12_realm 6 = .ok (.iconst 0, 1) := by decide +kernel
theorem dX12_realm_7 : decode cX12_realm 7 = .ok (.putfield 90, 3) := by decide +kernel
theorem dX12_realm_10 : decode cX12_realm 10 = .ok (.aload_n 0, 1) := by decide +kernel
theorem dX12_realm_11 : decode cX12_realm 11 = .ok (.iconst 0, 1) := by decide +kernel
theorem dX12_realm_12 : decode cX12_realm 12 = .ok (.putfield 114, 3) := by decide +kernel
theorem dX12_realm_15 : decode cX12_realm 15 = .ok (.aload_n 0, 1) := by decide +kernel
theorem dX12_realm_16 : decode cX12_realm 16 = .ok (.iconst 0, 1) := by decide +kernel
theorem dX12_realm_17 : decode cX12_realm 17 = .ok (.putfield 121, 3) := by decide +kernel
theorem dX12_realm_20 : decode cX12_realm 20 = .ok (.aload_n 0, 1) := by decide +kernel
theorem dX12_realm_21 : decode cX12_realm 21 = .ok (.iconst 0, 1) := by decide +kernel
theorem dX12_realm_22 : decode cX12_realm 22 = .ok (.putfield 124, 3) := by decide +kernel
theorem dX12_realm_25 : decode cX12_realm 25 = .ok (.iconst 0, 1) := by decide +kernel
theorem dX12_realm_26 : decode cX12_realm 26 = .ok (.istore_n 1, 1) := by decide +kernel
theorem dX12_realm_27 : decode cX12_realm 27 = .ok (.iload_n 1, 1) := by decide +kernel
theorem dX12_realm_28 : decode cX12_realm 28 = .ok (.ifCond .ne 18, 3) := by decide +kernel
theorem dX12_realm_31 : decode cX12_realm 31 = .ok (.aload_n 0, 1) := by decide +kernel
theorem dX12_realm_32 : decode cX12_realm 32 = .ok (.invokevirtual 93, 3) := by decide +kernel
theorem dX12_realm_35 : decode cX12_realm 35 = .ok (.ifCond .lt 11, 3) := by decide +kernel
theorem dX12_realm_38 : decode cX12_realm 38 = .ok (.aload_n 0, 1) := by decide +kernel
theorem dX12_realm_39 : decode cX12_realm 39 = .ok (.invokevirtual 146, 3) := by decide +kernel
theorem dX12_realm_42 : decode cX12_realm 42 = .ok (.istore_n 1, 1) := by decide +kernel
theorem dX12_realm_43 : decode cX12_realm 43 = .ok (.goto (-16), 3) := by decide +kernel
theorem dX12_realm_46 : decode cX12_realm 46 = .ok (.aload_n 0, 1) := by decide +kernel
theorem dX12_realm_47 : decode cX12_realm 47 = .ok (.iconst 0, 1) := by decide +kernel
theorem dX12_realm_48 : decode cX12_realm 48 = .ok (.putfield 86, 3) := by decide +kernel
theorem dX12_realm_51 : decode cX12_realm 51 = .ok (.iload_n 1, 1) := by decide +kernel
theorem dX12_realm_52 : decode cX12_realm 52 = .ok (.ifCond .le 8, 3) := by decide +kernel
theorem dX12_realm_55 : decode cX12_realm 55 = .ok (.bipush (-10), 2) := by decide +kernel
theorem dX12_realm_57 : decode cX12_realm 57 = .ok (.iload_n 1, 1) := by decide +kernel
theorem dX12_realm_58 : decode cX12_realm 58 = .ok (.isub, 1) := by decide +kernel
theorem dX12_realm_59 : decode cX12_realm 59 = .ok (.ireturn, 1) := by decide +kernel
theorem dX12_realm_60 : decode cX12_realm 60 = .ok (.aload_n 0, 1) := by decide +kernel
theorem dX12_realm_61 : decode cX12_realm 61 = .ok (.invokevirtual 149, 3) := by decide +kernel
theorem dX12_realm_64 : decode cX12_realm 64 = .ok (.aload_n 0, 1) := by decide +kernel
theorem dX12_realm_65 : decode cX12_realm 65 = .ok (.iconst 0, 1) := by decide +kernel
theorem dX12_realm_66 : decode cX12_realm 66 = .ok (.putfield 152, 3) := by decide +kernel
theorem dX12_realm_69 : decode cX12_realm 69 = .ok (.aload_n 0, 1) := by decide +kernel
theorem dX12_realm_70 : decode cX12_realm 70 = .ok (.iconst 0, 1) := by decide +kernel
theorem dX12_realm_71 : decode cX12_realm 71 = .ok (.putfield 155, 3) := by decide +kernel
theorem dX12_realm_74 : decode cX12_realm 74 = .ok (.aload_n 0, 1) := by decide +kernel
theorem dX12_realm_75 : decode cX12_realm 75 = .ok (.iconst 0, 1) := by decide +kernel
theorem dX12_realm_76 : decode cX12_realm 76 = .ok (.putfield 158, 3) := by decide +kernel
theorem dX12_realm_79 : decode cX12_realm 79 = .ok (.aload_n 0, 1) := by decide +kernel
theorem dX12_realm_80 : decode cX12_realm 80 = .ok (.getfield 69, 3) := by decide +kernel
theorem dX12_realm_83 : decode cX12_realm 83 = .ok (.iconst 0, 1) := by decide +kernel
theorem dX12_realm_84 : decode cX12_realm 84 = .ok (.iconst 0, 1) := by decide +kernel
theorem dX12_realm_85 : decode cX12_realm 85 = .ok (.bastore, 1) := by decide +kernel
theorem dX12_realm_86 : decode cX12_realm 86 = .ok (.aload_n 0, 1) := by decide +kernel
theorem dX12_realm_87 : decode cX12_realm 87 = .ok (.getfield 69, 3) := by decide +kernel
theorem dX12_realm_90 : decode cX12_realm 90 = .ok (.iconst 1, 1) := by decide +kernel
theorem dX12_realm_91 : decode cX12_realm 91 = .ok (.iconst 0, 1) := by decide +kernel
theorem dX12_realm_92 : decode cX12_realm 92 = .ok (.bastore, 1) := by decide +kernel
theorem dX12_realm_93 : decode cX12_realm 93 = .ok (.aload_n 0, 1) := by decide +kernel
theorem dX12_realm_94 : decode cX12_realm 94 = .ok (.getfield 76, 3) := by decide +kernel
theorem dX12_realm_97 : decode cX12_realm 97 = .ok (.ireturn, 1) := by decide +kernel
theorem dX12_fault_0 : decode cX12_fault 0 = .ok (.aload_n 0, 1) := by decide +kernel
theorem dX12_fault_1 : decode cX12_fault 1 = .ok (.getfield 22, 3) := by decide +kernel
theorem dX12_fault_4 : decode cX12_fault 4 = .ok (.ireturn, 1) := by decide +kernel
theorem dX12_free_0 : decode cX12_free 0 = .ok (.aload_n 0, 1) := by decide +kernel
theorem dX12_free_1 : decode cX12_free 1 = .ok (.getfield 16, 3) := by decide +kernel
theorem dX12_free_4 : decode cX12_free 4 = .ok (.iload_n 1, 1) := by decide +kernel
theorem dX12_free_5 : decode cX12_free 5 = .ok (.iaload, 1) := by decide +kernel
theorem dX12_free_6 : decode cX12_free 6 = .ok (.aload_n 0, 1) := by decide +kernel
theorem dX12_free_7 : decode cX12_free 7 = .ok (.getfield 16, 3) := by decide +kernel
theorem dX12_free_10 : decode cX12_free 10 = .ok (.bipush 9, 2) := by decide +kernel
theorem dX12_free_12 : decode cX12_free 12 = .ok (.iload_n 1, 1) := by decide +kernel
theorem dX12_free_13 : decode cX12_free 13 = .ok (.iadd, 1) := by decide +kernel
theorem dX12_free_14 : decode cX12_free 14 = .ok (.iaload, 1) := by decide +kernel
theorem dX12_free_15 : decode cX12_free 15 = .ok (.isub, 1) := by decide +kernel
theorem dX12_free_16 : decode cX12_free 16 = .ok (.ireturn, 1) := by decide +kernel
theorem dX12_joined_0 : decode cX12_joined 0 = .ok (.iconst 0, 1) := by decide +kernel
theorem dX12_joined_1 : decode cX12_joined 1 = .ok (.istore_n 2, 1) := by decide +kernel
theorem dX12_joined_2 : decode cX12_joined 2 = .ok (.iconst 0, 1) := by decide +kernel
theorem dX12_joined_3 : decode cX12_joined 3 = .ok (.istore_n 3, 1) := by decide +kernel
theorem dX12_joined_4 : decode cX12_joined 4 = .ok (.iload_n 3, 1) := by decide +kernel
theorem dX12_joined_5 : decode cX12_joined 5 = .ok (.aload_n 0, 1) := by decide +kernel
theorem dX12_joined_6 : decode cX12_joined 6 = .ok (.getfield 143, 3) := by decide +kernel
theorem dX12_joined_9 : decode cX12_joined 9 = .ok (.if_icmp .ge 90, 3) := by decide +kernel
theorem dX12_joined_12 : decode cX12_joined 12 = .ok (.aload_n 0, 1) := by decide +kernel
theorem dX12_joined_13 : decode cX12_joined 13 = .ok (.getfield 16, 3) := by decide +kernel
theorem dX12_joined_16 : decode cX12_joined 16 = .ok (.bipush 19, 2) := by decide +kernel
theorem dX12_joined_18 : decode cX12_joined 18 = .ok (.iaload, 1) := by decide +kernel
theorem dX12_joined_19 : decode cX12_joined 19 = .ok (.iload_n 3, 1) := by decide +kernel
theorem dX12_joined_20 : decode cX12_joined 20 = .ok (.invokestatic 161, 3) := by decide +kernel
theorem dX12_joined_23 : decode cX12_joined 23 = .ok (.ifCond .ne 7, 3) := by decide +kernel
theorem dX12_joined_26 : decode cX12_joined 26 = .ok (.iconst 1, 1) := by decide +kernel
theorem dX12_joined_27 : decode cX12_joined 27 = .ok (.goto 4, 3) := by decide +kernel
theorem dX12_joined_30 : decode cX12_joined 30 = .ok (.iconst 0, 1) := by decide +kernel
theorem dX12_joined_31 : decode cX12_joined 31 = .ok (.istore 4, 2) := by decide +kernel
theorem dX12_joined_33 : decode cX12_joined 33 = .ok (.iload_n 2, 1) := by decide +kernel
theorem dX12_joined_34 : decode cX12_joined 34 = .ok (.iload 4, 2) := by decide +kernel
theorem dX12_joined_36 : decode cX12_joined 36 = .ok (.ifCond .eq 24, 3) := by decide +kernel
theorem dX12_joined_39 : decode cX12_joined 39 = .ok (.aload_n 0, 1) := by decide +kernel
theorem dX12_joined_40 : decode cX12_joined 40 = .ok (.getfield 7, 3) := by decide +kernel
theorem dX12_joined_43 : decode cX12_joined 43 = .ok (.iload_n 3, 1) := by decide +kernel
theorem dX12_joined_44 : decode cX12_joined 44 = .ok (.iaload, 1) := by decide +kernel
theorem dX12_joined_45 : decode cX12_joined 45 = .ok (.iload_n 1, 1) := by decide +kernel
theorem dX12_joined_46 : decode cX12_joined 46 = .ok (.if_icmp .ne 14, 3) := by decide +kernel
theorem dX12_joined_49 : decode cX12_joined 49 = .ok (.iconst 1, 1) := by decide +kernel
theorem dX12_joined_50 : decode cX12_joined 50 = .ok (.aload_n 0, 1) := by decide +kernel
theorem dX12_joined_51 : decode cX12_joined 51 = .ok (.getfield 13, 3) := by decide +kernel
theorem dX12_joined_54 : decode cX12_joined 54 = .ok (.iload_n 3, 1) := by decide +kernel
theorem dX12_joined_55 : decode cX12_joined 55 = .ok (.iaload, 1) := by decide +kernel
theorem dX12_joined_56 : decode cX12_joined 56 = .ok (.ishl, 1) := by decide +kernel
theorem dX12_joined_57 : decode cX12_joined 57 = .ok (.goto 4, 3) := by decide +kernel
theorem dX12_joined_60 : decode cX12_joined 60 = .ok (.iconst 0, 1) := by decide +kernel
theorem dX12_joined_61 : decode cX12_joined 61 = .ok (.ior, 1) := by decide +kernel
theorem dX12_joined_62 : decode cX12_joined 62 = .ok (.istore_n 2, 1) := by decide +kernel
theorem dX12_joined_63 : decode cX12_joined 63 = .ok (.iload_n 2, 1) := by decide +kernel
theorem dX12_joined_64 : decode cX12_joined 64 = .ok (.iload 4, 2) := by decide +kernel
theorem dX12_joined_66 : decode cX12_joined 66 = .ok (.ifCond .eq 24, 3) := by decide +kernel
theorem dX12_joined_69 : decode cX12_joined 69 = .ok (.aload_n 0, 1) := by decide +kernel
theorem dX12_joined_70 : decode cX12_joined 70 = .ok (.getfield 13, 3) := by decide +kernel
theorem dX12_joined_73 : decode cX12_joined 73 = .ok (.iload_n 3, 1) := by decide +kernel
theorem dX12_joined_74 : decode cX12_joined 74 = .ok (.iaload, 1) := by decide +kernel
theorem dX12_joined_75 : decode cX12_joined 75 = .ok (.iload_n 1, 1) := by decide +kernel
theorem dX12_joined_76 : decode cX12_joined 76 = .ok (.if_icmp .ne 14, 3) := by decide +kernel
theorem dX12_joined_79 : decode cX12_joined 79 = .ok (.iconst 1, 1) := by decide +kernel
theorem dX12_joined_80 : decode cX12_joined 80 = .ok (.aload_n 0, 1) := by decide +kernel
theorem dX12_joined_81 : decode cX12_joined 81 = .ok (.getfield 7, 3) := by decide +kernel
theorem dX12_joined_84 : decode cX12_joined 84 = .ok (.iload_n 3, 1) := by decide +kernel
theorem dX12_joined_85 : decode cX12_joined 85 = .ok (.iaload, 1) := by decide +kernel
theorem dX12_joined_86 : decode cX12_joined 86 = .ok (.ishl, 1) := by decide +kernel
theorem dX12_joined_87 : decode cX12_joined 87 = .ok (.goto 4, 3) := by decide +kernel
theorem dX12_joined_90 : decode cX12_joined 90 = .ok (.iconst 0, 1) := by decide +kernel
theorem dX12_joined_91 : decode cX12_joined 91 = .ok (.ior, 1) := by decide +kernel
theorem dX12_joined_92 : decode cX12_joined 92 = .ok (.istore_n 2, 1) := by decide +kernel
theorem dX12_joined_93 : decode cX12_joined 93 = .ok (.iinc 3 1, 3) := by decide +kernel
theorem dX12_joined_96 : decode cX12_joined 96 = .ok (.goto (-92), 3) := by decide +kernel
theorem dX12_joined_99 : decode cX12_joined 99 = .ok (.iload_n 2, 1) := by decide +kernel
theorem dX12_joined_100 : decode cX12_joined 100 = .ok (.ireturn, 1) := by decide +kernel
theorem dX12_findAway_0 : decode cX12_findAway 0 = .ok (.iconst 0, 1) := by decide +kernel
theorem dX12_findAway_1 : decode cX12_findAway 1 = .ok (.istore_n 1, 1) := by decide +kernel
theorem dX12_findAway_2 : decode cX12_findAway 2 = .ok (.iload_n 1, 1) := by decide +kernel
theorem dX12_findAway_3 : decode cX12_findAway 3 = .ok (.bipush 9, 2) := by decide +kernel
theorem dX12_findAway_5 : decode cX12_findAway 5 = .ok (.if_icmp .ge 39, 3) := by decide +kernel
theorem dX12_findAway_8 : decode cX12_findAway 8 = .ok (.aload_n 0, 1) := by decide +kernel
theorem dX12_findAway_9 : decode cX12_findAway 9 = .ok (.getfield 41, 3) := by decide +kernel
theorem dX12_findAway_12 : decode cX12_findAway 12 = .ok (.iload_n 1, 1) := by decide +kernel
theorem dX12_findAway_13 : decode cX12_findAway 13 = .ok (.iload_n 1, 1) := by decide +kernel
theorem dX12_findAway_14 : decode cX12_findAway 14 = .ok (.aload_n 0, 1) := by decide +kernel
theorem dX12_findAway_15 : decode cX12_findAway 15 = .ok (.getfield 76, 3) := by decide +kernel
theorem dX12_findAway_18 : decode cX12_findAway 18 = .ok (.if_icmp .ge 16, 3) := by decide +kernel
theorem dX12_findAway_21 : decode cX12_findAway 21 = .ok (.aload_n 0, 1) := by decide +kernel
theorem dX12_findAway_22 : decode cX12_findAway 22 = .ok (.iload_n 1, 1) := by decide +kernel
theorem dX12_findAway_23 : decode cX12_findAway 23 = .ok (.invokevirtual 165, 3) := by decide +kernel
theorem dX12_findAway_26 : decode cX12_findAway 26 = .ok (.iconst 1, 1) := by decide +kernel
theorem dX12_findAway_27 : decode cX12_findAway 27 = .ok (.if_icmp .le 7, 3) := by decide +kernel
theorem dX12_findAway_30 : decode cX12_findAway 30 = .ok (.iconst 0, 1) := by decide +kernel
theorem dX12_findAway_31 : decode cX12_findAway 31 = .ok (.goto 6, 3) := by decide +kernel
theorem dX12_findAway_34 : decode cX12_findAway 34 = .ok (.sipush 1000, 3) := by decide +kernel
theorem dX12_findAway_37 : decode cX12_findAway 37 = .ok (.iastore, 1) := by decide +kernel
theorem dX12_findAway_38 : decode cX12_findAway 38 = .ok (.iinc 1 1, 3) := by decide +kernel
theorem dX12_findAway_41 : decode cX12_findAway 41 = .ok (.goto (-39), 3) := by decide +kernel
theorem dX12_findAway_44 : decode cX12_findAway 44 = .ok (.iconst 1, 1) := by decide +kernel
theorem dX12_findAway_45 : decode cX12_findAway 45 = .ok (.istore_n 1, 1) := by decide +kernel
theorem dX12_findAway_46 : decode cX12_findAway 46 = .ok (.iload_n 1, 1) := by decide +kernel
theorem dX12_findAway_47 : decode cX12_findAway 47 = .ok (.bipush 9, 2) := by decide +kernel
theorem dX12_findAway_49 : decode cX12_findAway 49 = .ok (.if_icmp .ge 97, 3) := by decide +kernel
theorem dX12_findAway_52 : decode cX12_findAway 52 = .ok (.iconst 0, 1) := by decide +kernel
theorem dX12_findAway_53 : decode cX12_findAway 53 = .ok (.istore_n 2, 1) := by decide +kernel
theorem dX12_findAway_54 : decode cX12_findAway 54 = .ok (.iload_n 2, 1) := by decide +kernel
theorem dX12_findAway_55 : decode cX12_findAway 55 = .ok (.aload_n 0, 1) := by decide +kernel
theorem dX12_findAway_56 : decode cX12_findAway 56 = .ok (.getfield 76, 3) := by decide +kernel
theorem dX12_findAway_59 : decode cX12_findAway 59 = .ok (.if_icmp .ge 81, 3) := by decide +kernel
theorem dX12_findAway_62 : decode cX12_findAway 62 = .ok (.aload_n 0, 1) := by decide +kernel
theorem dX12_findAway_63 : decode cX12_findAway 63 = .ok (.iload_n 2, 1) := by decide +kernel
theorem dX12_findAway_64 : decode cX12_findAway 64 = .ok (.invokevirtual 169, 3) := by decide +kernel
theorem dX12_findAway_67 : decode cX12_findAway 67 = .ok (.istore_n 3, 1) := by decide +kernel
theorem dX12_findAway_68 : decode cX12_findAway 68 = .ok (.iconst 0, 1) := by decide +kernel
theorem dX12_findAway_69 : decode cX12_findAway 69 = .ok (.istore 4, 2) := by decide +kernel
theorem dX12_findAway_71 : decode cX12_findAway 71 = .ok (.iload 4, 2) := by decide +kernel
theorem dX12_findAway_73 : decode cX12_findAway 73 = .ok (.aload_n 0, 1) := by decide +kernel
theorem dX12_findAway_74 : decode cX12_findAway 74 = .ok (.getfield 76, 3) := by decide +kernel
theorem dX12_findAway_77 : decode cX12_findAway 77 = .ok (.if_icmp .ge 57, 3) := by decide +kernel
theorem dX12_findAway_80 : decode cX12_findAway 80 = .ok (.aload_n 0, 1) := by decide +kernel
theorem dX12_findAway_81 : decode cX12_findAway 81 = .ok (.getfield 41, 3) := by decide +kernel
theorem dX12_findAway_84 : decode cX12_findAway 84 = .ok (.iload_n 2, 1) := by decide +kernel
theorem dX12_findAway_85 : decode cX12_findAway 85 = .ok (.aload_n 0, 1) := by decide +kernel
theorem dX12_findAway_86 : decode cX12_findAway 86 = .ok (.getfield 41, 3) := by decide +kernel
theorem dX12_findAway_89 : decode cX12_findAway 89 = .ok (.iload_n 2, 1) := by decide +kernel
theorem dX12_findAway_90 : decode cX12_findAway 90 = .ok (.iaload, 1) := by decide +kernel
theorem dX12_findAway_91 : decode cX12_findAway 91 = .ok (.iload_n 1, 1) := by decide +kernel
theorem dX12_findAway_92 : decode cX12_findAway 92 = .ok (.if_icmp .le 29, 3) := by decide +kernel
theorem dX12_findAway_95 : decode cX12_findAway 95 = .ok (.iload_n 3, 1) := by decide +kernel
theorem dX12_findAway_96 : decode cX12_findAway 96 = .ok (.iload 4, 2) := by decide +kernel
theorem dX12_findAway_98 : decode cX12_findAway 98 = .ok (.invokestatic 161, 3) := by decide +kernel
theorem dX12_findAway_101 : decode cX12_findAway 101 = .ok (.ifCond .eq 20, 3) := by decide +kernel
theorem dX12_findAway_104 : decode cX12_findAway 104 = .ok (.aload_n 0, 1) := by decide +kernel
theorem dX12_findAway_105 : decode cX12_findAway 105 = .ok (.getfield 41, 3) := by decide +kernel
theorem dX12_findAway_108 : decode cX12_findAway 108 = .ok (.iload 4, 2) := by decide +kernel
theorem dX12_findAway_110 : decode cX12_findAway 110 = .ok (.iaload, 1) := by decide +kernel
theorem dX12_findAway_111 : decode cX12_findAway 111 = .ok (.iload_n 1, 1) := by decide +kernel
theorem dX12_findAway_112 : decode cX12_findAway 112 = .ok (.iconst 1, 1) := by decide +kernel
theorem dX12_findAway_113 : decode cX12_findAway 113 = .ok (.isub, 1) := by decide +kernel
theorem dX12_findAway_114 : decode cX12_findAway 114 = .ok (.if_icmp .ne 7, 3) := by decide +kernel
theorem dX12_findAway_117 : decode cX12_findAway 117 = .ok (.iload_n 1, 1) := by decide +kernel
theorem dX12_findAway_118 : decode cX12_findAway 118 = .ok (.goto 9, 3) := by decide +kernel
theorem dX12_findAway_121 : decode cX12_findAway 121 = .ok (.aload_n 0, 1) := by decide +kernel
theorem dX12_findAway_122 : decode cX12_findAway 122 = .ok (.getfield 41, 3) := by decide +kernel
theorem dX12_findAway_125 : decode cX12_findAway 125 = .ok (.iload_n 2, 1) := by decide +kernel
theorem dX12_findAway_126 : decode cX12_findAway 126 = .ok (.iaload, 1) := by decide +kernel
theorem dX12_findAway_127 : decode cX12_findAway 127 = .ok (.iastore, 1) := by decide +kernel
theorem dX12_findAway_128 : decode cX12_findAway 128 = .ok (.iinc 4 1, 3) := by decide +kernel
theorem dX12_findAway_131 : decode cX12_findAway 131 = .ok (.goto (-60), 3) := by decide +kernel
theorem dX12_findAway_134 : decode cX12_findAway 134 = .ok (.iinc 2 1, 3) := by decide +kernel
theorem dX12_findAway_137 : decode cX12_findAway 137 = .ok (.goto (-83), 3) := by decide +kernel
theorem dX12_findAway_140 : decode cX12_findAway 140 = .ok (.iinc 1 1, 3) := by decide +kernel
theorem dX12_findAway_143 : decode cX12_findAway 143 = .ok (.goto (-97), 3) := by decide +kernel
theorem dX12_findAway_146 : decode cX12_findAway 146 = .ok (.return_, 1) := by decide +kernel
theorem dX12_nextOf_0 : decode cX12_nextOf 0 = .ok (.aload_n 0, 1) := by decide +kernel
theorem dX12_nextOf_1 : decode cX12_nextOf 1 = .ok (.iload_n 1, 1) := by decide +kernel
theorem dX12_nextOf_2 : decode cX12_nextOf 2 = .ok (.invokevirtual 169, 3) := by decide +kernel
theorem dX12_nextOf_5 : decode cX12_nextOf 5 = .ok (.istore_n 2, 1) := by decide +kernel
theorem dX12_nextOf_6 : decode cX12_nextOf 6 = .ok (.iconst 0, 1) := by decide +kernel
theorem dX12_nextOf_7 : decode cX12_nextOf 7 = .ok (.istore_n 3, 1) := by decide +kernel
theorem dX12_nextOf_8 : decode cX12_nextOf 8 = .ok (.iload_n 3, 1) := by decide +kernel
theorem dX12_nextOf_9 : decode cX12_nextOf 9 = .ok (.aload_n 0, 1) := by decide +kernel
theorem dX12_nextOf_10 : decode cX12_nextOf 10 = .ok (.getfield 76, 3) := by decide +kernel
theorem dX12_nextOf_13 : decode cX12_nextOf 13 = .ok (.if_icmp .ge 36, 3) := by decide +kernel
theorem dX12_nextOf_16 : decode cX12_nextOf 16 = .ok (.iload_n 2, 1) := by decide +kernel
theorem dX12_nextOf_17 : decode cX12_nextOf 17 = .ok (.iload_n 3, 1) := by decide +kernel
theorem dX12_nextOf_18 : decode cX12_nextOf 18 = .ok (.invokestatic 161, 3) := by decide +kernel
theorem dX12_nextOf_21 : decode cX12_nextOf 21 = .ok (.ifCond .eq 22, 3) := by decide +kernel
theorem dX12_nextOf_24 : decode cX12_nextOf 24 = .ok (.aload_n 0, 1) := by decide +kernel
theorem dX12_nextOf_25 : decode cX12_nextOf 25 = .ok (.getfield 41, 3) := by decide +kernel
theorem dX12_nextOf_28 : decode cX12_nextOf 28 = .ok (.iload_n 3, 1) := by decide +kernel
theorem dX12_nextOf_29 : decode cX12_nextOf 29 = .ok (.iaload, 1) := by decide +kernel
theorem dX12_nextOf_30 : decode cX12_nextOf 30 = .ok (.aload_n 0, 1) := by decide +kernel
theorem dX12_nextOf_31 : decode cX12_nextOf 31 = .ok (.getfield 41, 3) := by decide +kernel
theorem dX12_nextOf_34 : decode cX12_nextOf 34 = .ok (.iload_n 1, 1) := by decide +kernel
theorem dX12_nextOf_35 : decode cX12_nextOf 35 = .ok (.iaload, 1) := by decide +kernel
theorem dX12_nextOf_36 : decode cX12_nextOf 36 = .ok (.iconst 1, 1) := by decide +kernel
theorem dX12_nextOf_37 : decode cX12_nextOf 37 = .ok (.isub, 1) := by decide +kernel
theorem dX12_nextOf_38 : decode cX12_nextOf 38 = .ok (.if_icmp .ne 5, 3) := by decide +kernel
theorem dX12_nextOf_41 : decode cX12_nextOf 41 = .ok (.iload_n 3, 1) := by decide +kernel
theorem dX12_nextOf_42 : decode cX12_nextOf 42 = .ok (.ireturn, 1) := by decide +kernel
theorem dX12_nextOf_43 : decode cX12_nextOf 43 = .ok (.iinc 3 1, 3) := by decide +kernel
theorem dX12_nextOf_46 : decode cX12_nextOf 46 = .ok (.goto (-38), 3) := by decide +kernel
theorem dX12_nextOf_49 : decode cX12_nextOf 49 = .ok (.iconst (-1), 1) := by decide +kernel
theorem dX12_nextOf_50 : decode cX12_nextOf 50 = .ok (.ireturn, 1) := by decide +kernel
theorem dX12_lastOf_0 : decode cX12_lastOf 0 = .ok (.iload_n 1, 1) := by decide +kernel
theorem dX12_lastOf_1 : decode cX12_lastOf 1 = .ok (.istore_n 2, 1) := by decide +kernel
theorem dX12_lastOf_2 : decode cX12_lastOf 2 = .ok (.aload_n 0, 1) := by decide +kernel
theorem dX12_lastOf_3 : decode cX12_lastOf 3 = .ok (.getfield 41, 3) := by decide +kernel
theorem dX12_lastOf_6 : decode cX12_lastOf 6 = .ok (.iload_n 2, 1) := by decide +kernel
theorem dX12_lastOf_7 : decode cX12_lastOf 7 = .ok (.iaload, 1) := by decide +kernel
theorem dX12_lastOf_8 : decode cX12_lastOf 8 = .ok (.ifCond .le 12, 3) := by decide +kernel
theorem dX12_lastOf_11 : decode cX12_lastOf 11 = .ok (.aload_n 0, 1) := by decide +kernel
theorem dX12_lastOf_12 : decode cX12_lastOf 12 = .ok (.iload_n 2, 1) := by decide +kernel
theorem dX12_lastOf_13 : decode cX12_lastOf 13 = .ok (.invokevirtual 172, 3) := by decide +kernel
theorem dX12_lastOf_16 : decode cX12_lastOf 16 = .ok (.istore_n 2, 1) := by decide +kernel
theorem dX12_lastOf_17 : decode cX12_lastOf 17 = .ok (.goto (-15), 3) := by decide +kernel
theorem dX12_lastOf_20 : decode cX12_lastOf 20 = .ok (.iload_n 2, 1) := by decide +kernel
theorem dX12_lastOf_21 : decode cX12_lastOf 21 = .ok (.ireturn, 1) := by decide +kernel
theorem dX12_allSit_0 : decode cX12_allSit 0 = .ok (.iconst 0, 1) := by decide +kernel
theorem dX12_allSit_1 : decode cX12_allSit 1 = .ok (.istore_n 1, 1) := by decide +kernel
theorem dX12_allSit_2 : decode cX12_allSit 2 = .ok (.iconst 0, 1) := by decide +kernel
theorem dX12_allSit_3 : decode cX12_allSit 3 = .ok (.istore_n 2, 1) := by decide +kernel
theorem dX12_allSit_4 : decode cX12_allSit 4 = .ok (.iload_n 2, 1) := by decide +kernel
theorem dX12_allSit_5 : decode cX12_allSit 5 = .ok (.aload_n 0, 1) := by decide +kernel
theorem dX12_allSit_6 : decode cX12_allSit 6 = .ok (.getfield 76, 3) := by decide +kernel
theorem dX12_allSit_9 : decode cX12_allSit 9 = .ok (.if_icmp .ge 21, 3) := by decide +kernel
theorem dX12_allSit_12 : decode cX12_allSit 12 = .ok (.iload_n 1, 1) := by decide +kernel
theorem dX12_allSit_13 : decode cX12_allSit 13 = .ok (.aload_n 0, 1) := by decide +kernel
theorem dX12_allSit_14 : decode cX12_allSit 14 = .ok (.getfield 16, 3) := by decide +kernel
theorem dX12_allSit_17 : decode cX12_allSit 17 = .ok (.bipush 9, 2) := by decide +kernel
theorem dX12_allSit_19 : decode cX12_allSit 19 = .ok (.iload_n 2, 1) := by decide +kernel
theorem dX12_allSit_20 : decode cX12_allSit 20 = .ok (.iadd, 1) := by decide +kernel
theorem dX12_allSit_21 : decode cX12_allSit 21 = .ok (.iaload, 1) := by decide +kernel
theorem dX12_allSit_22 : decode cX12_allSit 22 = .ok (.iadd, 1) := by decide +kernel
theorem dX12_allSit_23 : decode cX12_allSit 23 = .ok (.istore_n 1, 1) := by decide +kernel
theorem dX12_allSit_24 : decode cX12_allSit 24 = .ok (.iinc 2 1, 3) := by decide +kernel
theorem dX12_allSit_27 : decode cX12_allSit 27 = .ok (.goto (-23), 3) := by decide +kernel
theorem dX12_allSit_30 : decode cX12_allSit 30 = .ok (.iload_n 1, 1) := by decide +kernel
theorem dX12_allSit_31 : decode cX12_allSit 31 = .ok (.ireturn, 1) := by decide +kernel
theorem dX12_inspected_0 : decode cX12_inspected 0 = .ok (.iconst 0, 1) := by decide +kernel
theorem dX12_inspected_1 : decode cX12_inspected 1 = .ok (.istore_n 1, 1) := by decide +kernel
theorem dX12_inspected_2 : decode cX12_inspected 2 = .ok (.iconst 0, 1) := by decide +kernel
theorem dX12_inspected_3 : decode cX12_inspected 3 = .ok (.istore_n 2, 1) := by decide +kernel
theorem dX12_inspected_4 : decode cX12_inspected 4 = .ok (.iload_n 2, 1) := by decide +kernel
theorem dX12_inspected_5 : decode cX12_inspected 5 = .ok (.aload_n 0, 1) := by decide +kernel
theorem dX12_inspected_6 : decode cX12_inspected 6 = .ok (.getfield 76, 3) := by decide +kernel
theorem dX12_inspected_9 : decode cX12_inspected 9 = .ok (.if_icmp .ge 28, 3) := by decide +kernel
theorem dX12_inspected_12 : decode cX12_inspected 12 = .ok (.iload_n 1, 1) := by decide +kernel
theorem dX12_inspected_13 : decode cX12_inspected 13 = .ok (.aload_n 0, 1) := by decide +kernel
theorem dX12_inspected_14 : decode cX12_inspected 14 = .ok (.iload_n 2, 1) := by decide +kernel
theorem dX12_inspected_15 : decode cX12_inspected 15 = .ok (.invokevirtual 165, 3) := by decide +kernel
theorem dX12_inspected_18 : decode cX12_inspected 18 = .ok (.iconst 1, 1) := by decide +kernel
theorem dX12_inspected_19 : decode cX12_inspected 19 = .ok (.if_icmp .ge 9, 3) := by decide +kernel
theorem dX12_inspected_22 : decode cX12_inspected 22 = .ok (.iconst 1, 1) := by decide +kernel
theorem dX12_inspected_23 : decode cX12_inspected 23 = .ok (.iload_n 2, 1) := by decide +kernel
theorem dX12_inspected_24 : decode cX12_inspected 24 = .ok (.ishl, 1) := by decide +kernel
theorem dX12_inspected_25 : decode cX12_inspected 25 = .ok (.goto 4, 3) := by decide +kernel
theorem dX12_inspected_28 : decode cX12_inspected 28 = .ok (.iconst 0, 1) := by decide +kernel
theorem dX12_inspected_29 : decode cX12_inspected 29 = .ok (.ior, 1) := by decide +kernel
theorem dX12_inspected_30 : decode cX12_inspected 30 = .ok (.istore_n 1, 1) := by decide +kernel
theorem dX12_inspected_31 : decode cX12_inspected 31 = .ok (.iinc 2 1, 3) := by decide +kernel
theorem dX12_inspected_34 : decode cX12_inspected 34 = .ok (.goto (-30), 3) := by decide +kernel
theorem dX12_inspected_37 : decode cX12_inspected 37 = .ok (.iload_n 1, 1) := by decide +kernel
theorem dX12_inspected_38 : decode cX12_inspected 38 = .ok (.ireturn, 1) := by decide +kernel
theorem dX12_emergency_0 : decode cX12_emergency 0 = .ok (.aload_n 0, 1) := by decide +kernel
theorem dX12_emergency_1 : decode cX12_emergency 1 = .ok (.invokevirtual 175, 3) := by decide +kernel
theorem dX12_emergency_4 : decode cX12_emergency 4 = .ok (.iconst 0, 1) := by decide +kernel
theorem dX12_emergency_5 : decode cX12_emergency 5 = .ok (.istore_n 1, 1) := by decide +kernel
theorem dX12_emergency_6 : decode cX12_emergency 6 = .ok (.iconst 0, 1) := by decide +kernel
theorem dX12_emergency_7 : decode cX12_emergency 7 = .ok (.istore_n 2, 1) := by decide +kernel
theorem dX12_emergency_8 : decode cX12_emergency 8 = .ok (.iload_n 2, 1) := by decide +kernel
theorem dX12_emergency_9 : decode cX12_emergency 9 = .ok (.aload_n 0, 1) := by decide +kernel
theorem dX12_emergency_10 : decode cX12_emergency 10 = .ok (.getfield 76, 3) := by decide +kernel
theorem dX12_emergency_13 : decode cX12_emergency 13 = .ok (.if_icmp .ge 31, 3) := by decide +kernel
theorem dX12_emergency_16 : decode cX12_emergency 16 = .ok (.iload_n 1, 1) := by decide +kernel
theorem dX12_emergency_17 : decode cX12_emergency 17 = .ok (.aload_n 0, 1) := by decide +kernel
theorem dX12_emergency_18 : decode cX12_emergency 18 = .ok (.getfield 41, 3) := by decide +kernel
theorem dX12_emergency_21 : decode cX12_emergency 21 = .ok (.iload_n 2, 1) := by decide +kernel
theorem dX12_emergency_22 : decode cX12_emergency 22 = .ok (.iaload, 1) := by decide +kernel
theorem dX12_emergency_23 : decode cX12_emergency 23 = .ok (.sipush 1000, 3) := by decide +kernel
theorem dX12_emergency_26 : decode cX12_emergency 26 = .ok (.if_icmp .ne 9, 3) := by decide +kernel
theorem dX12_emergency_29 : decode cX12_emergency 29 = .ok (.iconst 1, 1) := by decide +kernel
theorem dX12_emergency_30 : decode cX12_emergency 30 = .ok (.iload_n 2, 1) := by decide +kernel
theorem dX12_emergency_31 : decode cX12_emergency 31 = .ok (.ishl, 1) := by decide +kernel
theorem dX12_emergency_32 : decode cX12_emergency 32 = .ok (.goto 4, 3) := by decide +kernel
theorem dX12_emergency_35 : decode cX12_emergency 35 = .ok (.iconst 0, 1) := by decide +kernel
theorem dX12_emergency_36 : decode cX12_emergency 36 = .ok (.ior, 1) := by decide +kernel
theorem dX12_emergency_37 : decode cX12_emergency 37 = .ok (.istore_n 1, 1) := by decide +kernel
theorem dX12_emergency_38 : decode cX12_emergency 38 = .ok (.iinc 2 1, 3) := by decide +kernel
theorem dX12_emergency_41 : decode cX12_emergency 41 = .ok (.goto (-33), 3) := by decide +kernel
theorem dX12_emergency_44 : decode cX12_emergency 44 = .ok (.iload_n 1, 1) := by decide +kernel
theorem dX12_emergency_45 : decode cX12_emergency 45 = .ok (.ireturn, 1) := by decide +kernel
theorem dX12_told_0 : decode cX12_told 0 = .ok (.iload_n 1, 1) := by decide +kernel
theorem dX12_told_1 : decode cX12_told 1 = .ok (.tableswitch 189 0 16 #[83, 88, 96, 101, 106, 111, 116, 124, 132, 140, 148, 156, 161, 166, 174, 179, 184], 83) := by decide +kernel
theorem dX12_told_84 : decode cX12_told 84 = .ok (.aload_n 0, 1) := by decide +kernel
theorem dX12_told_85 : decode cX12_told 85 = .ok (.getfield 140, 3) := by decide +kernel
theorem dX12_told_88 : decode cX12_told 88 = .ok (.ireturn, 1) := by decide +kernel
theorem dX12_told_89 : decode cX12_told 89 = .ok (.aload_n 0, 1) := by decide +kernel
theorem dX12_told_90 : decode cX12_told 90 = .ok (.getfield 16, 3) := by decide +kernel
theorem dX12_told_93 : decode cX12_told 93 = .ok (.bipush 18, 2) := by decide +kernel
theorem dX12_told_95 : decode cX12_told 95 = .ok (.iaload, 1) := by decide +kernel
theorem dX12_told_96 : decode cX12_told 96 = .ok (.ireturn, 1) := by decide +kernel
theorem dX12_told_97 : decode cX12_told 97 = .ok (.aload_n 0, 1) := by decide +kernel
theorem dX12_told_98 : decode cX12_told 98 = .ok (.getfield 76, 3) := by decide +kernel
theorem dX12_told_101 : decode cX12_told 101 = .ok (.ireturn, 1) := by decide +kernel
theorem dX12_told_102 : decode cX12_told 102 = .ok (.aload_n 0, 1) := by decide +kernel
theorem dX12_told_103 : decode cX12_told 103 = .ok (.getfield 143, 3) := by decide +kernel
theorem dX12_told_106 : decode cX12_told 106 = .ok (.ireturn, 1) := by decide +kernel
theorem dX12_told_107 : decode cX12_told 107 = .ok (.aload_n 0, 1) := by decide +kernel
theorem dX12_told_108 : decode cX12_told 108 = .ok (.getfield 86, 3) := by decide +kernel
theorem dX12_told_111 : decode cX12_told 111 = .ok (.ireturn, 1) := by decide +kernel
theorem dX12_told_112 : decode cX12_told 112 = .ok (.aload_n 0, 1) := by decide +kernel
theorem dX12_told_113 : decode cX12_told 113 = .ok (.invokevirtual 178, 3) := by decide +kernel
theorem dX12_told_116 : decode cX12_told 116 = .ok (.ireturn, 1) := by decide +kernel
theorem dX12_told_117 : decode cX12_told 117 = .ok (.aload_n 0, 1) := by decide +kernel
theorem dX12_told_118 : decode cX12_told 118 = .ok (.getfield 16, 3) := by decide +kernel
theorem dX12_told_121 : decode cX12_told 121 = .ok (.bipush 20, 2) := by decide +kernel
theorem dX12_told_123 : decode cX12_told 123 = .ok (.iaload, 1) := by decide +kernel
theorem dX12_told_124 : decode cX12_told 124 = .ok (.ireturn, 1) := by decide +kernel
theorem dX12_told_125 : decode cX12_told 125 = .ok (.aload_n 0, 1) := by decide +kernel
theorem dX12_told_126 : decode cX12_told 126 = .ok (.getfield 16, 3) := by decide +kernel
theorem dX12_told_129 : decode cX12_told 129 = .ok (.bipush 21, 2) := by decide +kernel
theorem dX12_told_131 : decode cX12_told 131 = .ok (.iaload, 1) := by decide +kernel
theorem dX12_told_132 : decode cX12_told 132 = .ok (.ireturn, 1) := by decide +kernel
theorem dX12_told_133 : decode cX12_told 133 = .ok (.aload_n 0, 1) := by decide +kernel
theorem dX12_told_134 : decode cX12_told 134 = .ok (.getfield 16, 3) := by decide +kernel
theorem dX12_told_137 : decode cX12_told 137 = .ok (.bipush 22, 2) := by decide +kernel
theorem dX12_told_139 : decode cX12_told 139 = .ok (.iaload, 1) := by decide +kernel
theorem dX12_told_140 : decode cX12_told 140 = .ok (.ireturn, 1) := by decide +kernel
theorem dX12_told_141 : decode cX12_told 141 = .ok (.aload_n 0, 1) := by decide +kernel
theorem dX12_told_142 : decode cX12_told 142 = .ok (.getfield 16, 3) := by decide +kernel
theorem dX12_told_145 : decode cX12_told 145 = .ok (.bipush 23, 2) := by decide +kernel
theorem dX12_told_147 : decode cX12_told 147 = .ok (.iaload, 1) := by decide +kernel
theorem dX12_told_148 : decode cX12_told 148 = .ok (.ireturn, 1) := by decide +kernel
theorem dX12_told_149 : decode cX12_told 149 = .ok (.aload_n 0, 1) := by decide +kernel
theorem dX12_told_150 : decode cX12_told 150 = .ok (.getfield 16, 3) := by decide +kernel
theorem dX12_told_153 : decode cX12_told 153 = .ok (.bipush 24, 2) := by decide +kernel
theorem dX12_told_155 : decode cX12_told 155 = .ok (.iaload, 1) := by decide +kernel
theorem dX12_told_156 : decode cX12_told 156 = .ok (.ireturn, 1) := by decide +kernel
theorem dX12_told_157 : decode cX12_told 157 = .ok (.aload_n 0, 1) := by decide +kernel
theorem dX12_told_158 : decode cX12_told 158 = .ok (.invokevirtual 181, 3) := by decide +kernel
theorem dX12_told_161 : decode cX12_told 161 = .ok (.ireturn, 1) := by decide +kernel
theorem dX12_told_162 : decode cX12_told 162 = .ok (.aload_n 0, 1) := by decide +kernel
theorem dX12_told_163 : decode cX12_told 163 = .ok (.invokevirtual 184, 3) := by decide +kernel
theorem dX12_told_166 : decode cX12_told 166 = .ok (.ireturn, 1) := by decide +kernel
theorem dX12_told_167 : decode cX12_told 167 = .ok (.aload_n 0, 1) := by decide +kernel
theorem dX12_told_168 : decode cX12_told 168 = .ok (.getfield 16, 3) := by decide +kernel
theorem dX12_told_171 : decode cX12_told 171 = .ok (.bipush 19, 2) := by decide +kernel
theorem dX12_told_173 : decode cX12_told 173 = .ok (.iaload, 1) := by decide +kernel
theorem dX12_told_174 : decode cX12_told 174 = .ok (.ireturn, 1) := by decide +kernel
theorem dX12_told_175 : decode cX12_told 175 = .ok (.aload_n 0, 1) := by decide +kernel
theorem dX12_told_176 : decode cX12_told 176 = .ok (.getfield 152, 3) := by decide +kernel
theorem dX12_told_179 : decode cX12_told 179 = .ok (.ireturn, 1) := by decide +kernel
theorem dX12_told_180 : decode cX12_told 180 = .ok (.aload_n 0, 1) := by decide +kernel
theorem dX12_told_181 : decode cX12_told 181 = .ok (.getfield 155, 3) := by decide +kernel
theorem dX12_told_184 : decode cX12_told 184 = .ok (.ireturn, 1) := by decide +kernel
theorem dX12_told_185 : decode cX12_told 185 = .ok (.aload_n 0, 1) := by decide +kernel
theorem dX12_told_186 : decode cX12_told 186 = .ok (.getfield 158, 3) := by decide +kernel
theorem dX12_told_189 : decode cX12_told 189 = .ok (.ireturn, 1) := by decide +kernel
theorem dX12_told_190 : decode cX12_told 190 = .ok (.ldc 85, 2) := by decide +kernel
theorem dX12_told_192 : decode cX12_told 192 = .ok (.ireturn, 1) := by decide +kernel
theorem dX12_table_0 : decode cX12_table 0 = .ok (.aload_n 0, 1) := by decide +kernel
theorem dX12_table_1 : decode cX12_table 1 = .ok (.iload_n 1, 1) := by decide +kernel
theorem dX12_table_2 : decode cX12_table 2 = .ok (.invokevirtual 187, 3) := by decide +kernel
theorem dX12_table_5 : decode cX12_table 5 = .ok (.ifCond .ne 6, 3) := by decide +kernel
theorem dX12_table_8 : decode cX12_table 8 = .ok (.ldc 190, 2) := by decide +kernel
theorem dX12_table_10 : decode cX12_table 10 = .ok (.ireturn, 1) := by decide +kernel
theorem dX12_table_11 : decode cX12_table 11 = .ok (.iload_n 2, 1) := by decide +kernel
theorem dX12_table_12 : decode cX12_table 12 = .ok (.tableswitch 61 0 3 #[32, 39, 49, 55], 32) := by decide +kernel
theorem dX12_table_44 : decode cX12_table 44 = .ok (.aload_n 0, 1) := by decide +kernel
theorem dX12_table_45 : decode cX12_table 45 = .ok (.getfield 16, 3) := by decide +kernel
theorem dX12_table_48 : decode cX12_table 48 = .ok (.iload_n 1, 1) := by decide +kernel
theorem dX12_table_49 : decode cX12_table 49 = .ok (.iaload, 1) := by decide +kernel
theorem dX12_table_50 : decode cX12_table 50 = .ok (.ireturn, 1) := by decide +kernel
theorem dX12_table_51 : decode cX12_table 51 = .ok (.aload_n 0, 1) := by decide +kernel
theorem dX12_table_52 : decode cX12_table 52 = .ok (.getfield 16, 3) := by decide +kernel
theorem dX12_table_55 : decode cX12_table 55 = .ok (.bipush 9, 2) := by decide +kernel
theorem dX12_table_57 : decode cX12_table 57 = .ok (.iload_n 1, 1) := by decide +kernel
theorem dX12_table_58 : decode cX12_table 58 = .ok (.iadd, 1) := by decide +kernel
theorem dX12_table_59 : decode cX12_table 59 = .ok (.iaload, 1) := by decide +kernel
theorem dX12_table_60 : decode cX12_table 60 = .ok (.ireturn, 1) := by decide +kernel
theorem dX12_table_61 : decode cX12_table 61 = .ok (.aload_n 0, 1) := by decide +kernel
theorem dX12_table_62 : decode cX12_table 62 = .ok (.iload_n 1, 1) := by decide +kernel
theorem dX12_table_63 : decode cX12_table 63 = .ok (.invokevirtual 165, 3) := by decide +kernel
theorem dX12_table_66 : decode cX12_table 66 = .ok (.ireturn, 1) := by decide +kernel
theorem dX12_table_67 : decode cX12_table 67 = .ok (.aload_n 0, 1) := by decide +kernel
theorem dX12_table_68 : decode cX12_table 68 = .ok (.iload_n 1, 1) := by decide +kernel
theorem dX12_table_69 : decode cX12_table 69 = .ok (.invokevirtual 169, 3) := by decide +kernel
theorem dX12_table_72 : decode cX12_table 72 = .ok (.ireturn, 1) := by decide +kernel
theorem dX12_table_73 : decode cX12_table 73 = .ok (.ldc 85, 2) := by decide +kernel
theorem dX12_table_75 : decode cX12_table 75 = .ok (.ireturn, 1) := by decide +kernel
theorem dX12_way_0 : decode cX12_way 0 = .ok (.iload_n 1, 1) := by decide +kernel
theorem dX12_way_1 : decode cX12_way 1 = .ok (.i2l, 1) := by decide +kernel
theorem dX12_way_2 : decode cX12_way 2 = .ok (.lconst 0, 1) := by decide +kernel
theorem dX12_way_3 : decode cX12_way 3 = .ok (.aload_n 0, 1) := by decide +kernel
theorem dX12_way_4 : decode cX12_way 4 = .ok (.getfield 143, 3) := by decide +kernel
theorem dX12_way_7 : decode cX12_way 7 = .ok (.iconst 1, 1) := by decide +kernel
theorem dX12_way_8 : decode cX12_way 8 = .ok (.isub, 1) := by decide +kernel
theorem dX12_way_9 : decode cX12_way 9 = .ok (.i2l, 1) := by decide +kernel
theorem dX12_way_10 : decode cX12_way 10 = .ok (.invokestatic 79, 3) := by decide +kernel
theorem dX12_way_13 : decode cX12_way 13 = .ok (.ifCond .ne 6, 3) := by decide +kernel
theorem dX12_way_16 : decode cX12_way 16 = .ok (.ldc 190, 2) := by decide +kernel
theorem dX12_way_18 : decode cX12_way 18 = .ok (.ireturn, 1) := by decide +kernel
theorem dX12_way_19 : decode cX12_way 19 = .ok (.iload_n 2, 1) := by decide +kernel
theorem dX12_way_20 : decode cX12_way 20 = .ok (.tableswitch 54 0 2 #[28, 35, 42], 28) := by decide +kernel
theorem dX12_way_48 : decode cX12_way 48 = .ok (.aload_n 0, 1) := by decide +kernel
theorem dX12_way_49 : decode cX12_way 49 = .ok (.getfield 7, 3) := by decide +kernel
theorem dX12_way_52 : decode cX12_way 52 = .ok (.iload_n 1, 1) := by decide +kernel
theorem dX12_way_53 : decode cX12_way 53 = .ok (.iaload, 1) := by decide +kernel
theorem dX12_way_54 : decode cX12_way 54 = .ok (.ireturn, 1) := by decide +kernel
theorem dX12_way_55 : decode cX12_way 55 = .ok (.aload_n 0, 1) := by decide +kernel
theorem dX12_way_56 : decode cX12_way 56 = .ok (.getfield 13, 3) := by decide +kernel
theorem dX12_way_59 : decode cX12_way 59 = .ok (.iload_n 1, 1) := by decide +kernel
theorem dX12_way_60 : decode cX12_way 60 = .ok (.iaload, 1) := by decide +kernel
theorem dX12_way_61 : decode cX12_way 61 = .ok (.ireturn, 1) := by decide +kernel
theorem dX12_way_62 : decode cX12_way 62 = .ok (.aload_n 0, 1) := by decide +kernel
theorem dX12_way_63 : decode cX12_way 63 = .ok (.getfield 16, 3) := by decide +kernel
theorem dX12_way_66 : decode cX12_way 66 = .ok (.bipush 19, 2) := by decide +kernel
theorem dX12_way_68 : decode cX12_way 68 = .ok (.iaload, 1) := by decide +kernel
theorem dX12_way_69 : decode cX12_way 69 = .ok (.iload_n 1, 1) := by decide +kernel
theorem dX12_way_70 : decode cX12_way 70 = .ok (.ishr, 1) := by decide +kernel
theorem dX12_way_71 : decode cX12_way 71 = .ok (.iconst 1, 1) := by decide +kernel
theorem dX12_way_72 : decode cX12_way 72 = .ok (.iand, 1) := by decide +kernel
theorem dX12_way_73 : decode cX12_way 73 = .ok (.ireturn, 1) := by decide +kernel
theorem dX12_way_74 : decode cX12_way 74 = .ok (.ldc 85, 2) := by decide +kernel
theorem dX12_way_76 : decode cX12_way 76 = .ok (.ireturn, 1) := by decide +kernel
theorem dX12_remember_0 : decode cX12_remember 0 = .ok (.aload_n 0, 1) := by decide +kernel
theorem dX12_remember_1 : decode cX12_remember 1 = .ok (.getfield 158, 3) := by decide +kernel
theorem dX12_remember_4 : decode cX12_remember 4 = .ok (.bipush 20, 2) := by decide +kernel
theorem dX12_remember_6 : decode cX12_remember 6 = .ok (.if_icmp .ne 44, 3) := by decide +kernel
theorem dX12_remember_9 : decode cX12_remember 9 = .ok (.bipush 25, 2) := by decide +kernel
theorem dX12_remember_11 : decode cX12_remember 11 = .ok (.istore_n 1, 1) := by decide +kernel
theorem dX12_remember_12 : decode cX12_remember 12 = .ok (.iload_n 1, 1) := by decide +kernel
theorem dX12_remember_13 : decode cX12_remember 13 = .ok (.sipush 500, 3) := by decide +kernel
theorem dX12_remember_16 : decode cX12_remember 16 = .ok (.if_icmp .ge 24, 3) := by decide +kernel
theorem dX12_remember_19 : decode cX12_remember 19 = .ok (.aload_n 0, 1) := by decide +kernel
theorem dX12_remember_20 : decode cX12_remember 20 = .ok (.getfield 44, 3) := by decide +kernel
theorem dX12_remember_23 : decode cX12_remember 23 = .ok (.iload_n 1, 1) := by decide +kernel
theorem dX12_remember_24 : decode cX12_remember 24 = .ok (.bipush 25, 2) := by decide +kernel
theorem dX12_remember_26 : decode cX12_remember 26 = .ok (.isub, 1) := by decide +kernel
theorem dX12_remember_27 : decode cX12_remember 27 = .ok (.aload_n 0, 1) := by decide +kernel
theorem dX12_remember_28 : decode cX12_remember 28 = .ok (.getfield 44, 3) := by decide +kernel
theorem dX12_remember_31 : decode cX12_remember 31 = .ok (.iload_n 1, 1) := by decide +kernel
theorem dX12_remember_32 : decode cX12_remember 32 = .ok (.iaload, 1) := by decide +kernel
theorem dX12_remember_33 : decode cX12_remember 33 = .ok (.iastore, 1) := by decide +kernel
theorem dX12_remember_34 : decode cX12_remember 34 = .ok (.iinc 1 1, 3) := by decide +kernel
theorem dX12_remember_37 : decode cX12_remember 37 = .ok (.goto (-25), 3) := by decide +kernel
theorem dX12_remember_40 : decode cX12_remember 40 = .ok (.aload_n 0, 1) := by decide +kernel
theorem dX12_remember_41 : decode cX12_remember 41 = .ok (.dup, 1) := by decide +kernel
theorem dX12_remember_42 : decode cX12_remember 42 = .ok (.getfield 158, 3) := by decide +kernel
theorem dX12_remember_45 : decode cX12_remember 45 = .ok (.iconst 1, 1) := by decide +kernel
theorem dX12_remember_46 : decode cX12_remember 46 = .ok (.isub, 1) := by decide +kernel
theorem dX12_remember_47 : decode cX12_remember 47 = .ok (.putfield 158, 3) := by decide +kernel
theorem dX12_remember_50 : decode cX12_remember 50 = .ok (.iconst 0, 1) := by decide +kernel
theorem dX12_remember_51 : decode cX12_remember 51 = .ok (.istore_n 1, 1) := by decide +kernel
theorem dX12_remember_52 : decode cX12_remember 52 = .ok (.iload_n 1, 1) := by decide +kernel
theorem dX12_remember_53 : decode cX12_remember 53 = .ok (.bipush 25, 2) := by decide +kernel
theorem dX12_remember_55 : decode cX12_remember 55 = .ok (.if_icmp .ge 29, 3) := by decide +kernel
theorem dX12_remember_58 : decode cX12_remember 58 = .ok (.aload_n 0, 1) := by decide +kernel
theorem dX12_remember_59 : decode cX12_remember 59 = .ok (.getfield 44, 3) := by decide +kernel
theorem dX12_remember_62 : decode cX12_remember 62 = .ok (.bipush 25, 2) := by decide +kernel
theorem dX12_remember_64 : decode cX12_remember 64 = .ok (.aload_n 0, 1) := by decide +kernel
theorem dX12_remember_65 : decode cX12_remember 65 = .ok (.getfield 158, 3) := by decide +kernel
theorem dX12_remember_68 : decode cX12_remember 68 = .ok (.imul, 1) := by decide +kernel
theorem dX12_remember_69 : decode cX12_remember 69 = .ok (.iload_n 1, 1) := by decide +kernel
theorem dX12_remember_70 : decode cX12_remember 70 = .ok (.iadd, 1) := by decide +kernel
theorem dX12_remember_71 : decode cX12_remember 71 = .ok (.aload_n 0, 1) := by decide +kernel
theorem dX12_remember_72 : decode cX12_remember 72 = .ok (.getfield 16, 3) := by decide +kernel
theorem dX12_remember_75 : decode cX12_remember 75 = .ok (.iload_n 1, 1) := by decide +kernel
theorem dX12_remember_76 : decode cX12_remember 76 = .ok (.iaload, 1) := by decide +kernel
theorem dX12_remember_77 : decode cX12_remember 77 = .ok (.iastore, 1) := by decide +kernel
theorem dX12_remember_78 : decode cX12_remember 78 = .ok (.iinc 1 1, 3) := by decide +kernel
theorem dX12_remember_81 : decode cX12_remember 81 = .ok (.goto (-29), 3) := by decide +kernel
theorem dX12_remember_84 : decode cX12_remember 84 = .ok (.aload_n 0, 1) := by decide +kernel
theorem dX12_remember_85 : decode cX12_remember 85 = .ok (.dup, 1) := by decide +kernel
theorem dX12_remember_86 : decode cX12_remember 86 = .ok (.getfield 158, 3) := by decide +kernel
theorem dX12_remember_89 : decode cX12_remember 89 = .ok (.iconst 1, 1) := by decide +kernel
theorem dX12_remember_90 : decode cX12_remember 90 = .ok (.iadd, 1) := by decide +kernel
theorem dX12_remember_91 : decode cX12_remember 91 = .ok (.putfield 158, 3) := by decide +kernel
theorem dX12_remember_94 : decode cX12_remember 94 = .ok (.return_, 1) := by decide +kernel
theorem dX12_guest_0 : decode cX12_guest 0 = .ok (.aload_n 0, 1) := by decide +kernel
theorem dX12_guest_1 : decode cX12_guest 1 = .ok (.invokevirtual 175, 3) := by decide +kernel
theorem dX12_guest_4 : decode cX12_guest 4 = .ok (.aload_n 0, 1) := by decide +kernel
theorem dX12_guest_5 : decode cX12_guest 5 = .ok (.getfield 16, 3) := by decide +kernel
theorem dX12_guest_8 : decode cX12_guest 8 = .ok (.bipush 24, 2) := by decide +kernel
theorem dX12_guest_10 : decode cX12_guest 10 = .ok (.dup2, 1) := by decide +kernel
theorem dX12_guest_11 : decode cX12_guest 11 = .ok (.iaload, 1) := by decide +kernel
theorem dX12_guest_12 : decode cX12_guest 12 = .ok (.iconst 1, 1) := by decide +kernel
theorem dX12_guest_13 : decode cX12_guest 13 = .ok (.iadd, 1) := by decide +kernel
theorem dX12_guest_14 : decode cX12_guest 14 = .ok (.iastore, 1) := by decide +kernel
theorem dX12_guest_15 : decode cX12_guest 15 = .ok (.aload_n 0, 1) := by decide +kernel
theorem dX12_guest_16 : decode cX12_guest 16 = .ok (.getfield 41, 3) := by decide +kernel
theorem dX12_guest_19 : decode cX12_guest 19 = .ok (.iload_n 1, 1) := by decide +kernel
theorem dX12_guest_20 : decode cX12_guest 20 = .ok (.iaload, 1) := by decide +kernel
theorem dX12_guest_21 : decode cX12_guest 21 = .ok (.sipush 1000, 3) := by decide +kernel
theorem dX12_guest_24 : decode cX12_guest 24 = .ok (.if_icmp .ge 40, 3) := by decide +kernel
theorem dX12_guest_27 : decode cX12_guest 27 = .ok (.aload_n 0, 1) := by decide +kernel
theorem dX12_guest_28 : decode cX12_guest 28 = .ok (.getfield 41, 3) := by decide +kernel
theorem dX12_guest_31 : decode cX12_guest 31 = .ok (.iload_n 1, 1) := by decide +kernel
theorem dX12_guest_32 : decode cX12_guest 32 = .ok (.iaload, 1) := by decide +kernel
theorem dX12_guest_33 : decode cX12_guest 33 = .ok (.istore_n 2, 1) := by decide +kernel
theorem dX12_guest_34 : decode cX12_guest 34 = .ok (.aload_n 0, 1) := by decide +kernel
theorem dX12_guest_35 : decode cX12_guest 35 = .ok (.getfield 16, 3) := by decide +kernel
theorem dX12_guest_38 : decode cX12_guest 38 = .ok (.bipush 9, 2) := by decide +kernel
theorem dX12_guest_40 : decode cX12_guest 40 = .ok (.aload_n 0, 1) := by decide +kernel
theorem dX12_guest_41 : decode cX12_guest 41 = .ok (.iload_n 1, 1) := by decide +kernel
theorem dX12_guest_42 : decode cX12_guest 42 = .ok (.invokevirtual 191, 3) := by decide +kernel
theorem dX12_guest_45 : decode cX12_guest 45 = .ok (.iadd, 1) := by decide +kernel
theorem dX12_guest_46 : decode cX12_guest 46 = .ok (.dup2, 1) := by decide +kernel
theorem dX12_guest_47 : decode cX12_guest 47 = .ok (.iaload, 1) := by decide +kernel
theorem dX12_guest_48 : decode cX12_guest 48 = .ok (.iconst 1, 1) := by decide +kernel
theorem dX12_guest_49 : decode cX12_guest 49 = .ok (.iadd, 1) := by decide +kernel
theorem dX12_guest_50 : decode cX12_guest 50 = .ok (.iastore, 1) := by decide +kernel
theorem dX12_guest_51 : decode cX12_guest 51 = .ok (.aload_n 0, 1) := by decide +kernel
theorem dX12_guest_52 : decode cX12_guest 52 = .ok (.getfield 16, 3) := by decide +kernel
theorem dX12_guest_55 : decode cX12_guest 55 = .ok (.bipush 21, 2) := by decide +kernel
theorem dX12_guest_57 : decode cX12_guest 57 = .ok (.dup2, 1) := by decide +kernel
theorem dX12_guest_58 : decode cX12_guest 58 = .ok (.iaload, 1) := by decide +kernel
theorem dX12_guest_59 : decode cX12_guest 59 = .ok (.iload_n 2, 1) := by decide +kernel
theorem dX12_guest_60 : decode cX12_guest 60 = .ok (.iadd, 1) := by decide +kernel
theorem dX12_guest_61 : decode cX12_guest 61 = .ok (.iastore, 1) := by decide +kernel
theorem dX12_guest_62 : decode cX12_guest 62 = .ok (.iload_n 2, 1) := by decide +kernel
theorem dX12_guest_63 : decode cX12_guest 63 = .ok (.ireturn, 1) := by decide +kernel
theorem dX12_guest_64 : decode cX12_guest 64 = .ok (.aload_n 0, 1) := by decide +kernel
theorem dX12_guest_65 : decode cX12_guest 65 = .ok (.iload_n 1, 1) := by decide +kernel
theorem dX12_guest_66 : decode cX12_guest 66 = .ok (.invokevirtual 165, 3) := by decide +kernel
theorem dX12_guest_69 : decode cX12_guest 69 = .ok (.ifCond .le 71, 3) := by decide +kernel
theorem dX12_guest_72 : decode cX12_guest 72 = .ok (.aload_n 0, 1) := by decide +kernel
theorem dX12_guest_73 : decode cX12_guest 73 = .ok (.getfield 16, 3) := by decide +kernel
theorem dX12_guest_76 : decode cX12_guest 76 = .ok (.bipush 9, 2) := by decide +kernel
theorem dX12_guest_78 : decode cX12_guest 78 = .ok (.iload_n 1, 1) := by decide +kernel
theorem dX12_guest_79 : decode cX12_guest 79 = .ok (.iadd, 1) := by decide +kernel
theorem dX12_guest_80 : decode cX12_guest 80 = .ok (.dup2, 1) := by decide +kernel
theorem dX12_guest_81 : decode cX12_guest 81 = .ok (.iaload, 1) := by decide +kernel
theorem dX12_guest_82 : decode cX12_guest 82 = .ok (.iconst 1, 1) := by decide +kernel
theorem dX12_guest_83 : decode cX12_guest 83 = .ok (.iadd, 1) := by decide +kernel
theorem dX12_guest_84 : decode cX12_guest 84 = .ok (.iastore, 1) := by decide +kernel
theorem dX12_guest_85 : decode cX12_guest 85 = .ok (.aload_n 0, 1) := by decide +kernel
theorem dX12_guest_86 : decode cX12_guest 86 = .ok (.getfield 16, 3) := by decide +kernel
theorem dX12_guest_89 : decode cX12_guest 89 = .ok (.bipush 22, 2) := by decide +kernel
theorem dX12_guest_91 : decode cX12_guest 91 = .ok (.dup2, 1) := by decide +kernel
theorem dX12_guest_92 : decode cX12_guest 92 = .ok (.iaload, 1) := by decide +kernel
theorem dX12_guest_93 : decode cX12_guest 93 = .ok (.iconst 1, 1) := by decide +kernel
theorem dX12_guest_94 : decode cX12_guest 94 = .ok (.iadd, 1) := by decide +kernel
theorem dX12_guest_95 : decode cX12_guest 95 = .ok (.iastore, 1) := by decide +kernel
theorem dX12_guest_96 : decode cX12_guest 96 = .ok (.aload_n 0, 1) := by decide +kernel
theorem dX12_guest_97 : decode cX12_guest 97 = .ok (.getfield 16, 3) := by decide +kernel
theorem dX12_guest_100 : decode cX12_guest 100 = .ok (.bipush 23, 2) := by decide +kernel
theorem dX12_guest_102 : decode cX12_guest 102 = .ok (.aload_n 0, 1) := by decide +kernel
theorem dX12_guest_103 : decode cX12_guest 103 = .ok (.getfield 16, 3) := by decide +kernel
theorem dX12_guest_106 : decode cX12_guest 106 = .ok (.bipush 23, 2) := by decide +kernel
theorem dX12_guest_108 : decode cX12_guest 108 = .ok (.iaload, 1) := by decide +kernel
theorem dX12_guest_109 : decode cX12_guest 109 = .ok (.aload_n 0, 1) := by decide +kernel
theorem dX12_guest_110 : decode cX12_guest 110 = .ok (.getfield 140, 3) := by decide +kernel
theorem dX12_guest_113 : decode cX12_guest 113 = .ok (.iadd, 1) := by decide +kernel
theorem dX12_guest_114 : decode cX12_guest 114 = .ok (.ldc 194, 2) := by decide +kernel
theorem dX12_guest_116 : decode cX12_guest 116 = .ok (.if_icmp .ge 18, 3) := by decide +kernel
theorem dX12_guest_119 : decode cX12_guest 119 = .ok (.aload_n 0, 1) := by decide +kernel
theorem dX12_guest_120 : decode cX12_guest 120 = .ok (.getfield 16, 3) := by decide +kernel
theorem dX12_guest_123 : decode cX12_guest 123 = .ok (.bipush 23, 2) := by decide +kernel
theorem dX12_guest_125 : decode cX12_guest 125 = .ok (.iaload, 1) := by decide +kernel
theorem dX12_guest_126 : decode cX12_guest 126 = .ok (.aload_n 0, 1) := by decide +kernel
theorem dX12_guest_127 : decode cX12_guest 127 = .ok (.getfield 140, 3) := by decide +kernel
theorem dX12_guest_130 : decode cX12_guest 130 = .ok (.iadd, 1) := by decide +kernel
theorem dX12_guest_131 : decode cX12_guest 131 = .ok (.goto 5, 3) := by decide +kernel
theorem dX12_guest_134 : decode cX12_guest 134 = .ok (.ldc 194, 2) := by decide +kernel
theorem dX12_guest_136 : decode cX12_guest 136 = .ok (.iastore, 1) := by decide +kernel
theorem dX12_guest_137 : decode cX12_guest 137 = .ok (.bipush (-2), 2) := by decide +kernel
theorem dX12_guest_139 : decode cX12_guest 139 = .ok (.ireturn, 1) := by decide +kernel
theorem dX12_guest_140 : decode cX12_guest 140 = .ok (.aload_n 0, 1) := by decide +kernel
theorem dX12_guest_141 : decode cX12_guest 141 = .ok (.getfield 16, 3) := by decide +kernel
theorem dX12_guest_144 : decode cX12_guest 144 = .ok (.bipush 20, 2) := by decide +kernel
theorem dX12_guest_146 : decode cX12_guest 146 = .ok (.dup2, 1) := by decide +kernel
theorem dX12_guest_147 : decode cX12_guest 147 = .ok (.iaload, 1) := by decide +kernel
theorem dX12_guest_148 : decode cX12_guest 148 = .ok (.iconst 1, 1) := by decide +kernel
theorem dX12_guest_149 : decode cX12_guest 149 = .ok (.iadd, 1) := by decide +kernel
theorem dX12_guest_150 : decode cX12_guest 150 = .ok (.iastore, 1) := by decide +kernel
theorem dX12_guest_151 : decode cX12_guest 151 = .ok (.bipush (-3), 2) := by decide +kernel
theorem dX12_guest_153 : decode cX12_guest 153 = .ok (.ireturn, 1) := by decide +kernel
theorem dX12_come_0 : decode cX12_come 0 = .ok (.aload_n 0, 1) := by decide +kernel
theorem dX12_come_1 : decode cX12_come 1 = .ok (.iload_n 1, 1) := by decide +kernel
theorem dX12_come_2 : decode cX12_come 2 = .ok (.invokevirtual 187, 3) := by decide +kernel
theorem dX12_come_5 : decode cX12_come 5 = .ok (.ifCond .ne 6, 3) := by decide +kernel
theorem dX12_come_8 : decode cX12_come 8 = .ok (.ldc 190, 2) := by decide +kernel
theorem dX12_come_10 : decode cX12_come 10 = .ok (.ireturn, 1) := by decide +kernel
theorem dX12_come_11 : decode cX12_come 11 = .ok (.aload_n 0, 1) := by decide +kernel
theorem dX12_come_12 : decode cX12_come 12 = .ok (.getfield 16, 3) := by decide +kernel
theorem dX12_come_15 : decode cX12_come 15 = .ok (.bipush 24, 2) := by decide +kernel
theorem dX12_come_17 : decode cX12_come 17 = .ok (.iaload, 1) := by decide +kernel
theorem dX12_come_18 : decode cX12_come 18 = .ok (.sipush 9000, 3) := by decide +kernel
theorem dX12_come_21 : decode cX12_come 21 = .ok (.if_icmp .le 6, 3) := by decide +kernel
theorem dX12_come_24 : decode cX12_come 24 = .ok (.ldc 89, 2) := by decide +kernel
theorem dX12_come_26 : decode cX12_come 26 = .ok (.ireturn, 1) := by decide +kernel
theorem dX12_come_27 : decode cX12_come 27 = .ok (.aload_n 0, 1) := by decide +kernel
theorem dX12_come_28 : decode cX12_come 28 = .ok (.invokevirtual 195, 3) := by decide +kernel
theorem dX12_come_31 : decode cX12_come 31 = .ok (.aload_n 0, 1) := by decide +kernel
theorem dX12_come_32 : decode cX12_come 32 = .ok (.iload_n 1, 1) := by decide +kernel
theorem dX12_come_33 : decode cX12_come 33 = .ok (.invokevirtual 198, 3) := by decide +kernel
theorem dX12_come_36 : decode cX12_come 36 = .ok (.ireturn, 1) := by decide +kernel
theorem dX12_go_0 : decode cX12_go 0 = .ok (.aload_n 0, 1) := by decide +kernel
theorem dX12_go_1 : decode cX12_go 1 = .ok (.iload_n 1, 1) := by decide +kernel
theorem dX12_go_2 : decode cX12_go 2 = .ok (.invokevirtual 187, 3) := by decide +kernel
theorem dX12_go_5 : decode cX12_go 5 = .ok (.ifCond .ne 6, 3) := by decide +kernel
theorem dX12_go_8 : decode cX12_go 8 = .ok (.ldc 190, 2) := by decide +kernel
theorem dX12_go_10 : decode cX12_go 10 = .ok (.ireturn, 1) := by decide +kernel
theorem dX12_go_11 : decode cX12_go 11 = .ok (.aload_n 0, 1) := by decide +kernel
theorem dX12_go_12 : decode cX12_go 12 = .ok (.getfield 16, 3) := by decide +kernel
theorem dX12_go_15 : decode cX12_go 15 = .ok (.bipush 9, 2) := by decide +kernel
theorem dX12_go_17 : decode cX12_go 17 = .ok (.iload_n 1, 1) := by decide +kernel
theorem dX12_go_18 : decode cX12_go 18 = .ok (.iadd, 1) := by decide +kernel
theorem dX12_go_19 : decode cX12_go 19 = .ok (.iaload, 1) := by decide +kernel
theorem dX12_go_20 : decode cX12_go 20 = .ok (.ifCond .ne 6, 3) := by decide +kernel
theorem dX12_go_23 : decode cX12_go 23 = .ok (.ldc 201, 2) := by decide +kernel
theorem dX12_go_25 : decode cX12_go 25 = .ok (.ireturn, 1) := by decide +kernel
theorem dX12_go_26 : decode cX12_go 26 = .ok (.aload_n 0, 1) := by decide +kernel
theorem dX12_go_27 : decode cX12_go 27 = .ok (.invokevirtual 195, 3) := by decide +kernel
theorem dX12_go_30 : decode cX12_go 30 = .ok (.aload_n 0, 1) := by decide +kernel
theorem dX12_go_31 : decode cX12_go 31 = .ok (.getfield 16, 3) := by decide +kernel
theorem dX12_go_34 : decode cX12_go 34 = .ok (.bipush 9, 2) := by decide +kernel
theorem dX12_go_36 : decode cX12_go 36 = .ok (.iload_n 1, 1) := by decide +kernel
theorem dX12_go_37 : decode cX12_go 37 = .ok (.iadd, 1) := by decide +kernel
theorem dX12_go_38 : decode cX12_go 38 = .ok (.dup2, 1) := by decide +kernel
theorem dX12_go_39 : decode cX12_go 39 = .ok (.iaload, 1) := by decide +kernel
theorem dX12_go_40 : decode cX12_go 40 = .ok (.iconst 1, 1) := by decide +kernel
theorem dX12_go_41 : decode cX12_go 41 = .ok (.isub, 1) := by decide +kernel
theorem dX12_go_42 : decode cX12_go 42 = .ok (.iastore, 1) := by decide +kernel
theorem dX12_go_43 : decode cX12_go 43 = .ok (.aload_n 0, 1) := by decide +kernel
theorem dX12_go_44 : decode cX12_go 44 = .ok (.getfield 16, 3) := by decide +kernel
theorem dX12_go_47 : decode cX12_go 47 = .ok (.bipush 9, 2) := by decide +kernel
theorem dX12_go_49 : decode cX12_go 49 = .ok (.iload_n 1, 1) := by decide +kernel
theorem dX12_go_50 : decode cX12_go 50 = .ok (.iadd, 1) := by decide +kernel
theorem dX12_go_51 : decode cX12_go 51 = .ok (.iaload, 1) := by decide +kernel
theorem dX12_go_52 : decode cX12_go 52 = .ok (.ireturn, 1) := by decide +kernel
theorem dX12_build_0 : decode cX12_build 0 = .ok (.aload_n 0, 1) := by decide +kernel
theorem dX12_build_1 : decode cX12_build 1 = .ok (.iload_n 1, 1) := by decide +kernel
theorem dX12_build_2 : decode cX12_build 2 = .ok (.invokevirtual 187, 3) := by decide +kernel
theorem dX12_build_5 : decode cX12_build 5 = .ok (.ifCond .ne 6, 3) := by decide +kernel
theorem dX12_build_8 : decode cX12_build 8 = .ok (.ldc 190, 2) := by decide +kernel
theorem dX12_build_10 : decode cX12_build 10 = .ok (.ireturn, 1) := by decide +kernel
theorem dX12_build_11 : decode cX12_build 11 = .ok (.aload_n 0, 1) := by decide +kernel
theorem dX12_build_12 : decode cX12_build 12 = .ok (.getfield 16, 3) := by decide +kernel
theorem dX12_build_15 : decode cX12_build 15 = .ok (.bipush 18, 2) := by decide +kernel
theorem dX12_build_17 : decode cX12_build 17 = .ok (.iaload, 1) := by decide +kernel
theorem dX12_build_18 : decode cX12_build 18 = .ok (.ifCond .eq 14, 3) := by decide +kernel
theorem dX12_build_21 : decode cX12_build 21 = .ok (.aload_n 0, 1) := by decide +kernel
theorem dX12_build_22 : decode cX12_build 22 = .ok (.getfield 16, 3) := by decide +kernel
theorem dX12_build_25 : decode cX12_build 25 = .ok (.iload_n 1, 1) := by decide +kernel
theorem dX12_build_26 : decode cX12_build 26 = .ok (.iaload, 1) := by decide +kernel
theorem dX12_build_27 : decode cX12_build 27 = .ok (.bipush 20, 2) := by decide +kernel
theorem dX12_build_29 : decode cX12_build 29 = .ok (.if_icmp .ne 6, 3) := by decide +kernel
theorem dX12_build_32 : decode cX12_build 32 = .ok (.ldc 201, 2) := by decide +kernel
theorem dX12_build_34 : decode cX12_build 34 = .ok (.ireturn, 1) := by decide +kernel
theorem dX12_build_35 : decode cX12_build 35 = .ok (.aload_n 0, 1) := by decide +kernel
theorem dX12_build_36 : decode cX12_build 36 = .ok (.invokevirtual 195, 3) := by decide +kernel
theorem dX12_build_39 : decode cX12_build 39 = .ok (.aload_n 0, 1) := by decide +kernel
theorem dX12_build_40 : decode cX12_build 40 = .ok (.getfield 16, 3) := by decide +kernel
theorem dX12_build_43 : decode cX12_build 43 = .ok (.bipush 18, 2) := by decide +kernel
theorem dX12_build_45 : decode cX12_build 45 = .ok (.dup2, 1) := by decide +kernel
theorem dX12_build_46 : decode cX12_build 46 = .ok (.iaload, 1) := by decide +kernel
theorem dX12_build_47 : decode cX12_build 47 = .ok (.iconst 1, 1) := by decide +kernel
theorem dX12_build_48 : decode cX12_build 48 = .ok (.isub, 1) := by decide +kernel
theorem dX12_build_49 : decode cX12_build 49 = .ok (.iastore, 1) := by decide +kernel
theorem dX12_build_50 : decode cX12_build 50 = .ok (.aload_n 0, 1) := by decide +kernel
theorem dX12_build_51 : decode cX12_build 51 = .ok (.getfield 16, 3) := by decide +kernel
theorem dX12_build_54 : decode cX12_build 54 = .ok (.iload_n 1, 1) := by decide +kernel
theorem dX12_build_55 : decode cX12_build 55 = .ok (.dup2, 1) := by decide +kernel
theorem dX12_build_56 : decode cX12_build 56 = .ok (.iaload, 1) := by decide +kernel
theorem dX12_build_57 : decode cX12_build 57 = .ok (.iconst 1, 1) := by decide +kernel
theorem dX12_build_58 : decode cX12_build 58 = .ok (.iadd, 1) := by decide +kernel
theorem dX12_build_59 : decode cX12_build 59 = .ok (.iastore, 1) := by decide +kernel
theorem dX12_build_60 : decode cX12_build 60 = .ok (.aload_n 0, 1) := by decide +kernel
theorem dX12_build_61 : decode cX12_build 61 = .ok (.getfield 16, 3) := by decide +kernel
theorem dX12_build_64 : decode cX12_build 64 = .ok (.iload_n 1, 1) := by decide +kernel
theorem dX12_build_65 : decode cX12_build 65 = .ok (.iaload, 1) := by decide +kernel
theorem dX12_build_66 : decode cX12_build 66 = .ok (.ireturn, 1) := by decide +kernel
theorem dX12_breakOne_0 : decode cX12_breakOne 0 = .ok (.aload_n 0, 1) := by decide +kernel
theorem dX12_breakOne_1 : decode cX12_breakOne 1 = .ok (.iload_n 1, 1) := by decide +kernel
theorem dX12_breakOne_2 : decode cX12_breakOne 2 = .ok (.invokevirtual 187, 3) := by decide +kernel
theorem dX12_breakOne_5 : decode cX12_breakOne 5 = .ok (.ifCond .ne 6, 3) := by decide +kernel
theorem dX12_breakOne_8 : decode cX12_breakOne 8 = .ok (.ldc 190, 2) := by decide +kernel
theorem dX12_breakOne_10 : decode cX12_breakOne 10 = .ok (.ireturn, 1) := by decide +kernel
theorem dX12_breakOne_11 : decode cX12_breakOne 11 = .ok (.aload_n 0, 1) := by decide +kernel
theorem dX12_breakOne_12 : decode cX12_breakOne 12 = .ok (.iload_n 1, 1) := by decide +kernel
theorem dX12_breakOne_13 : decode cX12_breakOne 13 = .ok (.invokevirtual 165, 3) := by decide +kernel
theorem dX12_breakOne_16 : decode cX12_breakOne 16 = .ok (.iconst 1, 1) := by decide +kernel
theorem dX12_breakOne_17 : decode cX12_breakOne 17 = .ok (.if_icmp .ge 6, 3) := by decide +kernel
theorem dX12_breakOne_20 : decode cX12_breakOne 20 = .ok (.ldc 201, 2) := by decide +kernel
theorem dX12_breakOne_22 : decode cX12_breakOne 22 = .ok (.ireturn, 1) := by decide +kernel
theorem dX12_breakOne_23 : decode cX12_breakOne 23 = .ok (.aload_n 0, 1) := by decide +kernel
theorem dX12_breakOne_24 : decode cX12_breakOne 24 = .ok (.invokevirtual 195, 3) := by decide +kernel
theorem dX12_breakOne_27 : decode cX12_breakOne 27 = .ok (.aload_n 0, 1) := by decide +kernel
theorem dX12_breakOne_28 : decode cX12_breakOne 28 = .ok (.getfield 16, 3) := by decide +kernel
theorem dX12_breakOne_31 : decode cX12_breakOne 31 = .ok (.iload_n 1, 1) := by decide +kernel
theorem dX12_breakOne_32 : decode cX12_breakOne 32 = .ok (.dup2, 1) := by decide +kernel
theorem dX12_breakOne_33 : decode cX12_breakOne 33 = .ok (.iaload, 1) := by decide +kernel
theorem dX12_breakOne_34 : decode cX12_breakOne 34 = .ok (.iconst 1, 1) := by decide +kernel
theorem dX12_breakOne_35 : decode cX12_breakOne 35 = .ok (.isub, 1) := by decide +kernel
theorem dX12_breakOne_36 : decode cX12_breakOne 36 = .ok (.iastore, 1) := by decide +kernel
theorem dX12_breakOne_37 : decode cX12_breakOne 37 = .ok (.aload_n 0, 1) := by decide +kernel
theorem dX12_breakOne_38 : decode cX12_breakOne 38 = .ok (.getfield 16, 3) := by decide +kernel
theorem dX12_breakOne_41 : decode cX12_breakOne 41 = .ok (.iload_n 1, 1) := by decide +kernel
