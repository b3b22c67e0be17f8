-- the decode rows as printed for this claim (a starting text)
theorem dX0_init_0 : decode cX0_init 0 = .ok (.aload_n 0, 1) := by decide +kernel
theorem dX0_init_1 : decode cX0_init 1 = .ok (.invokespecial 3, 3) := by decide +kernel
theorem dX0_init_4 : decode cX0_init 4 = .ok (.aload_n 0, 1) := by decide +kernel
theorem dX0_init_5 : decode cX0_init 5 = .ok (.new 9, 3) := by decide +kernel
theorem dX0_init_8 : decode cX0_init 8 = .ok (.dup, 1) := by decide +kernel
theorem dX0_init_9 : decode cX0_init 9 = .ok (.invokespecial 11, 3) := by decide +kernel
theorem dX0_init_12 : decode cX0_init 12 = .ok (.putfield 12, 3) := by decide +kernel
theorem dX0_init_15 : decode cX0_init 15 = .ok (.return_, 1) := by decide +kernel
theorem dX0_guestComes_0 : decode cX0_guestComes 0 = .ok (.aload_n 0, 1) := by decide +kernel
theorem dX0_guestComes_1 : decode cX0_guestComes 1 = .ok (.getfield 12, 3) := by decide +kernel
theorem dX0_guestComes_4 : decode cX0_guestComes 4 = .ok (.aload_n 1, 1) := by decide +kernel
theorem dX0_guestComes_5 : decode cX0_guestComes 5 = .ok (.aload_n 2, 1) := by decide +kernel
theorem dX0_guestComes_6 : decode cX0_guestComes 6 = .ok (.invokevirtual 18, 3) := by decide +kernel
theorem dX0_guestComes_9 : decode cX0_guestComes 9 = .ok (.aload_n 2, 1) := by decide +kernel
theorem dX0_guestComes_10 : decode cX0_guestComes 10 = .ok (.dup, 1) := by decide +kernel
theorem dX0_guestComes_11 : decode cX0_guestComes 11 = .ok (.getfield 22, 3) := by decide +kernel
theorem dX0_guestComes_14 : decode cX0_guestComes 14 = .ok (.iconst 1, 1) := by decide +kernel
theorem dX0_guestComes_15 : decode cX0_guestComes 15 = .ok (.iadd, 1) := by decide +kernel
theorem dX0_guestComes_16 : decode cX0_guestComes 16 = .ok (.putfield 22, 3) := by decide +kernel
theorem dX0_guestComes_19 : decode cX0_guestComes 19 = .ok (.aload_n 0, 1) := by decide +kernel
theorem dX0_guestComes_20 : decode cX0_guestComes 20 = .ok (.getfield 12, 3) := by decide +kernel
theorem dX0_guestComes_23 : decode cX0_guestComes 23 = .ok (.iload_n 3, 1) := by decide +kernel
theorem dX0_guestComes_24 : decode cX0_guestComes 24 = .ok (.invokevirtual 28, 3) := by decide +kernel
theorem dX0_guestComes_27 : decode cX0_guestComes 27 = .ok (.istore 4, 2) := by decide +kernel
theorem dX0_guestComes_29 : decode cX0_guestComes 29 = .ok (.aload_n 0, 1) := by decide +kernel
theorem dX0_guestComes_30 : decode cX0_guestComes 30 = .ok (.getfield 12, 3) := by decide +kernel
theorem dX0_guestComes_33 : decode cX0_guestComes 33 = .ok (.iload_n 3, 1) := by decide +kernel
theorem dX0_guestComes_34 : decode cX0_guestComes 34 = .ok (.iload 4, 2) := by decide +kernel
theorem dX0_guestComes_36 : decode cX0_guestComes 36 = .ok (.invokevirtual 32, 3) := by decide +kernel
theorem dX0_guestComes_39 : decode cX0_guestComes 39 = .ok (.istore 5, 2) := by decide +kernel
theorem dX0_guestComes_41 : decode cX0_guestComes 41 = .ok (.aload_n 1, 1) := by decide +kernel
theorem dX0_guestComes_42 : decode cX0_guestComes 42 = .ok (.iload 5, 2) := by decide +kernel
theorem dX0_guestComes_44 : decode cX0_guestComes 44 = .ok (.invokevirtual 36, 3) := by decide +kernel
theorem dX0_guestComes_47 : decode cX0_guestComes 47 = .ok (.ifCond .ne 11, 3) := by decide +kernel
theorem dX0_guestComes_50 : decode cX0_guestComes 50 = .ok (.aload_n 0, 1) := by decide +kernel
theorem dX0_guestComes_51 : decode cX0_guestComes 51 = .ok (.aload_n 1, 1) := by decide +kernel
theorem dX0_guestComes_52 : decode cX0_guestComes 52 = .ok (.aload_n 2, 1) := by decide +kernel
theorem dX0_guestComes_53 : decode cX0_guestComes 53 = .ok (.iload_n 3, 1) := by decide +kernel
theorem dX0_guestComes_54 : decode cX0_guestComes 54 = .ok (.invokevirtual 42, 3) := by decide +kernel
theorem dX0_guestComes_57 : decode cX0_guestComes 57 = .ok (.ireturn, 1) := by decide +kernel
theorem dX0_guestComes_58 : decode cX0_guestComes 58 = .ok (.aload_n 2, 1) := by decide +kernel
theorem dX0_guestComes_59 : decode cX0_guestComes 59 = .ok (.getfield 46, 3) := by decide +kernel
theorem dX0_guestComes_62 : decode cX0_guestComes 62 = .ok (.iload 5, 2) := by decide +kernel
theorem dX0_guestComes_64 : decode cX0_guestComes 64 = .ok (.dup2, 1) := by decide +kernel
theorem dX0_guestComes_65 : decode cX0_guestComes 65 = .ok (.iaload, 1) := by decide +kernel
theorem dX0_guestComes_66 : decode cX0_guestComes 66 = .ok (.iconst 1, 1) := by decide +kernel
theorem dX0_guestComes_67 : decode cX0_guestComes 67 = .ok (.iadd, 1) := by decide +kernel
theorem dX0_guestComes_68 : decode cX0_guestComes 68 = .ok (.iastore, 1) := by decide +kernel
theorem dX0_guestComes_69 : decode cX0_guestComes 69 = .ok (.aload_n 2, 1) := by decide +kernel
theorem dX0_guestComes_70 : decode cX0_guestComes 70 = .ok (.dup, 1) := by decide +kernel
theorem dX0_guestComes_71 : decode cX0_guestComes 71 = .ok (.getfield 50, 3) := by decide +kernel
theorem dX0_guestComes_74 : decode cX0_guestComes 74 = .ok (.iload 4, 2) := by decide +kernel
theorem dX0_guestComes_76 : decode cX0_guestComes 76 = .ok (.iadd, 1) := by decide +kernel
theorem dX0_guestComes_77 : decode cX0_guestComes 77 = .ok (.putfield 50, 3) := by decide +kernel
theorem dX0_guestComes_80 : decode cX0_guestComes 80 = .ok (.iload 4, 2) := by decide +kernel
theorem dX0_guestComes_82 : decode cX0_guestComes 82 = .ok (.ireturn, 1) := by decide +kernel
theorem dX0_comesWithoutChain_0 : decode cX0_comesWithoutChain 0 = .ok (.aload_n 2, 1) := by decide +kernel
theorem dX0_comesWithoutChain_1 : decode cX0_comesWithoutChain 1 = .ok (.iload_n 3, 1) := by decide +kernel
theorem dX0_comesWithoutChain_2 : decode cX0_comesWithoutChain 2 = .ok (.invokevirtual 53, 3) := by decide +kernel
theorem dX0_comesWithoutChain_5 : decode cX0_comesWithoutChain 5 = .ok (.iconst 1, 1) := by decide +kernel
theorem dX0_comesWithoutChain_6 : decode cX0_comesWithoutChain 6 = .ok (.if_icmp .ge 16, 3) := by decide +kernel
theorem dX0_comesWithoutChain_9 : decode cX0_comesWithoutChain 9 = .ok (.aload_n 2, 1) := by decide +kernel
theorem dX0_comesWithoutChain_10 : decode cX0_comesWithoutChain 10 = .ok (.dup, 1) := by decide +kernel
theorem dX0_comesWithoutChain_11 : decode cX0_comesWithoutChain 11 = .ok (.getfield 56, 3) := by decide +kernel
theorem dX0_comesWithoutChain_14 : decode cX0_comesWithoutChain 14 = .ok (.iconst 1, 1) := by decide +kernel
theorem dX0_comesWithoutChain_15 : decode cX0_comesWithoutChain 15 = .ok (.iadd, 1) := by decide +kernel
theorem dX0_comesWithoutChain_16 : decode cX0_comesWithoutChain 16 = .ok (.putfield 56, 3) := by decide +kernel
theorem dX0_comesWithoutChain_19 : decode cX0_comesWithoutChain 19 = .ok (.bipush (-3), 2) := by decide +kernel
theorem dX0_comesWithoutChain_21 : decode cX0_comesWithoutChain 21 = .ok (.ireturn, 1) := by decide +kernel
theorem dX0_comesWithoutChain_22 : decode cX0_comesWithoutChain 22 = .ok (.aload_n 2, 1) := by decide +kernel
theorem dX0_comesWithoutChain_23 : decode cX0_comesWithoutChain 23 = .ok (.getfield 46, 3) := by decide +kernel
theorem dX0_comesWithoutChain_26 : decode cX0_comesWithoutChain 26 = .ok (.iload_n 3, 1) := by decide +kernel
theorem dX0_comesWithoutChain_27 : decode cX0_comesWithoutChain 27 = .ok (.dup2, 1) := by decide +kernel
theorem dX0_comesWithoutChain_28 : decode cX0_comesWithoutChain 28 = .ok (.iaload, 1) := by decide +kernel
theorem dX0_comesWithoutChain_29 : decode cX0_comesWithoutChain 29 = .ok (.iconst 1, 1) := by decide +kernel
theorem dX0_comesWithoutChain_30 : decode cX0_comesWithoutChain 30 = .ok (.iadd, 1) := by decide +kernel
theorem dX0_comesWithoutChain_31 : decode cX0_comesWithoutChain 31 = .ok (.iastore, 1) := by decide +kernel
theorem dX0_comesWithoutChain_32 : decode cX0_comesWithoutChain 32 = .ok (.aload_n 2, 1) := by decide +kernel
theorem dX0_comesWithoutChain_33 : decode cX0_comesWithoutChain 33 = .ok (.dup, 1) := by decide +kernel
theorem dX0_comesWithoutChain_34 : decode cX0_comesWithoutChain 34 = .ok (.getfield 59, 3) := by decide +kernel
theorem dX0_comesWithoutChain_37 : decode cX0_comesWithoutChain 37 = .ok (.iconst 1, 1) := by decide +kernel
theorem dX0_comesWithoutChain_38 : decode cX0_comesWithoutChain 38 = .ok (.iadd, 1) := by decide +kernel
theorem dX0_comesWithoutChain_39 : decode cX0_comesWithoutChain 39 = .ok (.putfield 59, 3) := by decide +kernel
theorem dX0_comesWithoutChain_42 : decode cX0_comesWithoutChain 42 = .ok (.aload_n 2, 1) := by decide +kernel
theorem dX0_comesWithoutChain_43 : decode cX0_comesWithoutChain 43 = .ok (.ldc 62, 2) := by decide +kernel
theorem dX0_comesWithoutChain_45 : decode cX0_comesWithoutChain 45 = .ok (.aload_n 2, 1) := by decide +kernel
theorem dX0_comesWithoutChain_46 : decode cX0_comesWithoutChain 46 = .ok (.getfield 63, 3) := by decide +kernel
theorem dX0_comesWithoutChain_49 : decode cX0_comesWithoutChain 49 = .ok (.aload_n 1, 1) := by decide +kernel
theorem dX0_comesWithoutChain_50 : decode cX0_comesWithoutChain 50 = .ok (.getfield 66, 3) := by decide +kernel
theorem dX0_comesWithoutChain_53 : decode cX0_comesWithoutChain 53 = .ok (.iadd, 1) := by decide +kernel
theorem dX0_comesWithoutChain_54 : decode cX0_comesWithoutChain 54 = .ok (.invokestatic 69, 3) := by decide +kernel
theorem dX0_comesWithoutChain_57 : decode cX0_comesWithoutChain 57 = .ok (.putfield 63, 3) := by decide +kernel
theorem dX0_comesWithoutChain_60 : decode cX0_comesWithoutChain 60 = .ok (.bipush (-2), 2) := by decide +kernel
theorem dX0_comesWithoutChain_62 : decode cX0_comesWithoutChain 62 = .ok (.ireturn, 1) := by decide +kernel
theorem dX0_drifts_0 : decode cX0_drifts 0 = .ok (.aload_n 1, 1) := by decide +kernel
theorem dX0_drifts_1 : decode cX0_drifts 1 = .ok (.getfield 74, 3) := by decide +kernel
theorem dX0_drifts_4 : decode cX0_drifts 4 = .ok (.ifCond .gt 4, 3) := by decide +kernel
theorem dX0_drifts_7 : decode cX0_drifts 7 = .ok (.return_, 1) := by decide +kernel
theorem dX0_drifts_8 : decode cX0_drifts 8 = .ok (.iconst 0, 1) := by decide +kernel
theorem dX0_drifts_9 : decode cX0_drifts 9 = .ok (.istore 5, 2) := by decide +kernel
theorem dX0_drifts_11 : decode cX0_drifts 11 = .ok (.iload 5, 2) := by decide +kernel
theorem dX0_drifts_13 : decode cX0_drifts 13 = .ok (.iload 4, 2) := by decide +kernel
theorem dX0_drifts_15 : decode cX0_drifts 15 = .ok (.if_icmp .ge 69, 3) := by decide +kernel
theorem dX0_drifts_18 : decode cX0_drifts 18 = .ok (.aload_n 3, 1) := by decide +kernel
theorem dX0_drifts_19 : decode cX0_drifts 19 = .ok (.aload_n 1, 1) := by decide +kernel
theorem dX0_drifts_20 : decode cX0_drifts 20 = .ok (.getfield 74, 3) := by decide +kernel
theorem dX0_drifts_23 : decode cX0_drifts 23 = .ok (.invokevirtual 77, 3) := by decide +kernel
theorem dX0_drifts_26 : decode cX0_drifts 26 = .ok (.istore 6, 2) := by decide +kernel
theorem dX0_drifts_28 : decode cX0_drifts 28 = .ok (.aload_n 3, 1) := by decide +kernel
theorem dX0_drifts_29 : decode cX0_drifts 29 = .ok (.iconst 3, 1) := by decide +kernel
theorem dX0_drifts_30 : decode cX0_drifts 30 = .ok (.invokevirtual 77, 3) := by decide +kernel
theorem dX0_drifts_33 : decode cX0_drifts 33 = .ok (.ifCond .eq 15, 3) := by decide +kernel
theorem dX0_drifts_36 : decode cX0_drifts 36 = .ok (.aload_n 0, 1) := by decide +kernel
theorem dX0_drifts_37 : decode cX0_drifts 37 = .ok (.aload_n 1, 1) := by decide +kernel
theorem dX0_drifts_38 : decode cX0_drifts 38 = .ok (.aload_n 2, 1) := by decide +kernel
theorem dX0_drifts_39 : decode cX0_drifts 39 = .ok (.iload 6, 2) := by decide +kernel
theorem dX0_drifts_41 : decode cX0_drifts 41 = .ok (.invokevirtual 82, 3) := by decide +kernel
theorem dX0_drifts_44 : decode cX0_drifts 44 = .ok (.pop, 1) := by decide +kernel
theorem dX0_drifts_45 : decode cX0_drifts 45 = .ok (.goto 33, 3) := by decide +kernel
theorem dX0_drifts_48 : decode cX0_drifts 48 = .ok (.aload_n 1, 1) := by decide +kernel
theorem dX0_drifts_49 : decode cX0_drifts 49 = .ok (.iload 6, 2) := by decide +kernel
theorem dX0_drifts_51 : decode cX0_drifts 51 = .ok (.invokevirtual 36, 3) := by decide +kernel
theorem dX0_drifts_54 : decode cX0_drifts 54 = .ok (.ifCond .eq 24, 3) := by decide +kernel
theorem dX0_drifts_57 : decode cX0_drifts 57 = .ok (.aload_n 2, 1) := by decide +kernel
theorem dX0_drifts_58 : decode cX0_drifts 58 = .ok (.getfield 46, 3) := by decide +kernel
theorem dX0_drifts_61 : decode cX0_drifts 61 = .ok (.iload 6, 2) := by decide +kernel
theorem dX0_drifts_63 : decode cX0_drifts 63 = .ok (.iaload, 1) := by decide +kernel
theorem dX0_drifts_64 : decode cX0_drifts 64 = .ok (.ifCond .le 14, 3) := by decide +kernel
theorem dX0_drifts_67 : decode cX0_drifts 67 = .ok (.aload_n 2, 1) := by decide +kernel
theorem dX0_drifts_68 : decode cX0_drifts 68 = .ok (.getfield 46, 3) := by decide +kernel
theorem dX0_drifts_71 : decode cX0_drifts 71 = .ok (.iload 6, 2) := by decide +kernel
theorem dX0_drifts_73 : decode cX0_drifts 73 = .ok (.dup2, 1) := by decide +kernel
theorem dX0_drifts_74 : decode cX0_drifts 74 = .ok (.iaload, 1) := by decide +kernel
theorem dX0_drifts_75 : decode cX0_drifts 75 = .ok (.iconst 1, 1) := by decide +kernel
theorem dX0_drifts_76 : decode cX0_drifts 76 = .ok (.isub, 1) := by decide +kernel
theorem dX0_drifts_77 : decode cX0_drifts 77 = .ok (.iastore, 1) := by decide +kernel
theorem dX0_drifts_78 : decode cX0_drifts 78 = .ok (.iinc 5 1, 3) := by decide +kernel
theorem dX0_drifts_81 : decode cX0_drifts 81 = .ok (.goto (-70), 3) := by decide +kernel
theorem dX0_drifts_84 : decode cX0_drifts 84 = .ok (.return_, 1) := by decide +kernel
theorem dX1_init_0 : decode cX1_init 0 = .ok (.aload_n 0, 1) := by decide +kernel
theorem dX1_init_1 : decode cX1_init 1 = .ok (.invokespecial 3, 3) := by decide +kernel
theorem dX1_init_4 : decode cX1_init 4 = .ok (.aload_n 0, 1) := by decide +kernel
theorem dX1_init_5 : decode cX1_init 5 = .ok (.bipush 15, 2) := by decide +kernel
theorem dX1_init_7 : decode cX1_init 7 = .ok (.newarray .int, 2) := by decide +kernel
theorem dX1_init_9 : decode cX1_init 9 = .ok (.putfield 9, 3) := by decide +kernel
theorem dX1_init_12 : decode cX1_init 12 = .ok (.aload_n 0, 1) := by decide +kernel
theorem dX1_init_13 : decode cX1_init 13 = .ok (.bipush 15, 2) := by decide +kernel
theorem dX1_init_15 : decode cX1_init 15 = .ok (.newarray .int, 2) := by decide +kernel
theorem dX1_init_17 : decode cX1_init 17 = .ok (.putfield 15, 3) := by decide +kernel
theorem dX1_init_20 : decode cX1_init 20 = .ok (.return_, 1) := by decide +kernel
theorem dX1_forget_0 : decode cX1_forget 0 = .ok (.aload_n 0, 1) := by decide +kernel
theorem dX1_forget_1 : decode cX1_forget 1 = .ok (.iconst 0, 1) := by decide +kernel
theorem dX1_forget_2 : decode cX1_forget 2 = .ok (.putfield 18, 3) := by decide +kernel
theorem dX1_forget_5 : decode cX1_forget 5 = .ok (.return_, 1) := by decide +kernel
theorem dX1_add_0 : decode cX1_add 0 = .ok (.aload_n 0, 1) := by decide +kernel
theorem dX1_add_1 : decode cX1_add 1 = .ok (.getfield 18, 3) := by decide +kernel
theorem dX1_add_4 : decode cX1_add 4 = .ok (.ifCond .lt 12, 3) := by decide +kernel
theorem dX1_add_7 : decode cX1_add 7 = .ok (.aload_n 0, 1) := by decide +kernel
theorem dX1_add_8 : decode cX1_add 8 = .ok (.getfield 18, 3) := by decide +kernel
theorem dX1_add_11 : decode cX1_add 11 = .ok (.bipush 15, 2) := by decide +kernel
theorem dX1_add_13 : decode cX1_add 13 = .ok (.if_icmp .lt 5, 3) := by decide +kernel
theorem dX1_add_16 : decode cX1_add 16 = .ok (.iconst 0, 1) := by decide +kernel
theorem dX1_add_17 : decode cX1_add 17 = .ok (.ireturn, 1) := by decide +kernel
theorem dX1_add_18 : decode cX1_add 18 = .ok (.aload_n 0, 1) := by decide +kernel
theorem dX1_add_19 : decode cX1_add 19 = .ok (.getfield 9, 3) := by decide +kernel
theorem dX1_add_22 : decode cX1_add 22 = .ok (.aload_n 0, 1) := by decide +kernel
theorem dX1_add_23 : decode cX1_add 23 = .ok (.getfield 18, 3) := by decide +kernel
theorem dX1_add_26 : decode cX1_add 26 = .ok (.iload_n 1, 1) := by decide +kernel
theorem dX1_add_27 : decode cX1_add 27 = .ok (.iastore, 1) := by decide +kernel
theorem dX1_add_28 : decode cX1_add 28 = .ok (.aload_n 0, 1) := by decide +kernel
theorem dX1_add_29 : decode cX1_add 29 = .ok (.getfield 15, 3) := by decide +kernel
theorem dX1_add_32 : decode cX1_add 32 = .ok (.aload_n 0, 1) := by decide +kernel
theorem dX1_add_33 : decode cX1_add 33 = .ok (.getfield 18, 3) := by decide +kernel
theorem dX1_add_36 : decode cX1_add 36 = .ok (.iload_n 2, 1) := by decide +kernel
theorem dX1_add_37 : decode cX1_add 37 = .ok (.iastore, 1) := by decide +kernel
theorem dX1_add_38 : decode cX1_add 38 = .ok (.aload_n 0, 1) := by decide +kernel
theorem dX1_add_39 : decode cX1_add 39 = .ok (.dup, 1) := by decide +kernel
theorem dX1_add_40 : decode cX1_add 40 = .ok (.getfield 18, 3) := by decide +kernel
theorem dX1_add_43 : decode cX1_add 43 = .ok (.iconst 1, 1) := by decide +kernel
theorem dX1_add_44 : decode cX1_add 44 = .ok (.iadd, 1) := by decide +kernel
theorem dX1_add_45 : decode cX1_add 45 = .ok (.putfield 18, 3) := by decide +kernel
theorem dX1_add_48 : decode cX1_add 48 = .ok (.iconst 1, 1) := by decide +kernel
theorem dX1_add_49 : decode cX1_add 49 = .ok (.ireturn, 1) := by decide +kernel
theorem dX1_firstWrong_0 : decode cX1_firstWrong 0 = .ok (.iconst 0, 1) := by decide +kernel
theorem dX1_firstWrong_1 : decode cX1_firstWrong 1 = .ok (.istore_n 2, 1) := by decide +kernel
theorem dX1_firstWrong_2 : decode cX1_firstWrong 2 = .ok (.iload_n 2, 1) := by decide +kernel
theorem dX1_firstWrong_3 : decode cX1_firstWrong 3 = .ok (.aload_n 0, 1) := by decide +kernel
theorem dX1_firstWrong_4 : decode cX1_firstWrong 4 = .ok (.getfield 18, 3) := by decide +kernel
theorem dX1_firstWrong_7 : decode cX1_firstWrong 7 = .ok (.if_icmp .ge 43, 3) := by decide +kernel
theorem dX1_firstWrong_10 : decode cX1_firstWrong 10 = .ok (.aload_n 0, 1) := by decide +kernel
theorem dX1_firstWrong_11 : decode cX1_firstWrong 11 = .ok (.getfield 9, 3) := by decide +kernel
theorem dX1_firstWrong_14 : decode cX1_firstWrong 14 = .ok (.iload_n 2, 1) := by decide +kernel
theorem dX1_firstWrong_15 : decode cX1_firstWrong 15 = .ok (.iaload, 1) := by decide +kernel
theorem dX1_firstWrong_16 : decode cX1_firstWrong 16 = .ok (.istore_n 3, 1) := by decide +kernel
theorem dX1_firstWrong_17 : decode cX1_firstWrong 17 = .ok (.iload_n 3, 1) := by decide +kernel
theorem dX1_firstWrong_18 : decode cX1_firstWrong 18 = .ok (.ifCond .lt 26, 3) := by decide +kernel
theorem dX1_firstWrong_21 : decode cX1_firstWrong 21 = .ok (.iload_n 3, 1) := by decide +kernel
theorem dX1_firstWrong_22 : decode cX1_firstWrong 22 = .ok (.bipush 9, 2) := by decide +kernel
theorem dX1_firstWrong_24 : decode cX1_firstWrong 24 = .ok (.if_icmp .ge 20, 3) := by decide +kernel
theorem dX1_firstWrong_27 : decode cX1_firstWrong 27 = .ok (.aload_n 1, 1) := by decide +kernel
theorem dX1_firstWrong_28 : decode cX1_firstWrong 28 = .ok (.getfield 22, 3) := by decide +kernel
theorem dX1_firstWrong_31 : decode cX1_firstWrong 31 = .ok (.iload_n 3, 1) := by decide +kernel
theorem dX1_firstWrong_32 : decode cX1_firstWrong 32 = .ok (.iaload, 1) := by decide +kernel
theorem dX1_firstWrong_33 : decode cX1_firstWrong 33 = .ok (.aload_n 0, 1) := by decide +kernel
theorem dX1_firstWrong_34 : decode cX1_firstWrong 34 = .ok (.getfield 15, 3) := by decide +kernel
theorem dX1_firstWrong_37 : decode cX1_firstWrong 37 = .ok (.iload_n 2, 1) := by decide +kernel
theorem dX1_firstWrong_38 : decode cX1_firstWrong 38 = .ok (.iaload, 1) := by decide +kernel
theorem dX1_firstWrong_39 : decode cX1_firstWrong 39 = .ok (.if_icmp .eq 5, 3) := by decide +kernel
theorem dX1_firstWrong_42 : decode cX1_firstWrong 42 = .ok (.iload_n 2, 1) := by decide +kernel
theorem dX1_firstWrong_43 : decode cX1_firstWrong 43 = .ok (.ireturn, 1) := by decide +kernel
theorem dX1_firstWrong_44 : decode cX1_firstWrong 44 = .ok (.iinc 2 1, 3) := by decide +kernel
theorem dX1_firstWrong_47 : decode cX1_firstWrong 47 = .ok (.goto (-45), 3) := by decide +kernel
theorem dX1_firstWrong_50 : decode cX1_firstWrong 50 = .ok (.iconst (-1), 1) := by decide +kernel
theorem dX1_firstWrong_51 : decode cX1_firstWrong 51 = .ok (.ireturn, 1) := by decide +kernel
theorem dX2_init_0 : decode cX2_init 0 = .ok (.aload_n 0, 1) := by decide +kernel
theorem dX2_init_1 : decode cX2_init 1 = .ok (.invokespecial 3, 3) := by decide +kernel
theorem dX2_init_4 : decode cX2_init 4 = .ok (.aload_n 0, 1) := by decide +kernel
theorem dX2_init_5 : decode cX2_init 5 = .ok (.bipush 9, 2) := by decide +kernel
theorem dX2_init_7 : decode cX2_init 7 = .ok (.newarray .int, 2) := by decide +kernel
theorem dX2_init_9 : decode cX2_init 9 = .ok (.putfield 9, 3) := by decide +kernel
theorem dX2_init_12 : decode cX2_init 12 = .ok (.aload_n 0, 1) := by decide +kernel
theorem dX2_init_13 : decode cX2_init 13 = .ok (.bipush 9, 2) := by decide +kernel
theorem dX2_init_15 : decode cX2_init 15 = .ok (.newarray .int, 2) := by decide +kernel
theorem dX2_init_17 : decode cX2_init 17 = .ok (.putfield 15, 3) := by decide +kernel
theorem dX2_init_20 : decode cX2_init 20 = .ok (.aload_n 0, 1) := by decide +kernel
theorem dX2_init_21 : decode cX2_init 21 = .ok (.bipush 9, 2) := by decide +kernel
theorem dX2_init_23 : decode cX2_init 23 = .ok (.newarray .int, 2) := by decide +kernel
theorem dX2_init_25 : decode cX2_init 25 = .ok (.putfield 18, 3) := by decide +kernel
theorem dX2_init_28 : decode cX2_init 28 = .ok (.aload_n 0, 1) := by decide +kernel
theorem dX2_init_29 : decode cX2_init 29 = .ok (.bipush 9, 2) := by decide +kernel
theorem dX2_init_31 : decode cX2_init 31 = .ok (.newarray .int, 2) := by decide +kernel
theorem dX2_init_33 : decode cX2_init 33 = .ok (.putfield 21, 3) := by decide +kernel
theorem dX2_init_36 : decode cX2_init 36 = .ok (.return_, 1) := by decide +kernel
theorem dX2_measure_0 : decode cX2_measure 0 = .ok (.aload_n 0, 1) := by decide +kernel
theorem dX2_measure_1 : decode cX2_measure 1 = .ok (.aload_n 1, 1) := by decide +kernel
theorem dX2_measure_2 : decode cX2_measure 2 = .ok (.aload_n 2, 1) := by decide +kernel
theorem dX2_measure_3 : decode cX2_measure 3 = .ok (.getfield 24, 3) := by decide +kernel
theorem dX2_measure_6 : decode cX2_measure 6 = .ok (.invokevirtual 30, 3) := by decide +kernel
theorem dX2_measure_9 : decode cX2_measure 9 = .ok (.iconst 0, 1) := by decide +kernel
theorem dX2_measure_10 : decode cX2_measure 10 = .ok (.istore_n 3, 1) := by decide +kernel
theorem dX2_measure_11 : decode cX2_measure 11 = .ok (.iload_n 3, 1) := by decide +kernel
theorem dX2_measure_12 : decode cX2_measure 12 = .ok (.bipush 9, 2) := by decide +kernel
theorem dX2_measure_14 : decode cX2_measure 14 = .ok (.if_icmp .ge 30, 3) := by decide +kernel
theorem dX2_measure_17 : decode cX2_measure 17 = .ok (.aload_n 0, 1) := by decide +kernel
theorem dX2_measure_18 : decode cX2_measure 18 = .ok (.getfield 15, 3) := by decide +kernel
theorem dX2_measure_21 : decode cX2_measure 21 = .ok (.iload_n 3, 1) := by decide +kernel
theorem dX2_measure_22 : decode cX2_measure 22 = .ok (.iconst (-1), 1) := by decide +kernel
theorem dX2_measure_23 : decode cX2_measure 23 = .ok (.iastore, 1) := by decide +kernel
theorem dX2_measure_24 : decode cX2_measure 24 = .ok (.aload_n 0, 1) := by decide +kernel
theorem dX2_measure_25 : decode cX2_measure 25 = .ok (.getfield 18, 3) := by decide +kernel
theorem dX2_measure_28 : decode cX2_measure 28 = .ok (.iload_n 3, 1) := by decide +kernel
theorem dX2_measure_29 : decode cX2_measure 29 = .ok (.iconst (-1), 1) := by decide +kernel
theorem dX2_measure_30 : decode cX2_measure 30 = .ok (.iastore, 1) := by decide +kernel
theorem dX2_measure_31 : decode cX2_measure 31 = .ok (.aload_n 0, 1) := by decide +kernel
theorem dX2_measure_32 : decode cX2_measure 32 = .ok (.getfield 21, 3) := by decide +kernel
theorem dX2_measure_35 : decode cX2_measure 35 = .ok (.iload_n 3, 1) := by decide +kernel
theorem dX2_measure_36 : decode cX2_measure 36 = .ok (.iconst 0, 1) := by decide +kernel
theorem dX2_measure_37 : decode cX2_measure 37 = .ok (.iastore, 1) := by decide +kernel
theorem dX2_measure_38 : decode cX2_measure 38 = .ok (.iinc 3 1, 3) := by decide +kernel
theorem dX2_measure_41 : decode cX2_measure 41 = .ok (.goto (-30), 3) := by decide +kernel
theorem dX2_measure_44 : decode cX2_measure 44 = .ok (.iconst 0, 1) := by decide +kernel
theorem dX2_measure_45 : decode cX2_measure 45 = .ok (.istore_n 3, 1) := by decide +kernel
theorem dX2_measure_46 : decode cX2_measure 46 = .ok (.iconst 0, 1) := by decide +kernel
theorem dX2_measure_47 : decode cX2_measure 47 = .ok (.istore 4, 2) := by decide +kernel
theorem dX2_measure_49 : decode cX2_measure 49 = .ok (.aload_n 1, 1) := by decide +kernel
theorem dX2_measure_50 : decode cX2_measure 50 = .ok (.invokevirtual 34, 3) := by decide +kernel
theorem dX2_measure_53 : decode cX2_measure 53 = .ok (.aload_n 2, 1) := by decide +kernel
theorem dX2_measure_54 : decode cX2_measure 54 = .ok (.iconst 2, 1) := by decide +kernel
theorem dX2_measure_55 : decode cX2_measure 55 = .ok (.aload_n 0, 1) := by decide +kernel
theorem dX2_measure_56 : decode cX2_measure 56 = .ok (.getfield 40, 3) := by decide +kernel
theorem dX2_measure_59 : decode cX2_measure 59 = .ok (.invokevirtual 43, 3) := by decide +kernel
theorem dX2_measure_62 : decode cX2_measure 62 = .ok (.iconst (-1), 1) := by decide +kernel
theorem dX2_measure_63 : decode cX2_measure 63 = .ok (.ixor, 1) := by decide +kernel
theorem dX2_measure_64 : decode cX2_measure 64 = .ok (.iand, 1) := by decide +kernel
theorem dX2_measure_65 : decode cX2_measure 65 = .ok (.istore 5, 2) := by decide +kernel
theorem dX2_measure_67 : decode cX2_measure 67 = .ok (.iconst 0, 1) := by decide +kernel
theorem dX2_measure_68 : decode cX2_measure 68 = .ok (.istore 6, 2) := by decide +kernel
theorem dX2_measure_70 : decode cX2_measure 70 = .ok (.iload 6, 2) := by decide +kernel
theorem dX2_measure_72 : decode cX2_measure 72 = .ok (.bipush 9, 2) := by decide +kernel
theorem dX2_measure_74 : decode cX2_measure 74 = .ok (.if_icmp .ge 46, 3) := by decide +kernel
theorem dX2_measure_77 : decode cX2_measure 77 = .ok (.iload 5, 2) := by decide +kernel
theorem dX2_measure_79 : decode cX2_measure 79 = .ok (.ifCond .eq 41, 3) := by decide +kernel
theorem dX2_measure_82 : decode cX2_measure 82 = .ok (.aload_n 0, 1) := by decide +kernel
theorem dX2_measure_83 : decode cX2_measure 83 = .ok (.iload 5, 2) := by decide +kernel
theorem dX2_measure_85 : decode cX2_measure 85 = .ok (.iload 6, 2) := by decide +kernel
theorem dX2_measure_87 : decode cX2_measure 87 = .ok (.iload_n 3, 1) := by decide +kernel
theorem dX2_measure_88 : decode cX2_measure 88 = .ok (.invokevirtual 47, 3) := by decide +kernel
theorem dX2_measure_91 : decode cX2_measure 91 = .ok (.iload 4, 2) := by decide +kernel
theorem dX2_measure_93 : decode cX2_measure 93 = .ok (.iload 5, 2) := by decide +kernel
theorem dX2_measure_95 : decode cX2_measure 95 = .ok (.ior, 1) := by decide +kernel
theorem dX2_measure_96 : decode cX2_measure 96 = .ok (.istore 4, 2) := by decide +kernel
theorem dX2_measure_98 : decode cX2_measure 98 = .ok (.iload 5, 2) := by decide +kernel
theorem dX2_measure_100 : decode cX2_measure 100 = .ok (.istore_n 3, 1) := by decide +kernel
theorem dX2_measure_101 : decode cX2_measure 101 = .ok (.aload_n 0, 1) := by decide +kernel
theorem dX2_measure_102 : decode cX2_measure 102 = .ok (.iload 5, 2) := by decide +kernel
theorem dX2_measure_104 : decode cX2_measure 104 = .ok (.invokevirtual 51, 3) := by decide +kernel
theorem dX2_measure_107 : decode cX2_measure 107 = .ok (.iload 4, 2) := by decide +kernel
theorem dX2_measure_109 : decode cX2_measure 109 = .ok (.iconst (-1), 1) := by decide +kernel
theorem dX2_measure_110 : decode cX2_measure 110 = .ok (.ixor, 1) := by decide +kernel
theorem dX2_measure_111 : decode cX2_measure 111 = .ok (.iand, 1) := by decide +kernel
theorem dX2_measure_112 : decode cX2_measure 112 = .ok (.istore 5, 2) := by decide +kernel
theorem dX2_measure_114 : decode cX2_measure 114 = .ok (.iinc 6 1, 3) := by decide +kernel
theorem dX2_measure_117 : decode cX2_measure 117 = .ok (.goto (-47), 3) := by decide +kernel
theorem dX2_measure_120 : decode cX2_measure 120 = .ok (.return_, 1) := by decide +kernel
theorem dX2_link_0 : decode cX2_link 0 = .ok (.iconst 0, 1) := by decide +kernel
theorem dX2_link_1 : decode cX2_link 1 = .ok (.istore 4, 2) := by decide +kernel
theorem dX2_link_3 : decode cX2_link 3 = .ok (.iload 4, 2) := by decide +kernel
theorem dX2_link_5 : decode cX2_link 5 = .ok (.aload_n 0, 1) := by decide +kernel
theorem dX2_link_6 : decode cX2_link 6 = .ok (.getfield 40, 3) := by decide +kernel
theorem dX2_link_9 : decode cX2_link 9 = .ok (.if_icmp .ge 80, 3) := by decide +kernel
theorem dX2_link_12 : decode cX2_link 12 = .ok (.iload_n 1, 1) := by decide +kernel
theorem dX2_link_13 : decode cX2_link 13 = .ok (.iload 4, 2) := by decide +kernel
theorem dX2_link_15 : decode cX2_link 15 = .ok (.ishr, 1) := by decide +kernel
theorem dX2_link_16 : decode cX2_link 16 = .ok (.iconst 1, 1) := by decide +kernel
theorem dX2_link_17 : decode cX2_link 17 = .ok (.iand, 1) := by decide +kernel
theorem dX2_link_18 : decode cX2_link 18 = .ok (.ifCond .ne 6, 3) := by decide +kernel
theorem dX2_link_21 : decode cX2_link 21 = .ok (.goto 62, 3) := by decide +kernel
theorem dX2_link_24 : decode cX2_link 24 = .ok (.aload_n 0, 1) := by decide +kernel
theorem dX2_link_25 : decode cX2_link 25 = .ok (.getfield 15, 3) := by decide +kernel
theorem dX2_link_28 : decode cX2_link 28 = .ok (.iload 4, 2) := by decide +kernel
theorem dX2_link_30 : decode cX2_link 30 = .ok (.iload_n 2, 1) := by decide +kernel
theorem dX2_link_31 : decode cX2_link 31 = .ok (.iastore, 1) := by decide +kernel
theorem dX2_link_32 : decode cX2_link 32 = .ok (.aload_n 0, 1) := by decide +kernel
theorem dX2_link_33 : decode cX2_link 33 = .ok (.getfield 9, 3) := by decide +kernel
theorem dX2_link_36 : decode cX2_link 36 = .ok (.iload 4, 2) := by decide +kernel
theorem dX2_link_38 : decode cX2_link 38 = .ok (.iaload, 1) := by decide +kernel
theorem dX2_link_39 : decode cX2_link 39 = .ok (.iload_n 3, 1) := by decide +kernel
theorem dX2_link_40 : decode cX2_link 40 = .ok (.iand, 1) := by decide +kernel
theorem dX2_link_41 : decode cX2_link 41 = .ok (.invokestatic 55, 3) := by decide +kernel
theorem dX2_link_44 : decode cX2_link 44 = .ok (.istore 5, 2) := by decide +kernel
theorem dX2_link_46 : decode cX2_link 46 = .ok (.iload 5, 2) := by decide +kernel
theorem dX2_link_48 : decode cX2_link 48 = .ok (.aload_n 0, 1) := by decide +kernel
theorem dX2_link_49 : decode cX2_link 49 = .ok (.getfield 40, 3) := by decide +kernel
theorem dX2_link_52 : decode cX2_link 52 = .ok (.if_icmp .ge 31, 3) := by decide +kernel
theorem dX2_link_55 : decode cX2_link 55 = .ok (.aload_n 0, 1) := by decide +kernel
theorem dX2_link_56 : decode cX2_link 56 = .ok (.getfield 18, 3) := by decide +kernel
theorem dX2_link_59 : decode cX2_link 59 = .ok (.iload 4, 2) := by decide +kernel
theorem dX2_link_61 : decode cX2_link 61 = .ok (.iload 5, 2) := by decide +kernel
theorem dX2_link_63 : decode cX2_link 63 = .ok (.iastore, 1) := by decide +kernel
theorem dX2_link_64 : decode cX2_link 64 = .ok (.aload_n 0, 1) := by decide +kernel
theorem dX2_link_65 : decode cX2_link 65 = .ok (.getfield 21, 3) := by decide +kernel
theorem dX2_link_68 : decode cX2_link 68 = .ok (.iload 4, 2) := by decide +kernel
theorem dX2_link_70 : decode cX2_link 70 = .ok (.aload_n 0, 1) := by decide +kernel
theorem dX2_link_71 : decode cX2_link 71 = .ok (.getfield 21, 3) := by decide +kernel
theorem dX2_link_74 : decode cX2_link 74 = .ok (.iload 5, 2) := by decide +kernel
theorem dX2_link_76 : decode cX2_link 76 = .ok (.iaload, 1) := by decide +kernel
theorem dX2_link_77 : decode cX2_link 77 = .ok (.iconst 1, 1) := by decide +kernel
theorem dX2_link_78 : decode cX2_link 78 = .ok (.iload 4, 2) := by decide +kernel
theorem dX2_link_80 : decode cX2_link 80 = .ok (.ishl, 1) := by decide +kernel
theorem dX2_link_81 : decode cX2_link 81 = .ok (.ior, 1) := by decide +kernel
theorem dX2_link_82 : decode cX2_link 82 = .ok (.iastore, 1) := by decide +kernel
theorem dX2_link_83 : decode cX2_link 83 = .ok (.iinc 4 1, 3) := by decide +kernel
theorem dX2_link_86 : decode cX2_link 86 = .ok (.goto (-83), 3) := by decide +kernel
theorem dX2_link_89 : decode cX2_link 89 = .ok (.return_, 1) := by decide +kernel
theorem dX2_join_0 : decode cX2_join 0 = .ok (.aload_n 0, 1) := by decide +kernel
theorem dX2_join_1 : decode cX2_join 1 = .ok (.aload_n 1, 1) := by decide +kernel
theorem dX2_join_2 : decode cX2_join 2 = .ok (.getfield 60, 3) := by decide +kernel
theorem dX2_join_5 : decode cX2_join 5 = .ok (.putfield 40, 3) := by decide +kernel
theorem dX2_join_8 : decode cX2_join 8 = .ok (.iconst 0, 1) := by decide +kernel
theorem dX2_join_9 : decode cX2_join 9 = .ok (.istore_n 3, 1) := by decide +kernel
theorem dX2_join_10 : decode cX2_join 10 = .ok (.iload_n 3, 1) := by decide +kernel
theorem dX2_join_11 : decode cX2_join 11 = .ok (.bipush 9, 2) := by decide +kernel
theorem dX2_join_13 : decode cX2_join 13 = .ok (.if_icmp .ge 16, 3) := by decide +kernel
theorem dX2_join_16 : decode cX2_join 16 = .ok (.aload_n 0, 1) := by decide +kernel
theorem dX2_join_17 : decode cX2_join 17 = .ok (.getfield 9, 3) := by decide +kernel
theorem dX2_join_20 : decode cX2_join 20 = .ok (.iload_n 3, 1) := by decide +kernel
theorem dX2_join_21 : decode cX2_join 21 = .ok (.iconst 0, 1) := by decide +kernel
theorem dX2_join_22 : decode cX2_join 22 = .ok (.iastore, 1) := by decide +kernel
theorem dX2_join_23 : decode cX2_join 23 = .ok (.iinc 3 1, 3) := by decide +kernel
theorem dX2_join_26 : decode cX2_join 26 = .ok (.goto (-16), 3) := by decide +kernel
theorem dX2_join_29 : decode cX2_join 29 = .ok (.iconst 0, 1) := by decide +kernel
theorem dX2_join_30 : decode cX2_join 30 = .ok (.istore_n 3, 1) := by decide +kernel
theorem dX2_join_31 : decode cX2_join 31 = .ok (.iload_n 3, 1) := by decide +kernel
theorem dX2_join_32 : decode cX2_join 32 = .ok (.aload_n 1, 1) := by decide +kernel
theorem dX2_join_33 : decode cX2_join 33 = .ok (.getfield 61, 3) := by decide +kernel
theorem dX2_join_36 : decode cX2_join 36 = .ok (.if_icmp .ge 79, 3) := by decide +kernel
theorem dX2_join_39 : decode cX2_join 39 = .ok (.aload_n 1, 1) := by decide +kernel
theorem dX2_join_40 : decode cX2_join 40 = .ok (.getfield 64, 3) := by decide +kernel
theorem dX2_join_43 : decode cX2_join 43 = .ok (.iload_n 3, 1) := by decide +kernel
theorem dX2_join_44 : decode cX2_join 44 = .ok (.iaload, 1) := by decide +kernel
theorem dX2_join_45 : decode cX2_join 45 = .ok (.istore 4, 2) := by decide +kernel
theorem dX2_join_47 : decode cX2_join 47 = .ok (.aload_n 1, 1) := by decide +kernel
theorem dX2_join_48 : decode cX2_join 48 = .ok (.getfield 67, 3) := by decide +kernel
theorem dX2_join_51 : decode cX2_join 51 = .ok (.iload_n 3, 1) := by decide +kernel
theorem dX2_join_52 : decode cX2_join 52 = .ok (.iaload, 1) := by decide +kernel
theorem dX2_join_53 : decode cX2_join 53 = .ok (.istore 5, 2) := by decide +kernel
theorem dX2_join_55 : decode cX2_join 55 = .ok (.iload_n 2, 1) := by decide +kernel
theorem dX2_join_56 : decode cX2_join 56 = .ok (.iload_n 3, 1) := by decide +kernel
theorem dX2_join_57 : decode cX2_join 57 = .ok (.ishr, 1) := by decide +kernel
theorem dX2_join_58 : decode cX2_join 58 = .ok (.iconst 1, 1) := by decide +kernel
theorem dX2_join_59 : decode cX2_join 59 = .ok (.iand, 1) := by decide +kernel
theorem dX2_join_60 : decode cX2_join 60 = .ok (.ifCond .ne 49, 3) := by decide +kernel
theorem dX2_join_63 : decode cX2_join 63 = .ok (.aload_n 1, 1) := by decide +kernel
theorem dX2_join_64 : decode cX2_join 64 = .ok (.iload 4, 2) := by decide +kernel
theorem dX2_join_66 : decode cX2_join 66 = .ok (.invokevirtual 70, 3) := by decide +kernel
theorem dX2_join_69 : decode cX2_join 69 = .ok (.ifCond .eq 40, 3) := by decide +kernel
theorem dX2_join_72 : decode cX2_join 72 = .ok (.aload_n 1, 1) := by decide +kernel
theorem dX2_join_73 : decode cX2_join 73 = .ok (.iload 5, 2) := by decide +kernel
theorem dX2_join_75 : decode cX2_join 75 = .ok (.invokevirtual 70, 3) := by decide +kernel
theorem dX2_join_78 : decode cX2_join 78 = .ok (.ifCond .eq 31, 3) := by decide +kernel
theorem dX2_join_81 : decode cX2_join 81 = .ok (.aload_n 0, 1) := by decide +kernel
theorem dX2_join_82 : decode cX2_join 82 = .ok (.getfield 9, 3) := by decide +kernel
theorem dX2_join_85 : decode cX2_join 85 = .ok (.iload 4, 2) := by decide +kernel
theorem dX2_join_87 : decode cX2_join 87 = .ok (.dup2, 1) := by decide +kernel
theorem dX2_join_88 : decode cX2_join 88 = .ok (.iaload, 1) := by decide +kernel
theorem dX2_join_89 : decode cX2_join 89 = .ok (.iconst 1, 1) := by decide +kernel
theorem dX2_join_90 : decode cX2_join 90 = .ok (.iload 5, 2) := by decide +kernel
theorem dX2_join_92 : decode cX2_join 92 = .ok (.ishl, 1) := by decide +kernel
theorem dX2_join_93 : decode cX2_join 93 = .ok (.ior, 1) := by decide +kernel
theorem dX2_join_94 : decode cX2_join 94 = .ok (.iastore, 1) := by decide +kernel
theorem dX2_join_95 : decode cX2_join 95 = .ok (.aload_n 0, 1) := by decide +kernel
theorem dX2_join_96 : decode cX2_join 96 = .ok (.getfield 9, 3) := by decide +kernel
theorem dX2_join_99 : decode cX2_join 99 = .ok (.iload 5, 2) := by decide +kernel
theorem dX2_join_101 : decode cX2_join 101 = .ok (.dup2, 1) := by decide +kernel
theorem dX2_join_102 : decode cX2_join 102 = .ok (.iaload, 1) := by decide +kernel
theorem dX2_join_103 : decode cX2_join 103 = .ok (.iconst 1, 1) := by decide +kernel
theorem dX2_join_104 : decode cX2_join 104 = .ok (.iload 4, 2) := by decide +kernel
theorem dX2_join_106 : decode cX2_join 106 = .ok (.ishl, 1) := by decide +kernel
theorem dX2_join_107 : decode cX2_join 107 = .ok (.ior, 1) := by decide +kernel
theorem dX2_join_108 : decode cX2_join 108 = .ok (.iastore, 1) := by decide +kernel
theorem dX2_join_109 : decode cX2_join 109 = .ok (.iinc 3 1, 3) := by decide +kernel
theorem dX2_join_112 : decode cX2_join 112 = .ok (.goto (-81), 3) := by decide +kernel
theorem dX2_join_115 : decode cX2_join 115 = .ok (.return_, 1) := by decide +kernel
theorem dX2_around_0 : decode cX2_around 0 = .ok (.iconst 0, 1) := by decide +kernel
theorem dX2_around_1 : decode cX2_around 1 = .ok (.istore_n 2, 1) := by decide +kernel
theorem dX2_around_2 : decode cX2_around 2 = .ok (.iconst 0, 1) := by decide +kernel
theorem dX2_around_3 : decode cX2_around 3 = .ok (.istore_n 3, 1) := by decide +kernel
theorem dX2_around_4 : decode cX2_around 4 = .ok (.iload_n 3, 1) := by decide +kernel
theorem dX2_around_5 : decode cX2_around 5 = .ok (.aload_n 0, 1) := by decide +kernel
theorem dX2_around_6 : decode cX2_around 6 = .ok (.getfield 40, 3) := by decide +kernel
theorem dX2_around_9 : decode cX2_around 9 = .ok (.if_icmp .ge 26, 3) := by decide +kernel
theorem dX2_around_12 : decode cX2_around 12 = .ok (.iload_n 1, 1) := by decide +kernel
theorem dX2_around_13 : decode cX2_around 13 = .ok (.iload_n 3, 1) := by decide +kernel
theorem dX2_around_14 : decode cX2_around 14 = .ok (.ishr, 1) := by decide +kernel
theorem dX2_around_15 : decode cX2_around 15 = .ok (.iconst 1, 1) := by decide +kernel
theorem dX2_around_16 : decode cX2_around 16 = .ok (.iand, 1) := by decide +kernel
theorem dX2_around_17 : decode cX2_around 17 = .ok (.ifCond .eq 12, 3) := by decide +kernel
theorem dX2_around_20 : decode cX2_around 20 = .ok (.iload_n 2, 1) := by decide +kernel
theorem dX2_around_21 : decode cX2_around 21 = .ok (.aload_n 0, 1) := by decide +kernel
theorem dX2_around_22 : decode cX2_around 22 = .ok (.getfield 9, 3) := by decide +kernel
theorem dX2_around_25 : decode cX2_around 25 = .ok (.iload_n 3, 1) := by decide +kernel
theorem dX2_around_26 : decode cX2_around 26 = .ok (.iaload, 1) := by decide +kernel
theorem dX2_around_27 : decode cX2_around 27 = .ok (.ior, 1) := by decide +kernel
theorem dX2_around_28 : decode cX2_around 28 = .ok (.istore_n 2, 1) := by decide +kernel
theorem dX2_around_29 : decode cX2_around 29 = .ok (.iinc 3 1, 3) := by decide +kernel
theorem dX2_around_32 : decode cX2_around 32 = .ok (.goto (-28), 3) := by decide +kernel
theorem dX2_around_35 : decode cX2_around 35 = .ok (.iload_n 2, 1) := by decide +kernel
theorem dX2_around_36 : decode cX2_around 36 = .ok (.ireturn, 1) := by decide +kernel
theorem dX2_within_0 : decode cX2_within 0 = .ok (.iconst 1, 1) := by decide +kernel
theorem dX2_within_1 : decode cX2_within 1 = .ok (.iload_n 1, 1) := by decide +kernel
theorem dX2_within_2 : decode cX2_within 2 = .ok (.ishl, 1) := by decide +kernel
theorem dX2_within_3 : decode cX2_within 3 = .ok (.istore_n 3, 1) := by decide +kernel
theorem dX2_within_4 : decode cX2_within 4 = .ok (.iconst 0, 1) := by decide +kernel
theorem dX2_within_5 : decode cX2_within 5 = .ok (.istore 4, 2) := by decide +kernel
theorem dX2_within_7 : decode cX2_within 7 = .ok (.iload 4, 2) := by decide +kernel
theorem dX2_within_9 : decode cX2_within 9 = .ok (.iload_n 2, 1) := by decide +kernel
theorem dX2_within_10 : decode cX2_within 10 = .ok (.if_icmp .ge 17, 3) := by decide +kernel
theorem dX2_within_13 : decode cX2_within 13 = .ok (.iload_n 3, 1) := by decide +kernel
theorem dX2_within_14 : decode cX2_within 14 = .ok (.aload_n 0, 1) := by decide +kernel
theorem dX2_within_15 : decode cX2_within 15 = .ok (.iload_n 3, 1) := by decide +kernel
theorem dX2_within_16 : decode cX2_within 16 = .ok (.invokevirtual 51, 3) := by decide +kernel
theorem dX2_within_19 : decode cX2_within 19 = .ok (.ior, 1) := by decide +kernel
theorem dX2_within_20 : decode cX2_within 20 = .ok (.istore_n 3, 1) := by decide +kernel
theorem dX2_within_21 : decode cX2_within 21 = .ok (.iinc 4 1, 3) := by decide +kernel
theorem dX2_within_24 : decode cX2_within 24 = .ok (.goto (-17), 3) := by decide +kernel
theorem dX2_within_27 : decode cX2_within 27 = .ok (.iload_n 3, 1) := by decide +kernel
theorem dX2_within_28 : decode cX2_within 28 = .ok (.ireturn, 1) := by decide +kernel
theorem dX2_hangingTogether_0 : decode cX2_hangingTogether 0 = .ok (.aload_n 0, 1) := by decide +kernel
theorem dX2_hangingTogether_1 : decode cX2_hangingTogether 1 = .ok (.iload_n 1, 1) := by decide +kernel
theorem dX2_hangingTogether_2 : decode cX2_hangingTogether 2 = .ok (.bipush 8, 2) := by decide +kernel
theorem dX2_hangingTogether_4 : decode cX2_hangingTogether 4 = .ok (.invokevirtual 74, 3) := by decide +kernel
theorem dX2_hangingTogether_7 : decode cX2_hangingTogether 7 = .ok (.ireturn, 1) := by decide +kernel
theorem dX2_movesFrom_0 : decode cX2_movesFrom 0 = .ok (.iload_n 1, 1) := by decide +kernel
theorem dX2_movesFrom_1 : decode cX2_movesFrom 1 = .ok (.ifCond .lt 20, 3) := by decide +kernel
theorem dX2_movesFrom_4 : decode cX2_movesFrom 4 = .ok (.iload_n 1, 1) := by decide +kernel
theorem dX2_movesFrom_5 : decode cX2_movesFrom 5 = .ok (.aload_n 0, 1) := by decide +kernel
theorem dX2_movesFrom_6 : decode cX2_movesFrom 6 = .ok (.getfield 40, 3) := by decide +kernel
theorem dX2_movesFrom_9 : decode cX2_movesFrom 9 = .ok (.if_icmp .ge 12, 3) := by decide +kernel
theorem dX2_movesFrom_12 : decode cX2_movesFrom 12 = .ok (.aload_n 0, 1) := by decide +kernel
theorem dX2_movesFrom_13 : decode cX2_movesFrom 13 = .ok (.getfield 15, 3) := by decide +kernel
theorem dX2_movesFrom_16 : decode cX2_movesFrom 16 = .ok (.iload_n 1, 1) := by decide +kernel
theorem dX2_movesFrom_17 : decode cX2_movesFrom 17 = .ok (.iaload, 1) := by decide +kernel
theorem dX2_movesFrom_18 : decode cX2_movesFrom 18 = .ok (.goto 4, 3) := by decide +kernel
theorem dX2_movesFrom_21 : decode cX2_movesFrom 21 = .ok (.iconst (-1), 1) := by decide +kernel
theorem dX2_movesFrom_22 : decode cX2_movesFrom 22 = .ok (.ireturn, 1) := by decide +kernel
theorem dX2_moversFrom_0 : decode cX2_moversFrom 0 = .ok (.iload_n 1, 1) := by decide +kernel
theorem dX2_moversFrom_1 : decode cX2_moversFrom 1 = .ok (.ifCond .lt 20, 3) := by decide +kernel
theorem dX2_moversFrom_4 : decode cX2_moversFrom 4 = .ok (.iload_n 1, 1) := by decide +kernel
theorem dX2_moversFrom_5 : decode cX2_moversFrom 5 = .ok (.aload_n 0, 1) := by decide +kernel
theorem dX2_moversFrom_6 : decode cX2_moversFrom 6 = .ok (.getfield 40, 3) := by decide +kernel
theorem dX2_moversFrom_9 : decode cX2_moversFrom 9 = .ok (.if_icmp .ge 12, 3) := by decide +kernel
theorem dX2_moversFrom_12 : decode cX2_moversFrom 12 = .ok (.aload_n 0, 1) := by decide +kernel
theorem dX2_moversFrom_13 : decode cX2_moversFrom 13 = .ok (.getfield 21, 3) := by decide +kernel
theorem dX2_moversFrom_16 : decode cX2_moversFrom 16 = .ok (.iload_n 1, 1) := by decide +kernel
theorem dX2_moversFrom_17 : decode cX2_moversFrom 17 = .ok (.iaload, 1) := by decide +kernel
theorem dX2_moversFrom_18 : decode cX2_moversFrom 18 = .ok (.goto 4, 3) := by decide +kernel
theorem dX2_moversFrom_21 : decode cX2_moversFrom 21 = .ok (.iconst 0, 1) := by decide +kernel
theorem dX2_moversFrom_22 : decode cX2_moversFrom 22 = .ok (.ireturn, 1) := by decide +kernel
theorem dX2_tableOf_0 : decode cX2_tableOf 0 = .ok (.iload_n 2, 1) := by decide +kernel
theorem dX2_tableOf_1 : decode cX2_tableOf 1 = .ok (.ifCond .lt 12, 3) := by decide +kernel
theorem dX2_tableOf_4 : decode cX2_tableOf 4 = .ok (.iload_n 2, 1) := by decide +kernel
theorem dX2_tableOf_5 : decode cX2_tableOf 5 = .ok (.aload_n 0, 1) := by decide +kernel
theorem dX2_tableOf_6 : decode cX2_tableOf 6 = .ok (.iload_n 1, 1) := by decide +kernel
theorem dX2_tableOf_7 : decode cX2_tableOf 7 = .ok (.invokevirtual 77, 3) := by decide +kernel
theorem dX2_tableOf_10 : decode cX2_tableOf 10 = .ok (.if_icmp .le 5, 3) := by decide +kernel
theorem dX2_tableOf_13 : decode cX2_tableOf 13 = .ok (.iconst (-1), 1) := by decide +kernel
theorem dX2_tableOf_14 : decode cX2_tableOf 14 = .ok (.ireturn, 1) := by decide +kernel
theorem dX2_tableOf_15 : decode cX2_tableOf 15 = .ok (.iload_n 1, 1) := by decide +kernel
theorem dX2_tableOf_16 : decode cX2_tableOf 16 = .ok (.istore_n 3, 1) := by decide +kernel
theorem dX2_tableOf_17 : decode cX2_tableOf 17 = .ok (.iconst 0, 1) := by decide +kernel
theorem dX2_tableOf_18 : decode cX2_tableOf 18 = .ok (.istore 4, 2) := by decide +kernel
theorem dX2_tableOf_20 : decode cX2_tableOf 20 = .ok (.iload 4, 2) := by decide +kernel
theorem dX2_tableOf_22 : decode cX2_tableOf 22 = .ok (.iload_n 2, 1) := by decide +kernel
theorem dX2_tableOf_23 : decode cX2_tableOf 23 = .ok (.if_icmp .ge 28, 3) := by decide +kernel
theorem dX2_tableOf_26 : decode cX2_tableOf 26 = .ok (.iload_n 3, 1) := by decide +kernel
theorem dX2_tableOf_27 : decode cX2_tableOf 27 = .ok (.ifCond .lt 24, 3) := by decide +kernel
theorem dX2_tableOf_30 : decode cX2_tableOf 30 = .ok (.iload_n 3, 1) := by decide +kernel
theorem dX2_tableOf_31 : decode cX2_tableOf 31 = .ok (.aload_n 0, 1) := by decide +kernel
theorem dX2_tableOf_32 : decode cX2_tableOf 32 = .ok (.getfield 40, 3) := by decide +kernel
theorem dX2_tableOf_35 : decode cX2_tableOf 35 = .ok (.if_icmp .ge 16, 3) := by decide +kernel
theorem dX2_tableOf_38 : decode cX2_tableOf 38 = .ok (.aload_n 0, 1) := by decide +kernel
theorem dX2_tableOf_39 : decode cX2_tableOf 39 = .ok (.getfield 18, 3) := by decide +kernel
theorem dX2_tableOf_42 : decode cX2_tableOf 42 = .ok (.iload_n 3, 1) := by decide +kernel
theorem dX2_tableOf_43 : decode cX2_tableOf 43 = .ok (.iaload, 1) := by decide +kernel
theorem dX2_tableOf_44 : decode cX2_tableOf 44 = .ok (.istore_n 3, 1) := by decide +kernel
theorem dX2_tableOf_45 : decode cX2_tableOf 45 = .ok (.iinc 4 1, 3) := by decide +kernel
theorem dX2_tableOf_48 : decode cX2_tableOf 48 = .ok (.goto (-28), 3) := by decide +kernel
theorem dX2_tableOf_51 : decode cX2_tableOf 51 = .ok (.iload_n 3, 1) := by decide +kernel
theorem dX2_tableOf_52 : decode cX2_tableOf 52 = .ok (.ireturn, 1) := by decide +kernel
theorem dX2_withoutChain_0 : decode cX2_withoutChain 0 = .ok (.iconst 0, 1) := by decide +kernel
theorem dX2_withoutChain_1 : decode cX2_withoutChain 1 = .ok (.istore_n 1, 1) := by decide +kernel
theorem dX2_withoutChain_2 : decode cX2_withoutChain 2 = .ok (.iconst 0, 1) := by decide +kernel
theorem dX2_withoutChain_3 : decode cX2_withoutChain 3 = .ok (.istore_n 2, 1) := by decide +kernel
theorem dX2_withoutChain_4 : decode cX2_withoutChain 4 = .ok (.iload_n 2, 1) := by decide +kernel
theorem dX2_withoutChain_5 : decode cX2_withoutChain 5 = .ok (.aload_n 0, 1) := by decide +kernel
theorem dX2_withoutChain_6 : decode cX2_withoutChain 6 = .ok (.getfield 40, 3) := by decide +kernel
theorem dX2_withoutChain_9 : decode cX2_withoutChain 9 = .ok (.if_icmp .ge 25, 3) := by decide +kernel
theorem dX2_withoutChain_12 : decode cX2_withoutChain 12 = .ok (.aload_n 0, 1) := by decide +kernel
theorem dX2_withoutChain_13 : decode cX2_withoutChain 13 = .ok (.getfield 15, 3) := by decide +kernel
theorem dX2_withoutChain_16 : decode cX2_withoutChain 16 = .ok (.iload_n 2, 1) := by decide +kernel
theorem dX2_withoutChain_17 : decode cX2_withoutChain 17 = .ok (.iaload, 1) := by decide +kernel
theorem dX2_withoutChain_18 : decode cX2_withoutChain 18 = .ok (.iconst (-1), 1) := by decide +kernel
theorem dX2_withoutChain_19 : decode cX2_withoutChain 19 = .ok (.if_icmp .ne 9, 3) := by decide +kernel
theorem dX2_withoutChain_22 : decode cX2_withoutChain 22 = .ok (.iload_n 1, 1) := by decide +kernel
theorem dX2_withoutChain_23 : decode cX2_withoutChain 23 = .ok (.iconst 1, 1) := by decide +kernel
theorem dX2_withoutChain_24 : decode cX2_withoutChain 24 = .ok (.iload_n 2, 1) := by decide +kernel
theorem dX2_withoutChain_25 : decode cX2_withoutChain 25 = .ok (.ishl, 1) := by decide +kernel
theorem dX2_withoutChain_26 : decode cX2_withoutChain 26 = .ok (.ior, 1) := by decide +kernel
theorem dX2_withoutChain_27 : decode cX2_withoutChain 27 = .ok (.istore_n 1, 1) := by decide +kernel
theorem dX2_withoutChain_28 : decode cX2_withoutChain 28 = .ok (.iinc 2 1, 3) := by decide +kernel
theorem dX2_withoutChain_31 : decode cX2_withoutChain 31 = .ok (.goto (-27), 3) := by decide +kernel
theorem dX2_withoutChain_34 : decode cX2_withoutChain 34 = .ok (.iload_n 1, 1) := by decide +kernel
theorem dX2_withoutChain_35 : decode cX2_withoutChain 35 = .ok (.ireturn, 1) := by decide +kernel
theorem dX2_farthest_0 : decode cX2_farthest 0 = .ok (.iconst (-1), 1) := by decide +kernel
theorem dX2_farthest_1 : decode cX2_farthest 1 = .ok (.istore_n 1, 1) := by decide +kernel
theorem dX2_farthest_2 : decode cX2_farthest 2 = .ok (.iconst 0, 1) := by decide +kernel
theorem dX2_farthest_3 : decode cX2_farthest 3 = .ok (.istore_n 2, 1) := by decide +kernel
theorem dX2_farthest_4 : decode cX2_farthest 4 = .ok (.iload_n 2, 1) := by decide +kernel
theorem dX2_farthest_5 : decode cX2_farthest 5 = .ok (.aload_n 0, 1) := by decide +kernel
theorem dX2_farthest_6 : decode cX2_farthest 6 = .ok (.getfield 40, 3) := by decide +kernel
theorem dX2_farthest_9 : decode cX2_farthest 9 = .ok (.if_icmp .ge 37, 3) := by decide +kernel
theorem dX2_farthest_12 : decode cX2_farthest 12 = .ok (.aload_n 0, 1) := by decide +kernel
theorem dX2_farthest_13 : decode cX2_farthest 13 = .ok (.getfield 15, 3) := by decide +kernel
theorem dX2_farthest_16 : decode cX2_farthest 16 = .ok (.iload_n 2, 1) := by decide +kernel
theorem dX2_farthest_17 : decode cX2_farthest 17 = .ok (.iaload, 1) := by decide +kernel
theorem dX2_farthest_18 : decode cX2_farthest 18 = .ok (.iconst (-1), 1) := by decide +kernel
theorem dX2_farthest_19 : decode cX2_farthest 19 = .ok (.if_icmp .ne 5, 3) := by decide +kernel
theorem dX2_farthest_22 : decode cX2_farthest 22 = .ok (.iload_n 2, 1) := by decide +kernel
theorem dX2_farthest_23 : decode cX2_farthest 23 = .ok (.ireturn, 1) := by decide +kernel
theorem dX2_farthest_24 : decode cX2_farthest 24 = .ok (.aload_n 0, 1) := by decide +kernel
theorem dX2_farthest_25 : decode cX2_farthest 25 = .ok (.getfield 15, 3) := by decide +kernel
theorem dX2_farthest_28 : decode cX2_farthest 28 = .ok (.iload_n 2, 1) := by decide +kernel
theorem dX2_farthest_29 : decode cX2_farthest 29 = .ok (.iaload, 1) := by decide +kernel
theorem dX2_farthest_30 : decode cX2_farthest 30 = .ok (.aload_n 0, 1) := by decide +kernel
theorem dX2_farthest_31 : decode cX2_farthest 31 = .ok (.iload_n 1, 1) := by decide +kernel
theorem dX2_farthest_32 : decode cX2_farthest 32 = .ok (.invokevirtual 77, 3) := by decide +kernel
theorem dX2_farthest_35 : decode cX2_farthest 35 = .ok (.if_icmp .le 5, 3) := by decide +kernel
theorem dX2_farthest_38 : decode cX2_farthest 38 = .ok (.iload_n 2, 1) := by decide +kernel
theorem dX2_farthest_39 : decode cX2_farthest 39 = .ok (.istore_n 1, 1) := by decide +kernel
theorem dX2_farthest_40 : decode cX2_farthest 40 = .ok (.iinc 2 1, 3) := by decide +kernel
theorem dX2_farthest_43 : decode cX2_farthest 43 = .ok (.goto (-39), 3) := by decide +kernel
theorem dX2_farthest_46 : decode cX2_farthest 46 = .ok (.iload_n 1, 1) := by decide +kernel
theorem dX2_farthest_47 : decode cX2_farthest 47 = .ok (.ireturn, 1) := by decide +kernel
theorem dX3_init_0 : decode cX3_init 0 = .ok (.aload_n 0, 1) := by decide +kernel
theorem dX3_init_1 : decode cX3_init 1 = .ok (.invokespecial 1, 3) := by decide +kernel
theorem dX3_init_4 : decode cX3_init 4 = .ok (.return_, 1) := by decide +kernel
theorem dX3_draw_0 : decode cX3_draw 0 = .ok (.aload_n 0, 1) := by decide +kernel
theorem dX3_draw_1 : decode cX3_draw 1 = .ok (.aload_n 0, 1) := by decide +kernel
theorem dX3_draw_2 : decode cX3_draw 2 = .ok (.getfield 7, 3) := by decide +kernel
theorem dX3_draw_5 : decode cX3_draw 5 = .ok (.i2l, 1) := by decide +kernel
theorem dX3_draw_6 : decode cX3_draw 6 = .ok (.ldc2_w 13, 3) := by decide +kernel
theorem dX3_draw_9 : decode cX3_draw 9 = .ok (.lmul, 1) := by decide +kernel
theorem dX3_draw_10 : decode cX3_draw 10 = .ok (.ldc2_w 15, 3) := by decide +kernel
theorem dX3_draw_13 : decode cX3_draw 13 = .ok (.ladd, 1) := by decide +kernel
theorem dX3_draw_14 : decode cX3_draw 14 = .ok (.ldc2_w 17, 3) := by decide +kernel
theorem dX3_draw_17 : decode cX3_draw 17 = .ok (.land, 1) := by decide +kernel
theorem dX3_draw_18 : decode cX3_draw 18 = .ok (.l2i, 1) := by decide +kernel
theorem dX3_draw_19 : decode cX3_draw 19 = .ok (.putfield 7, 3) := by decide +kernel
theorem dX3_draw_22 : decode cX3_draw 22 = .ok (.iload_n 1, 1) := by decide +kernel
theorem dX3_draw_23 : decode cX3_draw 23 = .ok (.ifCond .le 15, 3) := by decide +kernel
theorem dX3_draw_26 : decode cX3_draw 26 = .ok (.aload_n 0, 1) := by decide +kernel
theorem dX3_draw_27 : decode cX3_draw 27 = .ok (.getfield 7, 3) := by decide +kernel
theorem dX3_draw_30 : decode cX3_draw 30 = .ok (.ldc 19, 2) := by decide +kernel
theorem dX3_draw_32 : decode cX3_draw 32 = .ok (.idiv, 1) := by decide +kernel
theorem dX3_draw_33 : decode cX3_draw 33 = .ok (.iload_n 1, 1) := by decide +kernel
theorem dX3_draw_34 : decode cX3_draw 34 = .ok (.irem, 1) := by decide +kernel
theorem dX3_draw_35 : decode cX3_draw 35 = .ok (.goto 4, 3) := by decide +kernel
theorem dX3_draw_38 : decode cX3_draw 38 = .ok (.iconst 0, 1) := by decide +kernel
theorem dX3_draw_39 : decode cX3_draw 39 = .ok (.ireturn, 1) := by decide +kernel
theorem dX4_init_0 : decode cX4_init 0 = .ok (.aload_n 0, 1) := by decide +kernel
theorem dX4_init_1 : decode cX4_init 1 = .ok (.invokespecial 3, 3) := by decide +kernel
theorem dX4_init_4 : decode cX4_init 4 = .ok (.aload_n 0, 1) := by decide +kernel
theorem dX4_init_5 : decode cX4_init 5 = .ok (.bipush 20, 2) := by decide +kernel
theorem dX4_init_7 : decode cX4_init 7 = .ok (.anewarray 9, 3) := by decide +kernel
theorem dX4_init_10 : decode cX4_init 10 = .ok (.putfield 11, 3) := by decide +kernel
theorem dX4_init_13 : decode cX4_init 13 = .ok (.iconst 0, 1) := by decide +kernel
theorem dX4_init_14 : decode cX4_init 14 = .ok (.istore_n 1, 1) := by decide +kernel
theorem dX4_init_15 : decode cX4_init 15 = .ok (.iload_n 1, 1) := by decide +kernel
theorem dX4_init_16 : decode cX4_init 16 = .ok (.bipush 20, 2) := by decide +kernel
theorem dX4_init_18 : decode cX4_init 18 = .ok (.if_icmp .ge 22, 3) := by decide +kernel
theorem dX4_init_21 : decode cX4_init 21 = .ok (.aload_n 0, 1) := by decide +kernel
theorem dX4_init_22 : decode cX4_init 22 = .ok (.getfield 11, 3) := by decide +kernel
theorem dX4_init_25 : decode cX4_init 25 = .ok (.iload_n 1, 1) := by decide +kernel
theorem dX4_init_26 : decode cX4_init 26 = .ok (.new 9, 3) := by decide +kernel
theorem dX4_init_29 : decode cX4_init 29 = .ok (.dup, 1) := by decide +kernel
theorem dX4_init_30 : decode cX4_init 30 = .ok (.invokespecial 17, 3) := by decide +kernel
theorem dX4_init_33 : decode cX4_init 33 = .ok (.aastore, 1) := by decide +kernel
theorem dX4_init_34 : decode cX4_init 34 = .ok (.iinc 1 1, 3) := by decide +kernel
theorem dX4_init_37 : decode cX4_init 37 = .ok (.goto (-22), 3) := by decide +kernel
theorem dX4_init_40 : decode cX4_init 40 = .ok (.return_, 1) := by decide +kernel
theorem dX4_forget_0 : decode cX4_forget 0 = .ok (.aload_n 0, 1) := by decide +kernel
theorem dX4_forget_1 : decode cX4_forget 1 = .ok (.iconst 0, 1) := by decide +kernel
theorem dX4_forget_2 : decode cX4_forget 2 = .ok (.putfield 18, 3) := by decide +kernel
theorem dX4_forget_5 : decode cX4_forget 5 = .ok (.return_, 1) := by decide +kernel
theorem dX4_push_0 : decode cX4_push 0 = .ok (.aload_n 0, 1) := by decide +kernel
theorem dX4_push_1 : decode cX4_push 1 = .ok (.getfield 22, 3) := by decide +kernel
theorem dX4_push_4 : decode cX4_push 4 = .ok (.ifCond .lt 12, 3) := by decide +kernel
theorem dX4_push_7 : decode cX4_push 7 = .ok (.aload_n 0, 1) := by decide +kernel
theorem dX4_push_8 : decode cX4_push 8 = .ok (.getfield 22, 3) := by decide +kernel
theorem dX4_push_11 : decode cX4_push 11 = .ok (.bipush 20, 2) := by decide +kernel
theorem dX4_push_13 : decode cX4_push 13 = .ok (.if_icmp .lt 4, 3) := by decide +kernel
theorem dX4_push_16 : decode cX4_push 16 = .ok (.return_, 1) := by decide +kernel
theorem dX4_push_17 : decode cX4_push 17 = .ok (.aload_n 0, 1) := by decide +kernel
theorem dX4_push_18 : decode cX4_push 18 = .ok (.getfield 11, 3) := by decide +kernel
theorem dX4_push_21 : decode cX4_push 21 = .ok (.aload_n 0, 1) := by decide +kernel
theorem dX4_push_22 : decode cX4_push 22 = .ok (.getfield 22, 3) := by decide +kernel
theorem dX4_push_25 : decode cX4_push 25 = .ok (.aaload, 1) := by decide +kernel
theorem dX4_push_26 : decode cX4_push 26 = .ok (.aload_n 1, 1) := by decide +kernel
theorem dX4_push_27 : decode cX4_push 27 = .ok (.invokevirtual 25, 3) := by decide +kernel
theorem dX4_push_30 : decode cX4_push 30 = .ok (.aload_n 0, 1) := by decide +kernel
theorem dX4_push_31 : decode cX4_push 31 = .ok (.aload_n 0, 1) := by decide +kernel
theorem dX4_push_32 : decode cX4_push 32 = .ok (.getfield 22, 3) := by decide +kernel
theorem dX4_push_35 : decode cX4_push 35 = .ok (.iconst 1, 1) := by decide +kernel
theorem dX4_push_36 : decode cX4_push 36 = .ok (.iadd, 1) := by decide +kernel
theorem dX4_push_37 : decode cX4_push 37 = .ok (.bipush 20, 2) := by decide +kernel
theorem dX4_push_39 : decode cX4_push 39 = .ok (.irem, 1) := by decide +kernel
theorem dX4_push_40 : decode cX4_push 40 = .ok (.putfield 22, 3) := by decide +kernel
theorem dX4_push_43 : decode cX4_push 43 = .ok (.aload_n 0, 1) := by decide +kernel
theorem dX4_push_44 : decode cX4_push 44 = .ok (.bipush 20, 2) := by decide +kernel
theorem dX4_push_46 : decode cX4_push 46 = .ok (.aload_n 0, 1) := by decide +kernel
theorem dX4_push_47 : decode cX4_push 47 = .ok (.getfield 18, 3) := by decide +kernel
theorem dX4_push_50 : decode cX4_push 50 = .ok (.iconst 1, 1) := by decide +kernel
theorem dX4_push_51 : decode cX4_push 51 = .ok (.iadd, 1) := by decide +kernel
theorem dX4_push_52 : decode cX4_push 52 = .ok (.invokestatic 29, 3) := by decide +kernel
theorem dX4_push_55 : decode cX4_push 55 = .ok (.putfield 18, 3) := by decide +kernel
theorem dX4_push_58 : decode cX4_push 58 = .ok (.return_, 1) := by decide +kernel
theorem dX4_pop_0 : decode cX4_pop 0 = .ok (.aload_n 0, 1) := by decide +kernel
theorem dX4_pop_1 : decode cX4_pop 1 = .ok (.getfield 22, 3) := by decide +kernel
theorem dX4_pop_4 : decode cX4_pop 4 = .ok (.bipush 20, 2) := by decide +kernel
theorem dX4_pop_6 : decode cX4_pop 6 = .ok (.iadd, 1) := by decide +kernel
theorem dX4_pop_7 : decode cX4_pop 7 = .ok (.iconst 1, 1) := by decide +kernel
theorem dX4_pop_8 : decode cX4_pop 8 = .ok (.isub, 1) := by decide +kernel
theorem dX4_pop_9 : decode cX4_pop 9 = .ok (.bipush 20, 2) := by decide +kernel
theorem dX4_pop_11 : decode cX4_pop 11 = .ok (.irem, 1) := by decide +kernel
theorem dX4_pop_12 : decode cX4_pop 12 = .ok (.istore_n 2, 1) := by decide +kernel
theorem dX4_pop_13 : decode cX4_pop 13 = .ok (.aload_n 0, 1) := by decide +kernel
theorem dX4_pop_14 : decode cX4_pop 14 = .ok (.getfield 18, 3) := by decide +kernel
theorem dX4_pop_17 : decode cX4_pop 17 = .ok (.ifCond .le 13, 3) := by decide +kernel
theorem dX4_pop_20 : decode cX4_pop 20 = .ok (.iload_n 2, 1) := by decide +kernel
theorem dX4_pop_21 : decode cX4_pop 21 = .ok (.ifCond .lt 9, 3) := by decide +kernel
theorem dX4_pop_24 : decode cX4_pop 24 = .ok (.iload_n 2, 1) := by decide +kernel
theorem dX4_pop_25 : decode cX4_pop 25 = .ok (.bipush 20, 2) := by decide +kernel
theorem dX4_pop_27 : decode cX4_pop 27 = .ok (.if_icmp .lt 5, 3) := by decide +kernel
theorem dX4_pop_30 : decode cX4_pop 30 = .ok (.iconst 0, 1) := by decide +kernel
theorem dX4_pop_31 : decode cX4_pop 31 = .ok (.ireturn, 1) := by decide +kernel
theorem dX4_pop_32 : decode cX4_pop 32 = .ok (.aload_n 1, 1) := by decide +kernel
theorem dX4_pop_33 : decode cX4_pop 33 = .ok (.aload_n 0, 1) := by decide +kernel
theorem dX4_pop_34 : decode cX4_pop 34 = .ok (.getfield 11, 3) := by decide +kernel
theorem dX4_pop_37 : decode cX4_pop 37 = .ok (.iload_n 2, 1) := by decide +kernel
theorem dX4_pop_38 : decode cX4_pop 38 = .ok (.aaload, 1) := by decide +kernel
theorem dX4_pop_39 : decode cX4_pop 39 = .ok (.invokevirtual 25, 3) := by decide +kernel
theorem dX4_pop_42 : decode cX4_pop 42 = .ok (.aload_n 0, 1) := by decide +kernel
theorem dX4_pop_43 : decode cX4_pop 43 = .ok (.iload_n 2, 1) := by decide +kernel
theorem dX4_pop_44 : decode cX4_pop 44 = .ok (.putfield 22, 3) := by decide +kernel
theorem dX4_pop_47 : decode cX4_pop 47 = .ok (.aload_n 0, 1) := by decide +kernel
theorem dX4_pop_48 : decode cX4_pop 48 = .ok (.dup, 1) := by decide +kernel
theorem dX4_pop_49 : decode cX4_pop 49 = .ok (.getfield 18, 3) := by decide +kernel
theorem dX4_pop_52 : decode cX4_pop 52 = .ok (.iconst 1, 1) := by decide +kernel
theorem dX4_pop_53 : decode cX4_pop 53 = .ok (.isub, 1) := by decide +kernel
theorem dX4_pop_54 : decode cX4_pop 54 = .ok (.putfield 18, 3) := by decide +kernel
theorem dX4_pop_57 : decode cX4_pop 57 = .ok (.iconst 1, 1) := by decide +kernel
theorem dX4_pop_58 : decode cX4_pop 58 = .ok (.ireturn, 1) := by decide +kernel
theorem dX5_init_0 : decode cX5_init 0 = .ok (.aload_n 0, 1) := by decide +kernel
theorem dX5_init_1 : decode cX5_init 1 = .ok (.invokespecial 3, 3) := by decide +kernel
theorem dX5_init_4 : decode cX5_init 4 = .ok (.aload_n 0, 1) := by decide +kernel
theorem dX5_init_5 : decode cX5_init 5 = .ok (.iconst 2, 1) := by decide +kernel
theorem dX5_init_6 : decode cX5_init 6 = .ok (.anewarray 9, 3) := by decide +kernel
theorem dX5_init_9 : decode cX5_init 9 = .ok (.putfield 11, 3) := by decide +kernel
theorem dX5_init_12 : decode cX5_init 12 = .ok (.aload_n 0, 1) := by decide +kernel
theorem dX5_init_13 : decode cX5_init 13 = .ok (.iconst 2, 1) := by decide +kernel
theorem dX5_init_14 : decode cX5_init 14 = .ok (.newarray .int, 2) := by decide +kernel
theorem dX5_init_16 : decode cX5_init 16 = .ok (.putfield 17, 3) := by decide +kernel
theorem dX5_init_19 : decode cX5_init 19 = .ok (.aload_n 0, 1) := by decide +kernel
theorem dX5_init_20 : decode cX5_init 20 = .ok (.iconst 2, 1) := by decide +kernel
theorem dX5_init_21 : decode cX5_init 21 = .ok (.newarray .boolean, 2) := by decide +kernel
theorem dX5_init_23 : decode cX5_init 23 = .ok (.putfield 21, 3) := by decide +kernel
theorem dX5_init_26 : decode cX5_init 26 = .ok (.iconst 0, 1) := by decide +kernel
theorem dX5_init_27 : decode cX5_init 27 = .ok (.istore_n 1, 1) := by decide +kernel
theorem dX5_init_28 : decode cX5_init 28 = .ok (.iload_n 1, 1) := by decide +kernel
theorem dX5_init_29 : decode cX5_init 29 = .ok (.iconst 2, 1) := by decide +kernel
theorem dX5_init_30 : decode cX5_init 30 = .ok (.if_icmp .ge 22, 3) := by decide +kernel
theorem dX5_init_33 : decode cX5_init 33 = .ok (.aload_n 0, 1) := by decide +kernel
theorem dX5_init_34 : decode cX5_init 34 = .ok (.getfield 11, 3) := by decide +kernel
theorem dX5_init_37 : decode cX5_init 37 = .ok (.iload_n 1, 1) := by decide +kernel
theorem dX5_init_38 : decode cX5_init 38 = .ok (.new 9, 3) := by decide +kernel
theorem dX5_init_41 : decode cX5_init 41 = .ok (.dup, 1) := by decide +kernel
theorem dX5_init_42 : decode cX5_init 42 = .ok (.invokespecial 25, 3) := by decide +kernel
theorem dX5_init_45 : decode cX5_init 45 = .ok (.aastore, 1) := by decide +kernel
theorem dX5_init_46 : decode cX5_init 46 = .ok (.iinc 1 1, 3) := by decide +kernel
theorem dX5_init_49 : decode cX5_init 49 = .ok (.goto (-21), 3) := by decide +kernel
theorem dX5_init_52 : decode cX5_init 52 = .ok (.return_, 1) := by decide +kernel
theorem dX5_has_0 : decode cX5_has 0 = .ok (.iload_n 1, 1) := by decide +kernel
theorem dX5_has_1 : decode cX5_has 1 = .ok (.ifCond .lt 12, 3) := by decide +kernel
theorem dX5_has_4 : decode cX5_has 4 = .ok (.iload_n 1, 1) := by decide +kernel
theorem dX5_has_5 : decode cX5_has 5 = .ok (.iconst 2, 1) := by decide +kernel
theorem dX5_has_6 : decode cX5_has 6 = .ok (.if_icmp .ge 7, 3) := by decide +kernel
theorem dX5_has_9 : decode cX5_has 9 = .ok (.iconst 1, 1) := by decide +kernel
theorem dX5_has_10 : decode cX5_has 10 = .ok (.goto 4, 3) := by decide +kernel
theorem dX5_has_13 : decode cX5_has 13 = .ok (.iconst 0, 1) := by decide +kernel
theorem dX5_has_14 : decode cX5_has 14 = .ok (.ireturn, 1) := by decide +kernel
theorem dX5_forget_0 : decode cX5_forget 0 = .ok (.iconst 0, 1) := by decide +kernel
theorem dX5_forget_1 : decode cX5_forget 1 = .ok (.istore_n 1, 1) := by decide +kernel
theorem dX5_forget_2 : decode cX5_forget 2 = .ok (.iload_n 1, 1) := by decide +kernel
theorem dX5_forget_3 : decode cX5_forget 3 = .ok (.iconst 2, 1) := by decide +kernel
theorem dX5_forget_4 : decode cX5_forget 4 = .ok (.if_icmp .ge 16, 3) := by decide +kernel
theorem dX5_forget_7 : decode cX5_forget 7 = .ok (.aload_n 0, 1) := by decide +kernel
theorem dX5_forget_8 : decode cX5_forget 8 = .ok (.getfield 21, 3) := by decide +kernel
theorem dX5_forget_11 : decode cX5_forget 11 = .ok (.iload_n 1, 1) := by decide +kernel
theorem dX5_forget_12 : decode cX5_forget 12 = .ok (.iconst 0, 1) := by decide +kernel
theorem dX5_forget_13 : decode cX5_forget 13 = .ok (.bastore, 1) := by decide +kernel
theorem dX5_forget_14 : decode cX5_forget 14 = .ok (.iinc 1 1, 3) := by decide +kernel
theorem dX5_forget_17 : decode cX5_forget 17 = .ok (.goto (-15), 3) := by decide +kernel
theorem dX5_forget_20 : decode cX5_forget 20 = .ok (.return_, 1) := by decide +kernel
theorem dX5_take_0 : decode cX5_take 0 = .ok (.aload_n 0, 1) := by decide +kernel
theorem dX5_take_1 : decode cX5_take 1 = .ok (.iload_n 1, 1) := by decide +kernel
theorem dX5_take_2 : decode cX5_take 2 = .ok (.invokevirtual 26, 3) := by decide +kernel
theorem dX5_take_5 : decode cX5_take 5 = .ok (.ifCond .eq 30, 3) := by decide +kernel
theorem dX5_take_8 : decode cX5_take 8 = .ok (.aload_n 0, 1) := by decide +kernel
theorem dX5_take_9 : decode cX5_take 9 = .ok (.getfield 11, 3) := by decide +kernel
theorem dX5_take_12 : decode cX5_take 12 = .ok (.iload_n 1, 1) := by decide +kernel
theorem dX5_take_13 : decode cX5_take 13 = .ok (.aaload, 1) := by decide +kernel
theorem dX5_take_14 : decode cX5_take 14 = .ok (.aload_n 2, 1) := by decide +kernel
theorem dX5_take_15 : decode cX5_take 15 = .ok (.invokevirtual 30, 3) := by decide +kernel
theorem dX5_take_18 : decode cX5_take 18 = .ok (.aload_n 0, 1) := by decide +kernel
theorem dX5_take_19 : decode cX5_take 19 = .ok (.getfield 17, 3) := by decide +kernel
theorem dX5_take_22 : decode cX5_take 22 = .ok (.iload_n 1, 1) := by decide +kernel
theorem dX5_take_23 : decode cX5_take 23 = .ok (.aload_n 3, 1) := by decide +kernel
theorem dX5_take_24 : decode cX5_take 24 = .ok (.getfield 34, 3) := by decide +kernel
theorem dX5_take_27 : decode cX5_take 27 = .ok (.iastore, 1) := by decide +kernel
theorem dX5_take_28 : decode cX5_take 28 = .ok (.aload_n 0, 1) := by decide +kernel
theorem dX5_take_29 : decode cX5_take 29 = .ok (.getfield 21, 3) := by decide +kernel
theorem dX5_take_32 : decode cX5_take 32 = .ok (.iload_n 1, 1) := by decide +kernel
theorem dX5_take_33 : decode cX5_take 33 = .ok (.iconst 1, 1) := by decide +kernel
theorem dX5_take_34 : decode cX5_take 34 = .ok (.bastore, 1) := by decide +kernel
theorem dX5_take_35 : decode cX5_take 35 = .ok (.return_, 1) := by decide +kernel
theorem dX5_give_0 : decode cX5_give 0 = .ok (.aload_n 0, 1) := by decide +kernel
theorem dX5_give_1 : decode cX5_give 1 = .ok (.iload_n 1, 1) := by decide +kernel
theorem dX5_give_2 : decode cX5_give 2 = .ok (.invokevirtual 26, 3) := by decide +kernel
theorem dX5_give_5 : decode cX5_give 5 = .ok (.ifCond .eq 12, 3) := by decide +kernel
theorem dX5_give_8 : decode cX5_give 8 = .ok (.aload_n 0, 1) := by decide +kernel
theorem dX5_give_9 : decode cX5_give 9 = .ok (.getfield 21, 3) := by decide +kernel
theorem dX5_give_12 : decode cX5_give 12 = .ok (.iload_n 1, 1) := by decide +kernel
theorem dX5_give_13 : decode cX5_give 13 = .ok (.baload, 1) := by decide +kernel
theorem dX5_give_14 : decode cX5_give 14 = .ok (.ifCond .ne 5, 3) := by decide +kernel
theorem dX5_give_17 : decode cX5_give 17 = .ok (.iconst 0, 1) := by decide +kernel
theorem dX5_give_18 : decode cX5_give 18 = .ok (.ireturn, 1) := by decide +kernel
theorem dX5_give_19 : decode cX5_give 19 = .ok (.aload_n 2, 1) := by decide +kernel
theorem dX5_give_20 : decode cX5_give 20 = .ok (.aload_n 0, 1) := by decide +kernel
theorem dX5_give_21 : decode cX5_give 21 = .ok (.getfield 11, 3) := by decide +kernel
theorem dX5_give_24 : decode cX5_give 24 = .ok (.iload_n 1, 1) := by decide +kernel
theorem dX5_give_25 : decode cX5_give 25 = .ok (.aaload, 1) := by decide +kernel
theorem dX5_give_26 : decode cX5_give 26 = .ok (.invokevirtual 30, 3) := by decide +kernel
theorem dX5_give_29 : decode cX5_give 29 = .ok (.aload_n 3, 1) := by decide +kernel
theorem dX5_give_30 : decode cX5_give 30 = .ok (.aload_n 0, 1) := by decide +kernel
theorem dX5_give_31 : decode cX5_give 31 = .ok (.getfield 17, 3) := by decide +kernel
theorem dX5_give_34 : decode cX5_give 34 = .ok (.iload_n 1, 1) := by decide +kernel
theorem dX5_give_35 : decode cX5_give 35 = .ok (.iaload, 1) := by decide +kernel
theorem dX5_give_36 : decode cX5_give 36 = .ok (.putfield 34, 3) := by decide +kernel
theorem dX5_give_39 : decode cX5_give 39 = .ok (.iconst 1, 1) := by decide +kernel
theorem dX5_give_40 : decode cX5_give 40 = .ok (.ireturn, 1) := by decide +kernel
theorem dX6_init_0 : decode cX6_init 0 = .ok (.aload_n 0, 1) := by decide +kernel
theorem dX6_init_1 : decode cX6_init 1 = .ok (.invokespecial 3, 3) := by decide +kernel
theorem dX6_init_4 : decode cX6_init 4 = .ok (.aload_n 0, 1) := by decide +kernel
theorem dX6_init_5 : decode cX6_init 5 = .ok (.new 9, 3) := by decide +kernel
theorem dX6_init_8 : decode cX6_init 8 = .ok (.dup, 1) := by decide +kernel
theorem dX6_init_9 : decode cX6_init 9 = .ok (.invokespecial 11, 3) := by decide +kernel
theorem dX6_init_12 : decode cX6_init 12 = .ok (.putfield 12, 3) := by decide +kernel
theorem dX6_init_15 : decode cX6_init 15 = .ok (.aload_n 0, 1) := by decide +kernel
theorem dX6_init_16 : decode cX6_init 16 = .ok (.sipush 240, 3) := by decide +kernel
theorem dX6_init_19 : decode cX6_init 19 = .ok (.newarray .char, 2) := by decide +kernel
theorem dX6_init_21 : decode cX6_init 21 = .ok (.putfield 18, 3) := by decide +kernel
theorem dX6_init_24 : decode cX6_init 24 = .ok (.aload_n 0, 1) := by decide +kernel
theorem dX6_init_25 : decode cX6_init 25 = .ok (.iconst (-1), 1) := by decide +kernel
theorem dX6_init_26 : decode cX6_init 26 = .ok (.putfield 22, 3) := by decide +kernel
theorem dX6_init_29 : decode cX6_init 29 = .ok (.return_, 1) := by decide +kernel
theorem dX6_add_0 : decode cX6_add 0 = .ok (.aload_n 0, 1) := by decide +kernel
theorem dX6_add_1 : decode cX6_add 1 = .ok (.getfield 26, 3) := by decide +kernel
theorem dX6_add_4 : decode cX6_add 4 = .ok (.ifCond .lt 13, 3) := by decide +kernel
theorem dX6_add_7 : decode cX6_add 7 = .ok (.aload_n 0, 1) := by decide +kernel
theorem dX6_add_8 : decode cX6_add 8 = .ok (.getfield 26, 3) := by decide +kernel
theorem dX6_add_11 : decode cX6_add 11 = .ok (.sipush 240, 3) := by decide +kernel
theorem dX6_add_14 : decode cX6_add 14 = .ok (.if_icmp .lt 5, 3) := by decide +kernel
theorem dX6_add_17 : decode cX6_add 17 = .ok (.iconst 0, 1) := by decide +kernel
theorem dX6_add_18 : decode cX6_add 18 = .ok (.ireturn, 1) := by decide +kernel
theorem dX6_add_19 : decode cX6_add 19 = .ok (.aload_n 0, 1) := by decide +kernel
theorem dX6_add_20 : decode cX6_add 20 = .ok (.getfield 18, 3) := by decide +kernel
theorem dX6_add_23 : decode cX6_add 23 = .ok (.aload_n 0, 1) := by decide +kernel
theorem dX6_add_24 : decode cX6_add 24 = .ok (.getfield 26, 3) := by decide +kernel
theorem dX6_add_27 : decode cX6_add 27 = .ok (.iload_n 1, 1) := by decide +kernel
theorem dX6_add_28 : decode cX6_add 28 = .ok (.i2c, 1) := by decide +kernel
theorem dX6_add_29 : decode cX6_add 29 = .ok (.castore, 1) := by decide +kernel
theorem dX6_add_30 : decode cX6_add 30 = .ok (.aload_n 0, 1) := by decide +kernel
theorem dX6_add_31 : decode cX6_add 31 = .ok (.dup, 1) := by decide +kernel
theorem dX6_add_32 : decode cX6_add 32 = .ok (.getfield 26, 3) := by decide +kernel
theorem dX6_add_35 : decode cX6_add 35 = .ok (.iconst 1, 1) := by decide +kernel
theorem dX6_add_36 : decode cX6_add 36 = .ok (.iadd, 1) := by decide +kernel
theorem dX6_add_37 : decode cX6_add 37 = .ok (.putfield 26, 3) := by decide +kernel
theorem dX6_add_40 : decode cX6_add 40 = .ok (.iconst 1, 1) := by decide +kernel
theorem dX6_add_41 : decode cX6_add 41 = .ok (.ireturn, 1) := by decide +kernel
theorem dX6_reads_0 : decode cX6_reads 0 = .ok (.aload_n 0, 1) := by decide +kernel
theorem dX6_reads_1 : decode cX6_reads 1 = .ok (.iconst 0, 1) := by decide +kernel
theorem dX6_reads_2 : decode cX6_reads 2 = .ok (.putfield 29, 3) := by decide +kernel
theorem dX6_reads_5 : decode cX6_reads 5 = .ok (.aload_n 0, 1) := by decide +kernel
theorem dX6_reads_6 : decode cX6_reads 6 = .ok (.iconst 0, 1) := by decide +kernel
theorem dX6_reads_7 : decode cX6_reads 7 = .ok (.putfield 32, 3) := by decide +kernel
theorem dX6_reads_10 : decode cX6_reads 10 = .ok (.aload_n 0, 1) := by decide +kernel
theorem dX6_reads_11 : decode cX6_reads 11 = .ok (.iconst 0, 1) := by decide +kernel
theorem dX6_reads_12 : decode cX6_reads 12 = .ok (.putfield 35, 3) := by decide +kernel
theorem dX6_reads_15 : decode cX6_reads 15 = .ok (.aload_n 0, 1) := by decide +kernel
theorem dX6_reads_16 : decode cX6_reads 16 = .ok (.iconst (-1), 1) := by decide +kernel
theorem dX6_reads_17 : decode cX6_reads 17 = .ok (.putfield 22, 3) := by decide +kernel
theorem dX6_reads_20 : decode cX6_reads 20 = .ok (.aload_n 0, 1) := by decide +kernel
theorem dX6_reads_21 : decode cX6_reads 21 = .ok (.getfield 12, 3) := by decide +kernel
theorem dX6_reads_24 : decode cX6_reads 24 = .ok (.invokevirtual 38, 3) := by decide +kernel
theorem dX6_reads_27 : decode cX6_reads 27 = .ok (.iconst 0, 1) := by decide +kernel
theorem dX6_reads_28 : decode cX6_reads 28 = .ok (.istore_n 1, 1) := by decide +kernel
theorem dX6_reads_29 : decode cX6_reads 29 = .ok (.iload_n 1, 1) := by decide +kernel
theorem dX6_reads_30 : decode cX6_reads 30 = .ok (.sipush 240, 3) := by decide +kernel
theorem dX6_reads_33 : decode cX6_reads 33 = .ok (.if_icmp .gt 35, 3) := by decide +kernel
theorem dX6_reads_36 : decode cX6_reads 36 = .ok (.aload_n 0, 1) := by decide +kernel
theorem dX6_reads_37 : decode cX6_reads 37 = .ok (.getfield 35, 3) := by decide +kernel
theorem dX6_reads_40 : decode cX6_reads 40 = .ok (.ifCond .ne 28, 3) := by decide +kernel
theorem dX6_reads_43 : decode cX6_reads 43 = .ok (.aload_n 0, 1) := by decide +kernel
theorem dX6_reads_44 : decode cX6_reads 44 = .ok (.invokevirtual 41, 3) := by decide +kernel
theorem dX6_reads_47 : decode cX6_reads 47 = .ok (.aload_n 0, 1) := by decide +kernel
theorem dX6_reads_48 : decode cX6_reads 48 = .ok (.getfield 29, 3) := by decide +kernel
theorem dX6_reads_51 : decode cX6_reads 51 = .ok (.aload_n 0, 1) := by decide +kernel
theorem dX6_reads_52 : decode cX6_reads 52 = .ok (.getfield 26, 3) := by decide +kernel
theorem dX6_reads_55 : decode cX6_reads 55 = .ok (.if_icmp .ge 7, 3) := by decide +kernel
theorem dX6_reads_58 : decode cX6_reads 58 = .ok (.aload_n 0, 1) := by decide +kernel
theorem dX6_reads_59 : decode cX6_reads 59 = .ok (.invokevirtual 44, 3) := by decide +kernel
theorem dX6_reads_62 : decode cX6_reads 62 = .ok (.iinc 1 1, 3) := by decide +kernel
theorem dX6_reads_65 : decode cX6_reads 65 = .ok (.goto (-36), 3) := by decide +kernel
theorem dX6_reads_68 : decode cX6_reads 68 = .ok (.aload_n 0, 1) := by decide +kernel
theorem dX6_reads_69 : decode cX6_reads 69 = .ok (.iconst 0, 1) := by decide +kernel
theorem dX6_reads_70 : decode cX6_reads 70 = .ok (.putfield 26, 3) := by decide +kernel
theorem dX6_reads_73 : decode cX6_reads 73 = .ok (.aload_n 0, 1) := by decide +kernel
theorem dX6_reads_74 : decode cX6_reads 74 = .ok (.getfield 35, 3) := by decide +kernel
theorem dX6_reads_77 : decode cX6_reads 77 = .ok (.ifCond .ne 7, 3) := by decide +kernel
theorem dX6_reads_80 : decode cX6_reads 80 = .ok (.iconst 1, 1) := by decide +kernel
theorem dX6_reads_81 : decode cX6_reads 81 = .ok (.goto 4, 3) := by decide +kernel
theorem dX6_reads_84 : decode cX6_reads 84 = .ok (.iconst 0, 1) := by decide +kernel
theorem dX6_reads_85 : decode cX6_reads 85 = .ok (.ireturn, 1) := by decide +kernel
theorem dX6_readClause_0 : decode cX6_readClause 0 = .ok (.aload_n 0, 1) := by decide +kernel
theorem dX6_readClause_1 : decode cX6_readClause 1 = .ok (.invokevirtual 47, 3) := by decide +kernel
theorem dX6_readClause_4 : decode cX6_readClause 4 = .ok (.istore_n 1, 1) := by decide +kernel
theorem dX6_readClause_5 : decode cX6_readClause 5 = .ok (.aload_n 0, 1) := by decide +kernel
theorem dX6_readClause_6 : decode cX6_readClause 6 = .ok (.iload_n 1, 1) := by decide +kernel
theorem dX6_readClause_7 : decode cX6_readClause 7 = .ok (.invokevirtual 51, 3) := by decide +kernel
theorem dX6_readClause_10 : decode cX6_readClause 10 = .ok (.istore_n 2, 1) := by decide +kernel
theorem dX6_readClause_11 : decode cX6_readClause 11 = .ok (.iload_n 2, 1) := by decide +kernel
theorem dX6_readClause_12 : decode cX6_readClause 12 = .ok (.ifCond .eq 13, 3) := by decide +kernel
theorem dX6_readClause_15 : decode cX6_readClause 15 = .ok (.aload_n 0, 1) := by decide +kernel
theorem dX6_readClause_16 : decode cX6_readClause 16 = .ok (.iload_n 2, 1) := by decide +kernel
theorem dX6_readClause_17 : decode cX6_readClause 17 = .ok (.aload_n 0, 1) := by decide +kernel
theorem dX6_readClause_18 : decode cX6_readClause 18 = .ok (.getfield 29, 3) := by decide +kernel
theorem dX6_readClause_21 : decode cX6_readClause 21 = .ok (.invokevirtual 55, 3) := by decide +kernel
theorem dX6_readClause_24 : decode cX6_readClause 24 = .ok (.return_, 1) := by decide +kernel
theorem dX6_readClause_25 : decode cX6_readClause 25 = .ok (.aload_n 0, 1) := by decide +kernel
theorem dX6_readClause_26 : decode cX6_readClause 26 = .ok (.dup, 1) := by decide +kernel
theorem dX6_readClause_27 : decode cX6_readClause 27 = .ok (.getfield 29, 3) := by decide +kernel
theorem dX6_readClause_30 : decode cX6_readClause 30 = .ok (.iconst 1, 1) := by decide +kernel
theorem dX6_readClause_31 : decode cX6_readClause 31 = .ok (.iadd, 1) := by decide +kernel
theorem dX6_readClause_32 : decode cX6_readClause 32 = .ok (.putfield 29, 3) := by decide +kernel
theorem dX6_readClause_35 : decode cX6_readClause 35 = .ok (.iload_n 1, 1) := by decide +kernel
theorem dX6_readClause_36 : decode cX6_readClause 36 = .ok (.bipush 114, 2) := by decide +kernel
theorem dX6_readClause_38 : decode cX6_readClause 38 = .ok (.if_icmp .ne 10, 3) := by decide +kernel
theorem dX6_readClause_41 : decode cX6_readClause 41 = .ok (.aload_n 0, 1) := by decide +kernel
theorem dX6_readClause_42 : decode cX6_readClause 42 = .ok (.invokevirtual 59, 3) := by decide +kernel
theorem dX6_readClause_45 : decode cX6_readClause 45 = .ok (.goto 20, 3) := by decide +kernel
theorem dX6_readClause_48 : decode cX6_readClause 48 = .ok (.iload_n 1, 1) := by decide +kernel
theorem dX6_readClause_49 : decode cX6_readClause 49 = .ok (.bipush 116, 2) := by decide +kernel
theorem dX6_readClause_51 : decode cX6_readClause 51 = .ok (.if_icmp .ne 10, 3) := by decide +kernel
theorem dX6_readClause_54 : decode cX6_readClause 54 = .ok (.aload_n 0, 1) := by decide +kernel
theorem dX6_readClause_55 : decode cX6_readClause 55 = .ok (.invokevirtual 62, 3) := by decide +kernel
theorem dX6_readClause_58 : decode cX6_readClause 58 = .ok (.goto 7, 3) := by decide +kernel
theorem dX6_readClause_61 : decode cX6_readClause 61 = .ok (.aload_n 0, 1) := by decide +kernel
theorem dX6_readClause_62 : decode cX6_readClause 62 = .ok (.invokevirtual 65, 3) := by decide +kernel
theorem dX6_readClause_65 : decode cX6_readClause 65 = .ok (.aload_n 0, 1) := by decide +kernel
theorem dX6_readClause_66 : decode cX6_readClause 66 = .ok (.invokevirtual 68, 3) := by decide +kernel
theorem dX6_readClause_69 : decode cX6_readClause 69 = .ok (.return_, 1) := by decide +kernel
theorem dX6_faultOfWord_0 : decode cX6_faultOfWord 0 = .ok (.iload_n 1, 1) := by decide +kernel
theorem dX6_faultOfWord_1 : decode cX6_faultOfWord 1 = .ok (.lookupswitch 95 #[(114, 35), (116, 51), (119, 73)], 35) := by decide +kernel
theorem dX6_faultOfWord_36 : decode cX6_faultOfWord 36 = .ok (.aload_n 0, 1) := by decide +kernel
theorem dX6_faultOfWord_37 : decode cX6_faultOfWord 37 = .ok (.getfield 12, 3) := by decide +kernel
theorem dX6_faultOfWord_40 : decode cX6_faultOfWord 40 = .ok (.getfield 71, 3) := by decide +kernel
theorem dX6_faultOfWord_43 : decode cX6_faultOfWord 43 = .ok (.ifCond .eq 7, 3) := by decide +kernel
theorem dX6_faultOfWord_46 : decode cX6_faultOfWord 46 = .ok (.iconst 3, 1) := by decide +kernel
theorem dX6_faultOfWord_47 : decode cX6_faultOfWord 47 = .ok (.goto 4, 3) := by decide +kernel
theorem dX6_faultOfWord_50 : decode cX6_faultOfWord 50 = .ok (.iconst 0, 1) := by decide +kernel
theorem dX6_faultOfWord_51 : decode cX6_faultOfWord 51 = .ok (.ireturn, 1) := by decide +kernel
theorem dX6_faultOfWord_52 : decode cX6_faultOfWord 52 = .ok (.aload_n 0, 1) := by decide +kernel
theorem dX6_faultOfWord_53 : decode cX6_faultOfWord 53 = .ok (.aload_n 0, 1) := by decide +kernel
theorem dX6_faultOfWord_54 : decode cX6_faultOfWord 54 = .ok (.getfield 12, 3) := by decide +kernel
theorem dX6_faultOfWord_57 : decode cX6_faultOfWord 57 = .ok (.getfield 75, 3) := by decide +kernel
theorem dX6_faultOfWord_60 : decode cX6_faultOfWord 60 = .ok (.bipush 9, 2) := by decide +kernel
theorem dX6_faultOfWord_62 : decode cX6_faultOfWord 62 = .ok (.if_icmp .lt 7, 3) := by decide +kernel
theorem dX6_faultOfWord_65 : decode cX6_faultOfWord 65 = .ok (.iconst 1, 1) := by decide +kernel
theorem dX6_faultOfWord_66 : decode cX6_faultOfWord 66 = .ok (.goto 4, 3) := by decide +kernel
theorem dX6_faultOfWord_69 : decode cX6_faultOfWord 69 = .ok (.iconst 0, 1) := by decide +kernel
theorem dX6_faultOfWord_70 : decode cX6_faultOfWord 70 = .ok (.invokevirtual 78, 3) := by decide +kernel
theorem dX6_faultOfWord_73 : decode cX6_faultOfWord 73 = .ok (.ireturn, 1) := by decide +kernel
theorem dX6_faultOfWord_74 : decode cX6_faultOfWord 74 = .ok (.aload_n 0, 1) := by decide +kernel
theorem dX6_faultOfWord_75 : decode cX6_faultOfWord 75 = .ok (.aload_n 0, 1) := by decide +kernel
theorem dX6_faultOfWord_76 : decode cX6_faultOfWord 76 = .ok (.getfield 12, 3) := by decide +kernel
theorem dX6_faultOfWord_79 : decode cX6_faultOfWord 79 = .ok (.getfield 82, 3) := by decide +kernel
theorem dX6_faultOfWord_82 : decode cX6_faultOfWord 82 = .ok (.bipush 14, 2) := by decide +kernel
theorem dX6_faultOfWord_84 : decode cX6_faultOfWord 84 = .ok (.if_icmp .lt 7, 3) := by decide +kernel
theorem dX6_faultOfWord_87 : decode cX6_faultOfWord 87 = .ok (.iconst 1, 1) := by decide +kernel
theorem dX6_faultOfWord_88 : decode cX6_faultOfWord 88 = .ok (.goto 4, 3) := by decide +kernel
theorem dX6_faultOfWord_91 : decode cX6_faultOfWord 91 = .ok (.iconst 0, 1) := by decide +kernel
theorem dX6_faultOfWord_92 : decode cX6_faultOfWord 92 = .ok (.invokevirtual 78, 3) := by decide +kernel
theorem dX6_faultOfWord_95 : decode cX6_faultOfWord 95 = .ok (.ireturn, 1) := by decide +kernel
theorem dX6_faultOfWord_96 : decode cX6_faultOfWord 96 = .ok (.iconst 1, 1) := by decide +kernel
theorem dX6_faultOfWord_97 : decode cX6_faultOfWord 97 = .ok (.ireturn, 1) := by decide +kernel
theorem dX6_faultOfLater_0 : decode cX6_faultOfLater 0 = .ok (.aload_n 0, 1) := by decide +kernel
theorem dX6_faultOfLater_1 : decode cX6_faultOfLater 1 = .ok (.getfield 12, 3) := by decide +kernel
theorem dX6_faultOfLater_4 : decode cX6_faultOfLater 4 = .ok (.getfield 71, 3) := by decide +kernel
theorem dX6_faultOfLater_7 : decode cX6_faultOfLater 7 = .ok (.ifCond .ne 5, 3) := by decide +kernel
theorem dX6_faultOfLater_10 : decode cX6_faultOfLater 10 = .ok (.iconst 1, 1) := by decide +kernel
theorem dX6_faultOfLater_11 : decode cX6_faultOfLater 11 = .ok (.ireturn, 1) := by decide +kernel
theorem dX6_faultOfLater_12 : decode cX6_faultOfLater 12 = .ok (.iload_n 1, 1) := by decide +kernel
theorem dX6_faultOfLater_13 : decode cX6_faultOfLater 13 = .ok (.ifCond .eq 7, 3) := by decide +kernel
theorem dX6_faultOfLater_16 : decode cX6_faultOfLater 16 = .ok (.iconst 3, 1) := by decide +kernel
theorem dX6_faultOfLater_17 : decode cX6_faultOfLater 17 = .ok (.goto 4, 3) := by decide +kernel
theorem dX6_faultOfLater_20 : decode cX6_faultOfLater 20 = .ok (.iconst 0, 1) := by decide +kernel
theorem dX6_faultOfLater_21 : decode cX6_faultOfLater 21 = .ok (.ireturn, 1) := by decide +kernel
theorem dX6_readFineAndWood_0 : decode cX6_readFineAndWood 0 = .ok (.aload_n 0, 1) := by decide +kernel
theorem dX6_readFineAndWood_1 : decode cX6_readFineAndWood 1 = .ok (.getfield 12, 3) := by decide +kernel
theorem dX6_readFineAndWood_4 : decode cX6_readFineAndWood 4 = .ok (.iconst 1, 1) := by decide +kernel
theorem dX6_readFineAndWood_5 : decode cX6_readFineAndWood 5 = .ok (.putfield 71, 3) := by decide +kernel
theorem dX6_readFineAndWood_8 : decode cX6_readFineAndWood 8 = .ok (.aload_n 0, 1) := by decide +kernel
theorem dX6_readFineAndWood_9 : decode cX6_readFineAndWood 9 = .ok (.getfield 12, 3) := by decide +kernel
theorem dX6_readFineAndWood_12 : decode cX6_readFineAndWood 12 = .ok (.aload_n 0, 1) := by decide +kernel
theorem dX6_readFineAndWood_13 : decode cX6_readFineAndWood 13 = .ok (.iconst 0, 1) := by decide +kernel
theorem dX6_readFineAndWood_14 : decode cX6_readFineAndWood 14 = .ok (.bipush 99, 2) := by decide +kernel
theorem dX6_readFineAndWood_16 : decode cX6_readFineAndWood 16 = .ok (.invokevirtual 85, 3) := by decide +kernel
theorem dX6_readFineAndWood_19 : decode cX6_readFineAndWood 19 = .ok (.putfield 89, 3) := by decide +kernel
theorem dX6_readFineAndWood_22 : decode cX6_readFineAndWood 22 = .ok (.aload_n 0, 1) := by decide +kernel
theorem dX6_readFineAndWood_23 : decode cX6_readFineAndWood 23 = .ok (.getfield 12, 3) := by decide +kernel
theorem dX6_readFineAndWood_26 : decode cX6_readFineAndWood 26 = .ok (.aload_n 0, 1) := by decide +kernel
theorem dX6_readFineAndWood_27 : decode cX6_readFineAndWood 27 = .ok (.iconst 0, 1) := by decide +kernel
theorem dX6_readFineAndWood_28 : decode cX6_readFineAndWood 28 = .ok (.bipush 99, 2) := by decide +kernel
theorem dX6_readFineAndWood_30 : decode cX6_readFineAndWood 30 = .ok (.invokevirtual 85, 3) := by decide +kernel
theorem dX6_readFineAndWood_33 : decode cX6_readFineAndWood 33 = .ok (.putfield 92, 3) := by decide +kernel
theorem dX6_readFineAndWood_36 : decode cX6_readFineAndWood 36 = .ok (.return_, 1) := by decide +kernel
theorem dX6_readTable_0 : decode cX6_readTable 0 = .ok (.aload_n 0, 1) := by decide +kernel
theorem dX6_readTable_1 : decode cX6_readTable 1 = .ok (.iconst 1, 1) := by decide +kernel
theorem dX6_readTable_2 : decode cX6_readTable 2 = .ok (.bipush 12, 2) := by decide +kernel
theorem dX6_readTable_4 : decode cX6_readTable 4 = .ok (.invokevirtual 85, 3) := by decide +kernel
theorem dX6_readTable_7 : decode cX6_readTable 7 = .ok (.istore_n 1, 1) := by decide +kernel
theorem dX6_readTable_8 : decode cX6_readTable 8 = .ok (.aload_n 0, 1) := by decide +kernel
theorem dX6_readTable_9 : decode cX6_readTable 9 = .ok (.iconst 0, 1) := by decide +kernel
theorem dX6_readTable_10 : decode cX6_readTable 10 = .ok (.iload_n 1, 1) := by decide +kernel
theorem dX6_readTable_11 : decode cX6_readTable 11 = .ok (.invokevirtual 85, 3) := by decide +kernel
theorem dX6_readTable_14 : decode cX6_readTable 14 = .ok (.istore_n 2, 1) := by decide +kernel
theorem dX6_readTable_15 : decode cX6_readTable 15 = .ok (.aload_n 0, 1) := by decide +kernel
theorem dX6_readTable_16 : decode cX6_readTable 16 = .ok (.getfield 35, 3) := by decide +kernel
theorem dX6_readTable_19 : decode cX6_readTable 19 = .ok (.ifCond .ne 12, 3) := by decide +kernel
theorem dX6_readTable_22 : decode cX6_readTable 22 = .ok (.aload_n 0, 1) := by decide +kernel
theorem dX6_readTable_23 : decode cX6_readTable 23 = .ok (.getfield 12, 3) := by decide +kernel
theorem dX6_readTable_26 : decode cX6_readTable 26 = .ok (.iload_n 1, 1) := by decide +kernel
theorem dX6_readTable_27 : decode cX6_readTable 27 = .ok (.iload_n 2, 1) := by decide +kernel
theorem dX6_readTable_28 : decode cX6_readTable 28 = .ok (.invokevirtual 95, 3) := by decide +kernel
theorem dX6_readTable_31 : decode cX6_readTable 31 = .ok (.return_, 1) := by decide +kernel
theorem dX6_readWay_0 : decode cX6_readWay 0 = .ok (.aload_n 0, 1) := by decide +kernel
theorem dX6_readWay_1 : decode cX6_readWay 1 = .ok (.iconst 0, 1) := by decide +kernel
theorem dX6_readWay_2 : decode cX6_readWay 2 = .ok (.aload_n 0, 1) := by decide +kernel
theorem dX6_readWay_3 : decode cX6_readWay 3 = .ok (.getfield 12, 3) := by decide +kernel
theorem dX6_readWay_6 : decode cX6_readWay 6 = .ok (.getfield 75, 3) := by decide +kernel
theorem dX6_readWay_9 : decode cX6_readWay 9 = .ok (.iconst 1, 1) := by decide +kernel
theorem dX6_readWay_10 : decode cX6_readWay 10 = .ok (.isub, 1) := by decide +kernel
theorem dX6_readWay_11 : decode cX6_readWay 11 = .ok (.invokevirtual 85, 3) := by decide +kernel
theorem dX6_readWay_14 : decode cX6_readWay 14 = .ok (.istore_n 1, 1) := by decide +kernel
theorem dX6_readWay_15 : decode cX6_readWay 15 = .ok (.aload_n 0, 1) := by decide +kernel
theorem dX6_readWay_16 : decode cX6_readWay 16 = .ok (.iconst 0, 1) := by decide +kernel
theorem dX6_readWay_17 : decode cX6_readWay 17 = .ok (.aload_n 0, 1) := by decide +kernel
theorem dX6_readWay_18 : decode cX6_readWay 18 = .ok (.getfield 12, 3) := by decide +kernel
theorem dX6_readWay_21 : decode cX6_readWay 21 = .ok (.getfield 75, 3) := by decide +kernel
theorem dX6_readWay_24 : decode cX6_readWay 24 = .ok (.iconst 1, 1) := by decide +kernel
theorem dX6_readWay_25 : decode cX6_readWay 25 = .ok (.isub, 1) := by decide +kernel
theorem dX6_readWay_26 : decode cX6_readWay 26 = .ok (.invokevirtual 85, 3) := by decide +kernel
theorem dX6_readWay_29 : decode cX6_readWay 29 = .ok (.istore_n 2, 1) := by decide +kernel
theorem dX6_readWay_30 : decode cX6_readWay 30 = .ok (.aload_n 0, 1) := by decide +kernel
theorem dX6_readWay_31 : decode cX6_readWay 31 = .ok (.getfield 35, 3) := by decide +kernel
theorem dX6_readWay_34 : decode cX6_readWay 34 = .ok (.ifCond .ne 29, 3) := by decide +kernel
theorem dX6_readWay_37 : decode cX6_readWay 37 = .ok (.iload_n 1, 1) := by decide +kernel
theorem dX6_readWay_38 : decode cX6_readWay 38 = .ok (.iload_n 2, 1) := by decide +kernel
theorem dX6_readWay_39 : decode cX6_readWay 39 = .ok (.if_icmp .eq 15, 3) := by decide +kernel
theorem dX6_readWay_42 : decode cX6_readWay 42 = .ok (.aload_n 0, 1) := by decide +kernel
theorem dX6_readWay_43 : decode cX6_readWay 43 = .ok (.getfield 12, 3) := by decide +kernel
theorem dX6_readWay_46 : decode cX6_readWay 46 = .ok (.iload_n 1, 1) := by decide +kernel
theorem dX6_readWay_47 : decode cX6_readWay 47 = .ok (.iload_n 2, 1) := by decide +kernel
theorem dX6_readWay_48 : decode cX6_readWay 48 = .ok (.invokevirtual 98, 3) := by decide +kernel
theorem dX6_readWay_51 : decode cX6_readWay 51 = .ok (.ifCond .eq 12, 3) := by decide +kernel
theorem dX6_readWay_54 : decode cX6_readWay 54 = .ok (.aload_n 0, 1) := by decide +kernel
theorem dX6_readWay_55 : decode cX6_readWay 55 = .ok (.iconst 4, 1) := by decide +kernel
theorem dX6_readWay_56 : decode cX6_readWay 56 = .ok (.aload_n 0, 1) := by decide +kernel
theorem dX6_readWay_57 : decode cX6_readWay 57 = .ok (.getfield 32, 3) := by decide +kernel
theorem dX6_readWay_60 : decode cX6_readWay 60 = .ok (.invokevirtual 55, 3) := by decide +kernel
theorem dX6_readWay_63 : decode cX6_readWay 63 = .ok (.aload_n 0, 1) := by decide +kernel
theorem dX6_readWay_64 : decode cX6_readWay 64 = .ok (.getfield 35, 3) := by decide +kernel
theorem dX6_readWay_67 : decode cX6_readWay 67 = .ok (.ifCond .ne 12, 3) := by decide +kernel
theorem dX6_readWay_70 : decode cX6_readWay 70 = .ok (.aload_n 0, 1) := by decide +kernel
theorem dX6_readWay_71 : decode cX6_readWay 71 = .ok (.getfield 12, 3) := by decide +kernel
theorem dX6_readWay_74 : decode cX6_readWay 74 = .ok (.iload_n 1, 1) := by decide +kernel
theorem dX6_readWay_75 : decode cX6_readWay 75 = .ok (.iload_n 2, 1) := by decide +kernel
theorem dX6_readWay_76 : decode cX6_readWay 76 = .ok (.invokevirtual 102, 3) := by decide +kernel
theorem dX6_readWay_79 : decode cX6_readWay 79 = .ok (.return_, 1) := by decide +kernel
theorem dX6_readEnd_0 : decode cX6_readEnd 0 = .ok (.aload_n 0, 1) := by decide +kernel
theorem dX6_readEnd_1 : decode cX6_readEnd 1 = .ok (.invokevirtual 41, 3) := by decide +kernel
theorem dX6_readEnd_4 : decode cX6_readEnd 4 = .ok (.aload_n 0, 1) := by decide +kernel
theorem dX6_readEnd_5 : decode cX6_readEnd 5 = .ok (.invokevirtual 47, 3) := by decide +kernel
theorem dX6_readEnd_8 : decode cX6_readEnd 8 = .ok (.bipush 59, 2) := by decide +kernel
theorem dX6_readEnd_10 : decode cX6_readEnd 10 = .ok (.if_icmp .eq 12, 3) := by decide +kernel
theorem dX6_readEnd_13 : decode cX6_readEnd 13 = .ok (.aload_n 0, 1) := by decide +kernel
theorem dX6_readEnd_14 : decode cX6_readEnd 14 = .ok (.iconst 1, 1) := by decide +kernel
theorem dX6_readEnd_15 : decode cX6_readEnd 15 = .ok (.aload_n 0, 1) := by decide +kernel
theorem dX6_readEnd_16 : decode cX6_readEnd 16 = .ok (.getfield 29, 3) := by decide +kernel
theorem dX6_readEnd_19 : decode cX6_readEnd 19 = .ok (.invokevirtual 55, 3) := by decide +kernel
theorem dX6_readEnd_22 : decode cX6_readEnd 22 = .ok (.aload_n 0, 1) := by decide +kernel
theorem dX6_readEnd_23 : decode cX6_readEnd 23 = .ok (.dup, 1) := by decide +kernel
theorem dX6_readEnd_24 : decode cX6_readEnd 24 = .ok (.getfield 29, 3) := by decide +kernel
theorem dX6_readEnd_27 : decode cX6_readEnd 27 = .ok (.iconst 1, 1) := by decide +kernel
theorem dX6_readEnd_28 : decode cX6_readEnd 28 = .ok (.iadd, 1) := by decide +kernel
theorem dX6_readEnd_29 : decode cX6_readEnd 29 = .ok (.putfield 29, 3) := by decide +kernel
theorem dX6_readEnd_32 : decode cX6_readEnd 32 = .ok (.return_, 1) := by decide +kernel
theorem dX6_number_0 : decode cX6_number 0 = .ok (.aload_n 0, 1) := by decide +kernel
theorem dX6_number_1 : decode cX6_number 1 = .ok (.invokevirtual 41, 3) := by decide +kernel
theorem dX6_number_4 : decode cX6_number 4 = .ok (.aload_n 0, 1) := by decide +kernel
theorem dX6_number_5 : decode cX6_number 5 = .ok (.aload_n 0, 1) := by decide +kernel
theorem dX6_number_6 : decode cX6_number 6 = .ok (.getfield 29, 3) := by decide +kernel
theorem dX6_number_9 : decode cX6_number 9 = .ok (.putfield 32, 3) := by decide +kernel
theorem dX6_number_12 : decode cX6_number 12 = .ok (.aload_n 0, 1) := by decide +kernel
theorem dX6_number_13 : decode cX6_number 13 = .ok (.invokevirtual 47, 3) := by decide +kernel
theorem dX6_number_16 : decode cX6_number 16 = .ok (.invokestatic 105, 3) := by decide +kernel
theorem dX6_number_19 : decode cX6_number 19 = .ok (.ifCond .ne 14, 3) := by decide +kernel
theorem dX6_number_22 : decode cX6_number 22 = .ok (.aload_n 0, 1) := by decide +kernel
theorem dX6_number_23 : decode cX6_number 23 = .ok (.iconst 1, 1) := by decide +kernel
theorem dX6_number_24 : decode cX6_number 24 = .ok (.aload_n 0, 1) := by decide +kernel
theorem dX6_number_25 : decode cX6_number 25 = .ok (.getfield 29, 3) := by decide +kernel
theorem dX6_number_28 : decode cX6_number 28 = .ok (.invokevirtual 55, 3) := by decide +kernel
theorem dX6_number_31 : decode cX6_number 31 = .ok (.iload_n 1, 1) := by decide +kernel
theorem dX6_number_32 : decode cX6_number 32 = .ok (.ireturn, 1) := by decide +kernel
theorem dX6_number_33 : decode cX6_number 33 = .ok (.iconst 0, 1) := by decide +kernel
theorem dX6_number_34 : decode cX6_number 34 = .ok (.istore_n 3, 1) := by decide +kernel
theorem dX6_number_35 : decode cX6_number 35 = .ok (.iconst 0, 1) := by decide +kernel
theorem dX6_number_36 : decode cX6_number 36 = .ok (.istore 4, 2) := by decide +kernel
theorem dX6_number_38 : decode cX6_number 38 = .ok (.aload_n 0, 1) := by decide +kernel
theorem dX6_number_39 : decode cX6_number 39 = .ok (.getfield 29, 3) := by decide +kernel
theorem dX6_number_42 : decode cX6_number 42 = .ok (.aload_n 0, 1) := by decide +kernel
theorem dX6_number_43 : decode cX6_number 43 = .ok (.getfield 26, 3) := by decide +kernel
theorem dX6_number_46 : decode cX6_number 46 = .ok (.if_icmp .ge 52, 3) := by decide +kernel
theorem dX6_number_49 : decode cX6_number 49 = .ok (.aload_n 0, 1) := by decide +kernel
theorem dX6_number_50 : decode cX6_number 50 = .ok (.invokevirtual 47, 3) := by decide +kernel
theorem dX6_number_53 : decode cX6_number 53 = .ok (.invokestatic 105, 3) := by decide +kernel
theorem dX6_number_56 : decode cX6_number 56 = .ok (.ifCond .eq 42, 3) := by decide +kernel
theorem dX6_number_59 : decode cX6_number 59 = .ok (.iinc 4 1, 3) := by decide +kernel
theorem dX6_number_62 : decode cX6_number 62 = .ok (.iload 4, 2) := by decide +kernel
theorem dX6_number_64 : decode cX6_number 64 = .ok (.iconst 3, 1) := by decide +kernel
