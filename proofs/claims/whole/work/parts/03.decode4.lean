-- the decode rows as printed for this claim (a starting text)
theorem dX12_breakOne_42 : decode cX12_breakOne 42 = .ok (.iaload, 1) := by decide +kernel
theorem dX12_breakOne_43 : decode cX12_breakOne 43 = .ok (.ireturn, 1) := by decide +kernel
theorem dX12_shut_0 : decode cX12_shut 0 = .ok (.iload_n 1, 1) := by decide +kernel
theorem dX12_shut_1 : decode cX12_shut 1 = .ok (.i2l, 1) := by decide +kernel
theorem dX12_shut_2 : decode cX12_shut 2 = .ok (.lconst 0, 1) := by decide +kernel
theorem dX12_shut_3 : decode cX12_shut 3 = .ok (.aload_n 0, 1) := by decide +kernel
theorem dX12_shut_4 : decode cX12_shut 4 = .ok (.getfield 143, 3) := by decide +kernel
theorem dX12_shut_7 : decode cX12_shut 7 = .ok (.iconst 1, 1) := by decide +kernel
theorem dX12_shut_8 : decode cX12_shut 8 = .ok (.isub, 1) := by decide +kernel
theorem dX12_shut_9 : decode cX12_shut 9 = .ok (.i2l, 1) := by decide +kernel
theorem dX12_shut_10 : decode cX12_shut 10 = .ok (.invokestatic 79, 3) := by decide +kernel
theorem dX12_shut_13 : decode cX12_shut 13 = .ok (.ifCond .ne 6, 3) := by decide +kernel
theorem dX12_shut_16 : decode cX12_shut 16 = .ok (.ldc 190, 2) := by decide +kernel
theorem dX12_shut_18 : decode cX12_shut 18 = .ok (.ireturn, 1) := by decide +kernel
theorem dX12_shut_19 : decode cX12_shut 19 = .ok (.aload_n 0, 1) := by decide +kernel
theorem dX12_shut_20 : decode cX12_shut 20 = .ok (.invokevirtual 195, 3) := by decide +kernel
theorem dX12_shut_23 : decode cX12_shut 23 = .ok (.aload_n 0, 1) := by decide +kernel
theorem dX12_shut_24 : decode cX12_shut 24 = .ok (.getfield 16, 3) := by decide +kernel
theorem dX12_shut_27 : decode cX12_shut 27 = .ok (.bipush 19, 2) := by decide +kernel
theorem dX12_shut_29 : decode cX12_shut 29 = .ok (.iaload, 1) := by decide +kernel
theorem dX12_shut_30 : decode cX12_shut 30 = .ok (.iload_n 1, 1) := by decide +kernel
theorem dX12_shut_31 : decode cX12_shut 31 = .ok (.ishr, 1) := by decide +kernel
theorem dX12_shut_32 : decode cX12_shut 32 = .ok (.iconst 1, 1) := by decide +kernel
theorem dX12_shut_33 : decode cX12_shut 33 = .ok (.iand, 1) := by decide +kernel
theorem dX12_shut_34 : decode cX12_shut 34 = .ok (.istore_n 3, 1) := by decide +kernel
theorem dX12_shut_35 : decode cX12_shut 35 = .ok (.aload_n 0, 1) := by decide +kernel
theorem dX12_shut_36 : decode cX12_shut 36 = .ok (.getfield 16, 3) := by decide +kernel
theorem dX12_shut_39 : decode cX12_shut 39 = .ok (.bipush 19, 2) := by decide +kernel
theorem dX12_shut_41 : decode cX12_shut 41 = .ok (.iload_n 2, 1) := by decide +kernel
theorem dX12_shut_42 : decode cX12_shut 42 = .ok (.ifCond .eq 17, 3) := by decide +kernel
theorem dX12_shut_45 : decode cX12_shut 45 = .ok (.aload_n 0, 1) := by decide +kernel
theorem dX12_shut_46 : decode cX12_shut 46 = .ok (.getfield 16, 3) := by decide +kernel
theorem dX12_shut_49 : decode cX12_shut 49 = .ok (.bipush 19, 2) := by decide +kernel
theorem dX12_shut_51 : decode cX12_shut 51 = .ok (.iaload, 1) := by decide +kernel
theorem dX12_shut_52 : decode cX12_shut 52 = .ok (.iconst 1, 1) := by decide +kernel
theorem dX12_shut_53 : decode cX12_shut 53 = .ok (.iload_n 1, 1) := by decide +kernel
theorem dX12_shut_54 : decode cX12_shut 54 = .ok (.ishl, 1) := by decide +kernel
theorem dX12_shut_55 : decode cX12_shut 55 = .ok (.ior, 1) := by decide +kernel
theorem dX12_shut_56 : decode cX12_shut 56 = .ok (.goto 16, 3) := by decide +kernel
theorem dX12_shut_59 : decode cX12_shut 59 = .ok (.aload_n 0, 1) := by decide +kernel
theorem dX12_shut_60 : decode cX12_shut 60 = .ok (.getfield 16, 3) := by decide +kernel
theorem dX12_shut_63 : decode cX12_shut 63 = .ok (.bipush 19, 2) := by decide +kernel
theorem dX12_shut_65 : decode cX12_shut 65 = .ok (.iaload, 1) := by decide +kernel
theorem dX12_shut_66 : decode cX12_shut 66 = .ok (.iconst 1, 1) := by decide +kernel
theorem dX12_shut_67 : decode cX12_shut 67 = .ok (.iload_n 1, 1) := by decide +kernel
theorem dX12_shut_68 : decode cX12_shut 68 = .ok (.ishl, 1) := by decide +kernel
theorem dX12_shut_69 : decode cX12_shut 69 = .ok (.iconst (-1), 1) := by decide +kernel
theorem dX12_shut_70 : decode cX12_shut 70 = .ok (.ixor, 1) := by decide +kernel
theorem dX12_shut_71 : decode cX12_shut 71 = .ok (.iand, 1) := by decide +kernel
theorem dX12_shut_72 : decode cX12_shut 72 = .ok (.iastore, 1) := by decide +kernel
theorem dX12_shut_73 : decode cX12_shut 73 = .ok (.iload_n 3, 1) := by decide +kernel
theorem dX12_shut_74 : decode cX12_shut 74 = .ok (.ireturn, 1) := by decide +kernel
theorem dX12_draw_0 : decode cX12_draw 0 = .ok (.aload_n 0, 1) := by decide +kernel
theorem dX12_draw_1 : decode cX12_draw 1 = .ok (.aload_n 0, 1) := by decide +kernel
theorem dX12_draw_2 : decode cX12_draw 2 = .ok (.getfield 202, 3) := by decide +kernel
theorem dX12_draw_5 : decode cX12_draw 5 = .ok (.i2l, 1) := by decide +kernel
theorem dX12_draw_6 : decode cX12_draw 6 = .ok (.ldc2_w 205, 3) := by decide +kernel
theorem dX12_draw_9 : decode cX12_draw 9 = .ok (.lmul, 1) := by decide +kernel
theorem dX12_draw_10 : decode cX12_draw 10 = .ok (.ldc2_w 207, 3) := by decide +kernel
theorem dX12_draw_13 : decode cX12_draw 13 = .ok (.ladd, 1) := by decide +kernel
theorem dX12_draw_14 : decode cX12_draw 14 = .ok (.ldc2_w 209, 3) := by decide +kernel
theorem dX12_draw_17 : decode cX12_draw 17 = .ok (.lrem, 1) := by decide +kernel
theorem dX12_draw_18 : decode cX12_draw 18 = .ok (.l2i, 1) := by decide +kernel
theorem dX12_draw_19 : decode cX12_draw 19 = .ok (.putfield 202, 3) := by decide +kernel
theorem dX12_draw_22 : decode cX12_draw 22 = .ok (.aload_n 0, 1) := by decide +kernel
theorem dX12_draw_23 : decode cX12_draw 23 = .ok (.getfield 202, 3) := by decide +kernel
theorem dX12_draw_26 : decode cX12_draw 26 = .ok (.ldc 211, 2) := by decide +kernel
theorem dX12_draw_28 : decode cX12_draw 28 = .ok (.idiv, 1) := by decide +kernel
theorem dX12_draw_29 : decode cX12_draw 29 = .ok (.iload_n 1, 1) := by decide +kernel
theorem dX12_draw_30 : decode cX12_draw 30 = .ok (.irem, 1) := by decide +kernel
theorem dX12_draw_31 : decode cX12_draw 31 = .ok (.ireturn, 1) := by decide +kernel
theorem dX12_chance_0 : decode cX12_chance 0 = .ok (.aload_n 0, 1) := by decide +kernel
theorem dX12_chance_1 : decode cX12_chance 1 = .ok (.aload_n 0, 1) := by decide +kernel
theorem dX12_chance_2 : decode cX12_chance 2 = .ok (.getfield 76, 3) := by decide +kernel
theorem dX12_chance_5 : decode cX12_chance 5 = .ok (.invokevirtual 212, 3) := by decide +kernel
theorem dX12_chance_8 : decode cX12_chance 8 = .ok (.istore_n 1, 1) := by decide +kernel
theorem dX12_chance_9 : decode cX12_chance 9 = .ok (.aload_n 0, 1) := by decide +kernel
theorem dX12_chance_10 : decode cX12_chance 10 = .ok (.iconst 3, 1) := by decide +kernel
theorem dX12_chance_11 : decode cX12_chance 11 = .ok (.invokevirtual 212, 3) := by decide +kernel
theorem dX12_chance_14 : decode cX12_chance 14 = .ok (.istore_n 2, 1) := by decide +kernel
theorem dX12_chance_15 : decode cX12_chance 15 = .ok (.iload_n 2, 1) := by decide +kernel
theorem dX12_chance_16 : decode cX12_chance 16 = .ok (.ifCond .ne 35, 3) := by decide +kernel
theorem dX12_chance_19 : decode cX12_chance 19 = .ok (.aload_n 0, 1) := by decide +kernel
theorem dX12_chance_20 : decode cX12_chance 20 = .ok (.getfield 16, 3) := by decide +kernel
theorem dX12_chance_23 : decode cX12_chance 23 = .ok (.bipush 9, 2) := by decide +kernel
theorem dX12_chance_25 : decode cX12_chance 25 = .ok (.iload_n 1, 1) := by decide +kernel
theorem dX12_chance_26 : decode cX12_chance 26 = .ok (.iadd, 1) := by decide +kernel
theorem dX12_chance_27 : decode cX12_chance 27 = .ok (.dup2, 1) := by decide +kernel
theorem dX12_chance_28 : decode cX12_chance 28 = .ok (.iaload, 1) := by decide +kernel
theorem dX12_chance_29 : decode cX12_chance 29 = .ok (.aload_n 0, 1) := by decide +kernel
theorem dX12_chance_30 : decode cX12_chance 30 = .ok (.getfield 16, 3) := by decide +kernel
theorem dX12_chance_33 : decode cX12_chance 33 = .ok (.bipush 9, 2) := by decide +kernel
theorem dX12_chance_35 : decode cX12_chance 35 = .ok (.iload_n 1, 1) := by decide +kernel
theorem dX12_chance_36 : decode cX12_chance 36 = .ok (.iadd, 1) := by decide +kernel
theorem dX12_chance_37 : decode cX12_chance 37 = .ok (.iaload, 1) := by decide +kernel
theorem dX12_chance_38 : decode cX12_chance 38 = .ok (.ifCond .le 7, 3) := by decide +kernel
theorem dX12_chance_41 : decode cX12_chance 41 = .ok (.iconst 1, 1) := by decide +kernel
theorem dX12_chance_42 : decode cX12_chance 42 = .ok (.goto 4, 3) := by decide +kernel
theorem dX12_chance_45 : decode cX12_chance 45 = .ok (.iconst 0, 1) := by decide +kernel
theorem dX12_chance_46 : decode cX12_chance 46 = .ok (.isub, 1) := by decide +kernel
theorem dX12_chance_47 : decode cX12_chance 47 = .ok (.iastore, 1) := by decide +kernel
theorem dX12_chance_48 : decode cX12_chance 48 = .ok (.goto 9, 3) := by decide +kernel
theorem dX12_chance_51 : decode cX12_chance 51 = .ok (.aload_n 0, 1) := by decide +kernel
theorem dX12_chance_52 : decode cX12_chance 52 = .ok (.iload_n 1, 1) := by decide +kernel
theorem dX12_chance_53 : decode cX12_chance 53 = .ok (.invokevirtual 198, 3) := by decide +kernel
theorem dX12_chance_56 : decode cX12_chance 56 = .ok (.pop, 1) := by decide +kernel
theorem dX12_chance_57 : decode cX12_chance 57 = .ok (.return_, 1) := by decide +kernel
theorem dX12_drift_0 : decode cX12_drift 0 = .ok (.iload_n 1, 1) := by decide +kernel
theorem dX12_drift_1 : decode cX12_drift 1 = .ok (.i2l, 1) := by decide +kernel
theorem dX12_drift_2 : decode cX12_drift 2 = .ok (.lconst 1, 1) := by decide +kernel
theorem dX12_drift_3 : decode cX12_drift 3 = .ok (.ldc2_w 215, 3) := by decide +kernel
theorem dX12_drift_6 : decode cX12_drift 6 = .ok (.invokestatic 79, 3) := by decide +kernel
theorem dX12_drift_9 : decode cX12_drift 9 = .ok (.ifCond .ne 6, 3) := by decide +kernel
theorem dX12_drift_12 : decode cX12_drift 12 = .ok (.ldc 85, 2) := by decide +kernel
theorem dX12_drift_14 : decode cX12_drift 14 = .ok (.ireturn, 1) := by decide +kernel
theorem dX12_drift_15 : decode cX12_drift 15 = .ok (.aload_n 0, 1) := by decide +kernel
theorem dX12_drift_16 : decode cX12_drift 16 = .ok (.getfield 72, 3) := by decide +kernel
theorem dX12_drift_19 : decode cX12_drift 19 = .ok (.ifCond .ne 6, 3) := by decide +kernel
theorem dX12_drift_22 : decode cX12_drift 22 = .ok (.ldc 201, 2) := by decide +kernel
theorem dX12_drift_24 : decode cX12_drift 24 = .ok (.ireturn, 1) := by decide +kernel
theorem dX12_drift_25 : decode cX12_drift 25 = .ok (.aload_n 0, 1) := by decide +kernel
theorem dX12_drift_26 : decode cX12_drift 26 = .ok (.getfield 16, 3) := by decide +kernel
theorem dX12_drift_29 : decode cX12_drift 29 = .ok (.bipush 24, 2) := by decide +kernel
theorem dX12_drift_31 : decode cX12_drift 31 = .ok (.iaload, 1) := by decide +kernel
theorem dX12_drift_32 : decode cX12_drift 32 = .ok (.sipush 9000, 3) := by decide +kernel
theorem dX12_drift_35 : decode cX12_drift 35 = .ok (.if_icmp .le 6, 3) := by decide +kernel
theorem dX12_drift_38 : decode cX12_drift 38 = .ok (.ldc 89, 2) := by decide +kernel
theorem dX12_drift_40 : decode cX12_drift 40 = .ok (.ireturn, 1) := by decide +kernel
theorem dX12_drift_41 : decode cX12_drift 41 = .ok (.aload_n 0, 1) := by decide +kernel
theorem dX12_drift_42 : decode cX12_drift 42 = .ok (.invokevirtual 195, 3) := by decide +kernel
theorem dX12_drift_45 : decode cX12_drift 45 = .ok (.iconst 0, 1) := by decide +kernel
theorem dX12_drift_46 : decode cX12_drift 46 = .ok (.istore_n 2, 1) := by decide +kernel
theorem dX12_drift_47 : decode cX12_drift 47 = .ok (.iload_n 2, 1) := by decide +kernel
theorem dX12_drift_48 : decode cX12_drift 48 = .ok (.iload_n 1, 1) := by decide +kernel
theorem dX12_drift_49 : decode cX12_drift 49 = .ok (.if_icmp .ge 20, 3) := by decide +kernel
theorem dX12_drift_52 : decode cX12_drift 52 = .ok (.aload_n 0, 1) := by decide +kernel
theorem dX12_drift_53 : decode cX12_drift 53 = .ok (.getfield 76, 3) := by decide +kernel
theorem dX12_drift_56 : decode cX12_drift 56 = .ok (.ifCond .le 13, 3) := by decide +kernel
theorem dX12_drift_59 : decode cX12_drift 59 = .ok (.aload_n 0, 1) := by decide +kernel
theorem dX12_drift_60 : decode cX12_drift 60 = .ok (.invokevirtual 217, 3) := by decide +kernel
theorem dX12_drift_63 : decode cX12_drift 63 = .ok (.iinc 2 1, 3) := by decide +kernel
theorem dX12_drift_66 : decode cX12_drift 66 = .ok (.goto (-19), 3) := by decide +kernel
theorem dX12_drift_69 : decode cX12_drift 69 = .ok (.aload_n 0, 1) := by decide +kernel
theorem dX12_drift_70 : decode cX12_drift 70 = .ok (.invokevirtual 178, 3) := by decide +kernel
theorem dX12_drift_73 : decode cX12_drift 73 = .ok (.ireturn, 1) := by decide +kernel
theorem dX12_undo_0 : decode cX12_undo 0 = .ok (.aload_n 0, 1) := by decide +kernel
theorem dX12_undo_1 : decode cX12_undo 1 = .ok (.getfield 158, 3) := by decide +kernel
theorem dX12_undo_4 : decode cX12_undo 4 = .ok (.ifCond .ne 6, 3) := by decide +kernel
theorem dX12_undo_7 : decode cX12_undo 7 = .ok (.ldc 201, 2) := by decide +kernel
theorem dX12_undo_9 : decode cX12_undo 9 = .ok (.ireturn, 1) := by decide +kernel
theorem dX12_undo_10 : decode cX12_undo 10 = .ok (.aload_n 0, 1) := by decide +kernel
theorem dX12_undo_11 : decode cX12_undo 11 = .ok (.dup, 1) := by decide +kernel
theorem dX12_undo_12 : decode cX12_undo 12 = .ok (.getfield 158, 3) := by decide +kernel
theorem dX12_undo_15 : decode cX12_undo 15 = .ok (.iconst 1, 1) := by decide +kernel
theorem dX12_undo_16 : decode cX12_undo 16 = .ok (.isub, 1) := by decide +kernel
theorem dX12_undo_17 : decode cX12_undo 17 = .ok (.putfield 158, 3) := by decide +kernel
theorem dX12_undo_20 : decode cX12_undo 20 = .ok (.iconst 0, 1) := by decide +kernel
theorem dX12_undo_21 : decode cX12_undo 21 = .ok (.istore_n 1, 1) := by decide +kernel
theorem dX12_undo_22 : decode cX12_undo 22 = .ok (.iload_n 1, 1) := by decide +kernel
theorem dX12_undo_23 : decode cX12_undo 23 = .ok (.bipush 25, 2) := by decide +kernel
theorem dX12_undo_25 : decode cX12_undo 25 = .ok (.if_icmp .ge 29, 3) := by decide +kernel
theorem dX12_undo_28 : decode cX12_undo 28 = .ok (.aload_n 0, 1) := by decide +kernel
theorem dX12_undo_29 : decode cX12_undo 29 = .ok (.getfield 16, 3) := by decide +kernel
theorem dX12_undo_32 : decode cX12_undo 32 = .ok (.iload_n 1, 1) := by decide +kernel
theorem dX12_undo_33 : decode cX12_undo 33 = .ok (.aload_n 0, 1) := by decide +kernel
theorem dX12_undo_34 : decode cX12_undo 34 = .ok (.getfield 44, 3) := by decide +kernel
theorem dX12_undo_37 : decode cX12_undo 37 = .ok (.bipush 25, 2) := by decide +kernel
theorem dX12_undo_39 : decode cX12_undo 39 = .ok (.aload_n 0, 1) := by decide +kernel
theorem dX12_undo_40 : decode cX12_undo 40 = .ok (.getfield 158, 3) := by decide +kernel
theorem dX12_undo_43 : decode cX12_undo 43 = .ok (.imul, 1) := by decide +kernel
theorem dX12_undo_44 : decode cX12_undo 44 = .ok (.iload_n 1, 1) := by decide +kernel
theorem dX12_undo_45 : decode cX12_undo 45 = .ok (.iadd, 1) := by decide +kernel
theorem dX12_undo_46 : decode cX12_undo 46 = .ok (.iaload, 1) := by decide +kernel
theorem dX12_undo_47 : decode cX12_undo 47 = .ok (.iastore, 1) := by decide +kernel
theorem dX12_undo_48 : decode cX12_undo 48 = .ok (.iinc 1 1, 3) := by decide +kernel
theorem dX12_undo_51 : decode cX12_undo 51 = .ok (.goto (-29), 3) := by decide +kernel
theorem dX12_undo_54 : decode cX12_undo 54 = .ok (.aload_n 0, 1) := by decide +kernel
theorem dX12_undo_55 : decode cX12_undo 55 = .ok (.getfield 158, 3) := by decide +kernel
theorem dX12_undo_58 : decode cX12_undo 58 = .ok (.ireturn, 1) := by decide +kernel
theorem dX12_chain_0 : decode cX12_chain 0 = .ok (.aload_n 0, 1) := by decide +kernel
theorem dX12_chain_1 : decode cX12_chain 1 = .ok (.iload_n 1, 1) := by decide +kernel
theorem dX12_chain_2 : decode cX12_chain 2 = .ok (.invokevirtual 187, 3) := by decide +kernel
theorem dX12_chain_5 : decode cX12_chain 5 = .ok (.ifCond .ne 6, 3) := by decide +kernel
theorem dX12_chain_8 : decode cX12_chain 8 = .ok (.ldc 190, 2) := by decide +kernel
theorem dX12_chain_10 : decode cX12_chain 10 = .ok (.ireturn, 1) := by decide +kernel
theorem dX12_chain_11 : decode cX12_chain 11 = .ok (.aload_n 0, 1) := by decide +kernel
theorem dX12_chain_12 : decode cX12_chain 12 = .ok (.invokevirtual 175, 3) := by decide +kernel
theorem dX12_chain_15 : decode cX12_chain 15 = .ok (.aload_n 0, 1) := by decide +kernel
theorem dX12_chain_16 : decode cX12_chain 16 = .ok (.getfield 41, 3) := by decide +kernel
theorem dX12_chain_19 : decode cX12_chain 19 = .ok (.iload_n 1, 1) := by decide +kernel
theorem dX12_chain_20 : decode cX12_chain 20 = .ok (.iaload, 1) := by decide +kernel
theorem dX12_chain_21 : decode cX12_chain 21 = .ok (.sipush 1000, 3) := by decide +kernel
theorem dX12_chain_24 : decode cX12_chain 24 = .ok (.if_icmp .ne 5, 3) := by decide +kernel
theorem dX12_chain_27 : decode cX12_chain 27 = .ok (.iconst (-1), 1) := by decide +kernel
theorem dX12_chain_28 : decode cX12_chain 28 = .ok (.ireturn, 1) := by decide +kernel
theorem dX12_chain_29 : decode cX12_chain 29 = .ok (.iload_n 2, 1) := by decide +kernel
theorem dX12_chain_30 : decode cX12_chain 30 = .ok (.iconst (-1), 1) := by decide +kernel
theorem dX12_chain_31 : decode cX12_chain 31 = .ok (.if_icmp .ne 10, 3) := by decide +kernel
theorem dX12_chain_34 : decode cX12_chain 34 = .ok (.aload_n 0, 1) := by decide +kernel
theorem dX12_chain_35 : decode cX12_chain 35 = .ok (.getfield 41, 3) := by decide +kernel
theorem dX12_chain_38 : decode cX12_chain 38 = .ok (.iload_n 1, 1) := by decide +kernel
theorem dX12_chain_39 : decode cX12_chain 39 = .ok (.iaload, 1) := by decide +kernel
theorem dX12_chain_40 : decode cX12_chain 40 = .ok (.ireturn, 1) := by decide +kernel
theorem dX12_chain_41 : decode cX12_chain 41 = .ok (.iload_n 2, 1) := by decide +kernel
theorem dX12_chain_42 : decode cX12_chain 42 = .ok (.i2l, 1) := by decide +kernel
theorem dX12_chain_43 : decode cX12_chain 43 = .ok (.lconst 0, 1) := by decide +kernel
theorem dX12_chain_44 : decode cX12_chain 44 = .ok (.aload_n 0, 1) := by decide +kernel
theorem dX12_chain_45 : decode cX12_chain 45 = .ok (.getfield 41, 3) := by decide +kernel
theorem dX12_chain_48 : decode cX12_chain 48 = .ok (.iload_n 1, 1) := by decide +kernel
theorem dX12_chain_49 : decode cX12_chain 49 = .ok (.iaload, 1) := by decide +kernel
theorem dX12_chain_50 : decode cX12_chain 50 = .ok (.i2l, 1) := by decide +kernel
theorem dX12_chain_51 : decode cX12_chain 51 = .ok (.invokestatic 79, 3) := by decide +kernel
theorem dX12_chain_54 : decode cX12_chain 54 = .ok (.ifCond .ne 5, 3) := by decide +kernel
theorem dX12_chain_57 : decode cX12_chain 57 = .ok (.iconst (-1), 1) := by decide +kernel
theorem dX12_chain_58 : decode cX12_chain 58 = .ok (.ireturn, 1) := by decide +kernel
theorem dX12_chain_59 : decode cX12_chain 59 = .ok (.iload_n 1, 1) := by decide +kernel
theorem dX12_chain_60 : decode cX12_chain 60 = .ok (.istore_n 3, 1) := by decide +kernel
theorem dX12_chain_61 : decode cX12_chain 61 = .ok (.iconst 0, 1) := by decide +kernel
theorem dX12_chain_62 : decode cX12_chain 62 = .ok (.istore 4, 2) := by decide +kernel
theorem dX12_chain_64 : decode cX12_chain 64 = .ok (.iload 4, 2) := by decide +kernel
theorem dX12_chain_66 : decode cX12_chain 66 = .ok (.iload_n 2, 1) := by decide +kernel
theorem dX12_chain_67 : decode cX12_chain 67 = .ok (.if_icmp .ge 15, 3) := by decide +kernel
theorem dX12_chain_70 : decode cX12_chain 70 = .ok (.aload_n 0, 1) := by decide +kernel
theorem dX12_chain_71 : decode cX12_chain 71 = .ok (.iload_n 3, 1) := by decide +kernel
theorem dX12_chain_72 : decode cX12_chain 72 = .ok (.invokevirtual 172, 3) := by decide +kernel
theorem dX12_chain_75 : decode cX12_chain 75 = .ok (.istore_n 3, 1) := by decide +kernel
theorem dX12_chain_76 : decode cX12_chain 76 = .ok (.iinc 4 1, 3) := by decide +kernel
theorem dX12_chain_79 : decode cX12_chain 79 = .ok (.goto (-15), 3) := by decide +kernel
theorem dX12_chain_82 : decode cX12_chain 82 = .ok (.iload_n 3, 1) := by decide +kernel
theorem dX12_chain_83 : decode cX12_chain 83 = .ok (.ireturn, 1) := by decide +kernel
theorem dX12_together_0 : decode cX12_together 0 = .ok (.iconst 1, 1) := by decide +kernel
theorem dX12_together_1 : decode cX12_together 1 = .ok (.iload_n 1, 1) := by decide +kernel
theorem dX12_together_2 : decode cX12_together 2 = .ok (.ishl, 1) := by decide +kernel
theorem dX12_together_3 : decode cX12_together 3 = .ok (.istore_n 2, 1) := by decide +kernel
theorem dX12_together_4 : decode cX12_together 4 = .ok (.iconst 0, 1) := by decide +kernel
theorem dX12_together_5 : decode cX12_together 5 = .ok (.istore_n 3, 1) := by decide +kernel
theorem dX12_together_6 : decode cX12_together 6 = .ok (.iload_n 3, 1) := by decide +kernel
theorem dX12_together_7 : decode cX12_together 7 = .ok (.bipush 9, 2) := by decide +kernel
theorem dX12_together_9 : decode cX12_together 9 = .ok (.if_icmp .ge 49, 3) := by decide +kernel
theorem dX12_together_12 : decode cX12_together 12 = .ok (.iconst 0, 1) := by decide +kernel
theorem dX12_together_13 : decode cX12_together 13 = .ok (.istore 4, 2) := by decide +kernel
theorem dX12_together_15 : decode cX12_together 15 = .ok (.iload 4, 2) := by decide +kernel
theorem dX12_together_17 : decode cX12_together 17 = .ok (.aload_n 0, 1) := by decide +kernel
theorem dX12_together_18 : decode cX12_together 18 = .ok (.getfield 76, 3) := by decide +kernel
theorem dX12_together_21 : decode cX12_together 21 = .ok (.if_icmp .ge 31, 3) := by decide +kernel
theorem dX12_together_24 : decode cX12_together 24 = .ok (.iload_n 2, 1) := by decide +kernel
theorem dX12_together_25 : decode cX12_together 25 = .ok (.iload_n 2, 1) := by decide +kernel
theorem dX12_together_26 : decode cX12_together 26 = .ok (.iload 4, 2) := by decide +kernel
theorem dX12_together_28 : decode cX12_together 28 = .ok (.invokestatic 161, 3) := by decide +kernel
theorem dX12_together_31 : decode cX12_together 31 = .ok (.ifCond .eq 12, 3) := by decide +kernel
theorem dX12_together_34 : decode cX12_together 34 = .ok (.aload_n 0, 1) := by decide +kernel
theorem dX12_together_35 : decode cX12_together 35 = .ok (.iload 4, 2) := by decide +kernel
theorem dX12_together_37 : decode cX12_together 37 = .ok (.invokevirtual 169, 3) := by decide +kernel
theorem dX12_together_40 : decode cX12_together 40 = .ok (.goto 4, 3) := by decide +kernel
theorem dX12_together_43 : decode cX12_together 43 = .ok (.iconst 0, 1) := by decide +kernel
theorem dX12_together_44 : decode cX12_together 44 = .ok (.ior, 1) := by decide +kernel
theorem dX12_together_45 : decode cX12_together 45 = .ok (.istore_n 2, 1) := by decide +kernel
theorem dX12_together_46 : decode cX12_together 46 = .ok (.iinc 4 1, 3) := by decide +kernel
theorem dX12_together_49 : decode cX12_together 49 = .ok (.goto (-34), 3) := by decide +kernel
theorem dX12_together_52 : decode cX12_together 52 = .ok (.iinc 3 1, 3) := by decide +kernel
theorem dX12_together_55 : decode cX12_together 55 = .ok (.goto (-49), 3) := by decide +kernel
theorem dX12_together_58 : decode cX12_together 58 = .ok (.iload_n 2, 1) := by decide +kernel
theorem dX12_together_59 : decode cX12_together 59 = .ok (.ireturn, 1) := by decide +kernel
theorem dX12_more_0 : decode cX12_more 0 = .ok (.aload_n 0, 1) := by decide +kernel
theorem dX12_more_1 : decode cX12_more 1 = .ok (.iload_n 1, 1) := by decide +kernel
theorem dX12_more_2 : decode cX12_more 2 = .ok (.invokevirtual 187, 3) := by decide +kernel
theorem dX12_more_5 : decode cX12_more 5 = .ok (.ifCond .ne 6, 3) := by decide +kernel
theorem dX12_more_8 : decode cX12_more 8 = .ok (.ldc 190, 2) := by decide +kernel
theorem dX12_more_10 : decode cX12_more 10 = .ok (.ireturn, 1) := by decide +kernel
theorem dX12_more_11 : decode cX12_more 11 = .ok (.aload_n 0, 1) := by decide +kernel
theorem dX12_more_12 : decode cX12_more 12 = .ok (.iload_n 1, 1) := by decide +kernel
theorem dX12_more_13 : decode cX12_more 13 = .ok (.invokevirtual 220, 3) := by decide +kernel
theorem dX12_more_16 : decode cX12_more 16 = .ok (.istore_n 2, 1) := by decide +kernel
theorem dX12_more_17 : decode cX12_more 17 = .ok (.iconst 0, 1) := by decide +kernel
theorem dX12_more_18 : decode cX12_more 18 = .ok (.istore_n 3, 1) := by decide +kernel
theorem dX12_more_19 : decode cX12_more 19 = .ok (.iconst 0, 1) := by decide +kernel
theorem dX12_more_20 : decode cX12_more 20 = .ok (.istore 4, 2) := by decide +kernel
theorem dX12_more_22 : decode cX12_more 22 = .ok (.iload 4, 2) := by decide +kernel
theorem dX12_more_24 : decode cX12_more 24 = .ok (.aload_n 0, 1) := by decide +kernel
theorem dX12_more_25 : decode cX12_more 25 = .ok (.getfield 76, 3) := by decide +kernel
theorem dX12_more_28 : decode cX12_more 28 = .ok (.if_icmp .ge 43, 3) := by decide +kernel
theorem dX12_more_31 : decode cX12_more 31 = .ok (.iload_n 3, 1) := by decide +kernel
theorem dX12_more_32 : decode cX12_more 32 = .ok (.iload_n 2, 1) := by decide +kernel
theorem dX12_more_33 : decode cX12_more 33 = .ok (.iload 4, 2) := by decide +kernel
theorem dX12_more_35 : decode cX12_more 35 = .ok (.invokestatic 161, 3) := by decide +kernel
theorem dX12_more_38 : decode cX12_more 38 = .ok (.ifCond .eq 24, 3) := by decide +kernel
theorem dX12_more_41 : decode cX12_more 41 = .ok (.aload_n 0, 1) := by decide +kernel
theorem dX12_more_42 : decode cX12_more 42 = .ok (.iload 4, 2) := by decide +kernel
theorem dX12_more_44 : decode cX12_more 44 = .ok (.invokevirtual 165, 3) := by decide +kernel
theorem dX12_more_47 : decode cX12_more 47 = .ok (.iconst 1, 1) := by decide +kernel
theorem dX12_more_48 : decode cX12_more 48 = .ok (.if_icmp .le 14, 3) := by decide +kernel
theorem dX12_more_51 : decode cX12_more 51 = .ok (.aload_n 0, 1) := by decide +kernel
theorem dX12_more_52 : decode cX12_more 52 = .ok (.iload 4, 2) := by decide +kernel
theorem dX12_more_54 : decode cX12_more 54 = .ok (.invokevirtual 165, 3) := by decide +kernel
theorem dX12_more_57 : decode cX12_more 57 = .ok (.iconst 1, 1) := by decide +kernel
theorem dX12_more_58 : decode cX12_more 58 = .ok (.isub, 1) := by decide +kernel
theorem dX12_more_59 : decode cX12_more 59 = .ok (.goto 4, 3) := by decide +kernel
theorem dX12_more_62 : decode cX12_more 62 = .ok (.iconst 0, 1) := by decide +kernel
theorem dX12_more_63 : decode cX12_more 63 = .ok (.iadd, 1) := by decide +kernel
theorem dX12_more_64 : decode cX12_more 64 = .ok (.istore_n 3, 1) := by decide +kernel
theorem dX12_more_65 : decode cX12_more 65 = .ok (.iinc 4 1, 3) := by decide +kernel
theorem dX12_more_68 : decode cX12_more 68 = .ok (.goto (-46), 3) := by decide +kernel
theorem dX12_more_71 : decode cX12_more 71 = .ok (.iload_n 3, 1) := by decide +kernel
theorem dX12_more_72 : decode cX12_more 72 = .ok (.ireturn, 1) := by decide +kernel
theorem dX12_far_0 : decode cX12_far 0 = .ok (.iload_n 1, 1) := by decide +kernel
theorem dX12_far_1 : decode cX12_far 1 = .ok (.i2l, 1) := by decide +kernel
theorem dX12_far_2 : decode cX12_far 2 = .ok (.lconst 0, 1) := by decide +kernel
theorem dX12_far_3 : decode cX12_far 3 = .ok (.lconst 1, 1) := by decide +kernel
theorem dX12_far_4 : decode cX12_far 4 = .ok (.invokestatic 79, 3) := by decide +kernel
theorem dX12_far_7 : decode cX12_far 7 = .ok (.ifCond .ne 6, 3) := by decide +kernel
theorem dX12_far_10 : decode cX12_far 10 = .ok (.ldc 85, 2) := by decide +kernel
theorem dX12_far_12 : decode cX12_far 12 = .ok (.ireturn, 1) := by decide +kernel
theorem dX12_far_13 : decode cX12_far 13 = .ok (.aload_n 0, 1) := by decide +kernel
theorem dX12_far_14 : decode cX12_far 14 = .ok (.invokevirtual 175, 3) := by decide +kernel
theorem dX12_far_17 : decode cX12_far 17 = .ok (.iconst (-1), 1) := by decide +kernel
theorem dX12_far_18 : decode cX12_far 18 = .ok (.istore_n 2, 1) := by decide +kernel
theorem dX12_far_19 : decode cX12_far 19 = .ok (.iconst (-1), 1) := by decide +kernel
theorem dX12_far_20 : decode cX12_far 20 = .ok (.istore_n 3, 1) := by decide +kernel
theorem dX12_far_21 : decode cX12_far 21 = .ok (.iconst 0, 1) := by decide +kernel
theorem dX12_far_22 : decode cX12_far 22 = .ok (.istore 4, 2) := by decide +kernel
theorem dX12_far_24 : decode cX12_far 24 = .ok (.iload 4, 2) := by decide +kernel
theorem dX12_far_26 : decode cX12_far 26 = .ok (.aload_n 0, 1) := by decide +kernel
theorem dX12_far_27 : decode cX12_far 27 = .ok (.getfield 76, 3) := by decide +kernel
theorem dX12_far_30 : decode cX12_far 30 = .ok (.if_icmp .ge 50, 3) := by decide +kernel
theorem dX12_far_33 : decode cX12_far 33 = .ok (.aload_n 0, 1) := by decide +kernel
theorem dX12_far_34 : decode cX12_far 34 = .ok (.getfield 41, 3) := by decide +kernel
theorem dX12_far_37 : decode cX12_far 37 = .ok (.iload 4, 2) := by decide +kernel
theorem dX12_far_39 : decode cX12_far 39 = .ok (.iaload, 1) := by decide +kernel
theorem dX12_far_40 : decode cX12_far 40 = .ok (.iload_n 3, 1) := by decide +kernel
theorem dX12_far_41 : decode cX12_far 41 = .ok (.if_icmp .le 8, 3) := by decide +kernel
theorem dX12_far_44 : decode cX12_far 44 = .ok (.iload 4, 2) := by decide +kernel
theorem dX12_far_46 : decode cX12_far 46 = .ok (.goto 4, 3) := by decide +kernel
theorem dX12_far_49 : decode cX12_far 49 = .ok (.iload_n 2, 1) := by decide +kernel
theorem dX12_far_50 : decode cX12_far 50 = .ok (.istore_n 2, 1) := by decide +kernel
theorem dX12_far_51 : decode cX12_far 51 = .ok (.aload_n 0, 1) := by decide +kernel
theorem dX12_far_52 : decode cX12_far 52 = .ok (.getfield 41, 3) := by decide +kernel
theorem dX12_far_55 : decode cX12_far 55 = .ok (.iload 4, 2) := by decide +kernel
theorem dX12_far_57 : decode cX12_far 57 = .ok (.iaload, 1) := by decide +kernel
theorem dX12_far_58 : decode cX12_far 58 = .ok (.iload_n 3, 1) := by decide +kernel
theorem dX12_far_59 : decode cX12_far 59 = .ok (.if_icmp .le 13, 3) := by decide +kernel
theorem dX12_far_62 : decode cX12_far 62 = .ok (.aload_n 0, 1) := by decide +kernel
theorem dX12_far_63 : decode cX12_far 63 = .ok (.getfield 41, 3) := by decide +kernel
theorem dX12_far_66 : decode cX12_far 66 = .ok (.iload 4, 2) := by decide +kernel
theorem dX12_far_68 : decode cX12_far 68 = .ok (.iaload, 1) := by decide +kernel
theorem dX12_far_69 : decode cX12_far 69 = .ok (.goto 4, 3) := by decide +kernel
theorem dX12_far_72 : decode cX12_far 72 = .ok (.iload_n 3, 1) := by decide +kernel
theorem dX12_far_73 : decode cX12_far 73 = .ok (.istore_n 3, 1) := by decide +kernel
theorem dX12_far_74 : decode cX12_far 74 = .ok (.iinc 4 1, 3) := by decide +kernel
theorem dX12_far_77 : decode cX12_far 77 = .ok (.goto (-53), 3) := by decide +kernel
theorem dX12_far_80 : decode cX12_far 80 = .ok (.iload_n 1, 1) := by decide +kernel
theorem dX12_far_81 : decode cX12_far 81 = .ok (.iconst 1, 1) := by decide +kernel
theorem dX12_far_82 : decode cX12_far 82 = .ok (.if_icmp .ne 7, 3) := by decide +kernel
theorem dX12_far_85 : decode cX12_far 85 = .ok (.iload_n 2, 1) := by decide +kernel
theorem dX12_far_86 : decode cX12_far 86 = .ok (.goto 15, 3) := by decide +kernel
theorem dX12_far_89 : decode cX12_far 89 = .ok (.iload_n 3, 1) := by decide +kernel
theorem dX12_far_90 : decode cX12_far 90 = .ok (.sipush 1000, 3) := by decide +kernel
theorem dX12_far_93 : decode cX12_far 93 = .ok (.if_icmp .ne 7, 3) := by decide +kernel
theorem dX12_far_96 : decode cX12_far 96 = .ok (.iconst (-1), 1) := by decide +kernel
theorem dX12_far_97 : decode cX12_far 97 = .ok (.goto 4, 3) := by decide +kernel
theorem dX12_far_100 : decode cX12_far 100 = .ok (.iload_n 3, 1) := by decide +kernel
theorem dX12_far_101 : decode cX12_far 101 = .ok (.ireturn, 1) := by decide +kernel
theorem dX12_save_0 : decode cX12_save 0 = .ok (.iconst 0, 1) := by decide +kernel
theorem dX12_save_1 : decode cX12_save 1 = .ok (.istore_n 1, 1) := by decide +kernel
theorem dX12_save_2 : decode cX12_save 2 = .ok (.iload_n 1, 1) := by decide +kernel
theorem dX12_save_3 : decode cX12_save 3 = .ok (.bipush 25, 2) := by decide +kernel
theorem dX12_save_5 : decode cX12_save 5 = .ok (.if_icmp .ge 21, 3) := by decide +kernel
theorem dX12_save_8 : decode cX12_save 8 = .ok (.aload_n 0, 1) := by decide +kernel
theorem dX12_save_9 : decode cX12_save 9 = .ok (.getfield 47, 3) := by decide +kernel
theorem dX12_save_12 : decode cX12_save 12 = .ok (.iload_n 1, 1) := by decide +kernel
theorem dX12_save_13 : decode cX12_save 13 = .ok (.aload_n 0, 1) := by decide +kernel
theorem dX12_save_14 : decode cX12_save 14 = .ok (.getfield 16, 3) := by decide +kernel
theorem dX12_save_17 : decode cX12_save 17 = .ok (.iload_n 1, 1) := by decide +kernel
theorem dX12_save_18 : decode cX12_save 18 = .ok (.iaload, 1) := by decide +kernel
theorem dX12_save_19 : decode cX12_save 19 = .ok (.iastore, 1) := by decide +kernel
theorem dX12_save_20 : decode cX12_save 20 = .ok (.iinc 1 1, 3) := by decide +kernel
theorem dX12_save_23 : decode cX12_save 23 = .ok (.goto (-21), 3) := by decide +kernel
theorem dX12_save_26 : decode cX12_save 26 = .ok (.return_, 1) := by decide +kernel
theorem dX12_putBack_0 : decode cX12_putBack 0 = .ok (.iconst 0, 1) := by decide +kernel
theorem dX12_putBack_1 : decode cX12_putBack 1 = .ok (.istore_n 1, 1) := by decide +kernel
theorem dX12_putBack_2 : decode cX12_putBack 2 = .ok (.iload_n 1, 1) := by decide +kernel
theorem dX12_putBack_3 : decode cX12_putBack 3 = .ok (.bipush 25, 2) := by decide +kernel
theorem dX12_putBack_5 : decode cX12_putBack 5 = .ok (.if_icmp .ge 21, 3) := by decide +kernel
theorem dX12_putBack_8 : decode cX12_putBack 8 = .ok (.aload_n 0, 1) := by decide +kernel
theorem dX12_putBack_9 : decode cX12_putBack 9 = .ok (.getfield 16, 3) := by decide +kernel
theorem dX12_putBack_12 : decode cX12_putBack 12 = .ok (.iload_n 1, 1) := by decide +kernel
theorem dX12_putBack_13 : decode cX12_putBack 13 = .ok (.aload_n 0, 1) := by decide +kernel
theorem dX12_putBack_14 : decode cX12_putBack 14 = .ok (.getfield 47, 3) := by decide +kernel
theorem dX12_putBack_17 : decode cX12_putBack 17 = .ok (.iload_n 1, 1) := by decide +kernel
theorem dX12_putBack_18 : decode cX12_putBack 18 = .ok (.iaload, 1) := by decide +kernel
theorem dX12_putBack_19 : decode cX12_putBack 19 = .ok (.iastore, 1) := by decide +kernel
theorem dX12_putBack_20 : decode cX12_putBack 20 = .ok (.iinc 1 1, 3) := by decide +kernel
theorem dX12_putBack_23 : decode cX12_putBack 23 = .ok (.goto (-21), 3) := by decide +kernel
theorem dX12_putBack_26 : decode cX12_putBack 26 = .ok (.return_, 1) := by decide +kernel
theorem dX12_bothMoves_0 : decode cX12_bothMoves 0 = .ok (.aload_n 0, 1) := by decide +kernel
theorem dX12_bothMoves_1 : decode cX12_bothMoves 1 = .ok (.iload_n 1, 1) := by decide +kernel
theorem dX12_bothMoves_2 : decode cX12_bothMoves 2 = .ok (.invokevirtual 198, 3) := by decide +kernel
theorem dX12_bothMoves_5 : decode cX12_bothMoves 5 = .ok (.istore_n 3, 1) := by decide +kernel
theorem dX12_bothMoves_6 : decode cX12_bothMoves 6 = .ok (.aload_n 0, 1) := by decide +kernel
theorem dX12_bothMoves_7 : decode cX12_bothMoves 7 = .ok (.iload_n 2, 1) := by decide +kernel
theorem dX12_bothMoves_8 : decode cX12_bothMoves 8 = .ok (.invokevirtual 198, 3) := by decide +kernel
theorem dX12_bothMoves_11 : decode cX12_bothMoves 11 = .ok (.istore 4, 2) := by decide +kernel
theorem dX12_bothMoves_13 : decode cX12_bothMoves 13 = .ok (.aload_n 0, 1) := by decide +kernel
theorem dX12_bothMoves_14 : decode cX12_bothMoves 14 = .ok (.invokevirtual 223, 3) := by decide +kernel
theorem dX12_bothMoves_17 : decode cX12_bothMoves 17 = .ok (.iload_n 3, 1) := by decide +kernel
theorem dX12_bothMoves_18 : decode cX12_bothMoves 18 = .ok (.ifCond .ge 9, 3) := by decide +kernel
theorem dX12_bothMoves_21 : decode cX12_bothMoves 21 = .ok (.sipush 1000, 3) := by decide +kernel
theorem dX12_bothMoves_24 : decode cX12_bothMoves 24 = .ok (.goto 4, 3) := by decide +kernel
theorem dX12_bothMoves_27 : decode cX12_bothMoves 27 = .ok (.iload_n 3, 1) := by decide +kernel
theorem dX12_bothMoves_28 : decode cX12_bothMoves 28 = .ok (.iload 4, 2) := by decide +kernel
theorem dX12_bothMoves_30 : decode cX12_bothMoves 30 = .ok (.ifCond .ge 9, 3) := by decide +kernel
theorem dX12_bothMoves_33 : decode cX12_bothMoves 33 = .ok (.sipush 1000, 3) := by decide +kernel
theorem dX12_bothMoves_36 : decode cX12_bothMoves 36 = .ok (.goto 5, 3) := by decide +kernel
theorem dX12_bothMoves_39 : decode cX12_bothMoves 39 = .ok (.iload 4, 2) := by decide +kernel
theorem dX12_bothMoves_41 : decode cX12_bothMoves 41 = .ok (.iadd, 1) := by decide +kernel
theorem dX12_bothMoves_42 : decode cX12_bothMoves 42 = .ok (.ireturn, 1) := by decide +kernel
theorem dX12_two_0 : decode cX12_two 0 = .ok (.aload_n 0, 1) := by decide +kernel
theorem dX12_two_1 : decode cX12_two 1 = .ok (.iload_n 1, 1) := by decide +kernel
theorem dX12_two_2 : decode cX12_two 2 = .ok (.invokevirtual 187, 3) := by decide +kernel
theorem dX12_two_5 : decode cX12_two 5 = .ok (.ifCond .eq 11, 3) := by decide +kernel
theorem dX12_two_8 : decode cX12_two 8 = .ok (.aload_n 0, 1) := by decide +kernel
theorem dX12_two_9 : decode cX12_two 9 = .ok (.iload_n 2, 1) := by decide +kernel
theorem dX12_two_10 : decode cX12_two 10 = .ok (.invokevirtual 187, 3) := by decide +kernel
theorem dX12_two_13 : decode cX12_two 13 = .ok (.ifCond .ne 6, 3) := by decide +kernel
theorem dX12_two_16 : decode cX12_two 16 = .ok (.ldc 190, 2) := by decide +kernel
theorem dX12_two_18 : decode cX12_two 18 = .ok (.ireturn, 1) := by decide +kernel
theorem dX12_two_19 : decode cX12_two 19 = .ok (.iload_n 3, 1) := by decide +kernel
theorem dX12_two_20 : decode cX12_two 20 = .ok (.i2l, 1) := by decide +kernel
theorem dX12_two_21 : decode cX12_two 21 = .ok (.lconst 0, 1) := by decide +kernel
theorem dX12_two_22 : decode cX12_two 22 = .ok (.lconst 1, 1) := by decide +kernel
theorem dX12_two_23 : decode cX12_two 23 = .ok (.invokestatic 79, 3) := by decide +kernel
theorem dX12_two_26 : decode cX12_two 26 = .ok (.ifCond .ne 6, 3) := by decide +kernel
theorem dX12_two_29 : decode cX12_two 29 = .ok (.ldc 85, 2) := by decide +kernel
theorem dX12_two_31 : decode cX12_two 31 = .ok (.ireturn, 1) := by decide +kernel
theorem dX12_two_32 : decode cX12_two 32 = .ok (.aload_n 0, 1) := by decide +kernel
theorem dX12_two_33 : decode cX12_two 33 = .ok (.invokevirtual 226, 3) := by decide +kernel
theorem dX12_two_36 : decode cX12_two 36 = .ok (.aload_n 0, 1) := by decide +kernel
theorem dX12_two_37 : decode cX12_two 37 = .ok (.iload_n 1, 1) := by decide +kernel
theorem dX12_two_38 : decode cX12_two 38 = .ok (.iload_n 2, 1) := by decide +kernel
theorem dX12_two_39 : decode cX12_two 39 = .ok (.invokevirtual 229, 3) := by decide +kernel
theorem dX12_two_42 : decode cX12_two 42 = .ok (.istore 4, 2) := by decide +kernel
theorem dX12_two_44 : decode cX12_two 44 = .ok (.aload_n 0, 1) := by decide +kernel
theorem dX12_two_45 : decode cX12_two 45 = .ok (.iload_n 2, 1) := by decide +kernel
theorem dX12_two_46 : decode cX12_two 46 = .ok (.iload_n 1, 1) := by decide +kernel
theorem dX12_two_47 : decode cX12_two 47 = .ok (.invokevirtual 229, 3) := by decide +kernel
theorem dX12_two_50 : decode cX12_two 50 = .ok (.istore 5, 2) := by decide +kernel
theorem dX12_two_52 : decode cX12_two 52 = .ok (.iload_n 3, 1) := by decide +kernel
theorem dX12_two_53 : decode cX12_two 53 = .ok (.ifCond .ne 16, 3) := by decide +kernel
theorem dX12_two_56 : decode cX12_two 56 = .ok (.iload 5, 2) := by decide +kernel
theorem dX12_two_58 : decode cX12_two 58 = .ok (.iload 4, 2) := by decide +kernel
theorem dX12_two_60 : decode cX12_two 60 = .ok (.if_icmp .ge 7, 3) := by decide +kernel
theorem dX12_two_63 : decode cX12_two 63 = .ok (.iconst 1, 1) := by decide +kernel
theorem dX12_two_64 : decode cX12_two 64 = .ok (.goto 4, 3) := by decide +kernel
theorem dX12_two_67 : decode cX12_two 67 = .ok (.iconst 0, 1) := by decide +kernel
theorem dX12_two_68 : decode cX12_two 68 = .ok (.ireturn, 1) := by decide +kernel
theorem dX12_two_69 : decode cX12_two 69 = .ok (.iload 5, 2) := by decide +kernel
theorem dX12_two_71 : decode cX12_two 71 = .ok (.iload 4, 2) := by decide +kernel
theorem dX12_two_73 : decode cX12_two 73 = .ok (.if_icmp .ge 8, 3) := by decide +kernel
theorem dX12_two_76 : decode cX12_two 76 = .ok (.iload 5, 2) := by decide +kernel
theorem dX12_two_78 : decode cX12_two 78 = .ok (.goto 5, 3) := by decide +kernel
theorem dX12_two_81 : decode cX12_two 81 = .ok (.iload 4, 2) := by decide +kernel
theorem dX12_two_83 : decode cX12_two 83 = .ok (.ireturn, 1) := by decide +kernel
theorem dX12_allNear_0 : decode cX12_allNear 0 = .ok (.aload_n 0, 1) := by decide +kernel
theorem dX12_allNear_1 : decode cX12_allNear 1 = .ok (.invokevirtual 175, 3) := by decide +kernel
theorem dX12_allNear_4 : decode cX12_allNear 4 = .ok (.iconst 1, 1) := by decide +kernel
theorem dX12_allNear_5 : decode cX12_allNear 5 = .ok (.istore_n 3, 1) := by decide +kernel
theorem dX12_allNear_6 : decode cX12_allNear 6 = .ok (.iconst 0, 1) := by decide +kernel
theorem dX12_allNear_7 : decode cX12_allNear 7 = .ok (.istore 4, 2) := by decide +kernel
theorem dX12_allNear_9 : decode cX12_allNear 9 = .ok (.iload 4, 2) := by decide +kernel
theorem dX12_allNear_11 : decode cX12_allNear 11 = .ok (.aload_n 0, 1) := by decide +kernel
theorem dX12_allNear_12 : decode cX12_allNear 12 = .ok (.getfield 76, 3) := by decide +kernel
theorem dX12_allNear_15 : decode cX12_allNear 15 = .ok (.if_icmp .ge 39, 3) := by decide +kernel
theorem dX12_allNear_18 : decode cX12_allNear 18 = .ok (.iload_n 3, 1) := by decide +kernel
theorem dX12_allNear_19 : decode cX12_allNear 19 = .ok (.ifCond .eq 27, 3) := by decide +kernel
theorem dX12_allNear_22 : decode cX12_allNear 22 = .ok (.iload_n 1, 1) := by decide +kernel
theorem dX12_allNear_23 : decode cX12_allNear 23 = .ok (.iload 4, 2) := by decide +kernel
theorem dX12_allNear_25 : decode cX12_allNear 25 = .ok (.invokestatic 161, 3) := by decide +kernel
theorem dX12_allNear_28 : decode cX12_allNear 28 = .ok (.ifCond .eq 14, 3) := by decide +kernel
theorem dX12_allNear_31 : decode cX12_allNear 31 = .ok (.aload_n 0, 1) := by decide +kernel
theorem dX12_allNear_32 : decode cX12_allNear 32 = .ok (.getfield 41, 3) := by decide +kernel
theorem dX12_allNear_35 : decode cX12_allNear 35 = .ok (.iload 4, 2) := by decide +kernel
theorem dX12_allNear_37 : decode cX12_allNear 37 = .ok (.iaload, 1) := by decide +kernel
theorem dX12_allNear_38 : decode cX12_allNear 38 = .ok (.iload_n 2, 1) := by decide +kernel
theorem dX12_allNear_39 : decode cX12_allNear 39 = .ok (.if_icmp .gt 7, 3) := by decide +kernel
theorem dX12_allNear_42 : decode cX12_allNear 42 = .ok (.iconst 1, 1) := by decide +kernel
theorem dX12_allNear_43 : decode cX12_allNear 43 = .ok (.goto 4, 3) := by decide +kernel
theorem dX12_allNear_46 : decode cX12_allNear 46 = .ok (.iconst 0, 1) := by decide +kernel
theorem dX12_allNear_47 : decode cX12_allNear 47 = .ok (.istore_n 3, 1) := by decide +kernel
theorem dX12_allNear_48 : decode cX12_allNear 48 = .ok (.iinc 4 1, 3) := by decide +kernel
theorem dX12_allNear_51 : decode cX12_allNear 51 = .ok (.goto (-42), 3) := by decide +kernel
theorem dX12_allNear_54 : decode cX12_allNear 54 = .ok (.iload_n 3, 1) := by decide +kernel
theorem dX12_allNear_55 : decode cX12_allNear 55 = .ok (.ireturn, 1) := by decide +kernel
theorem dX12_buildBy_0 : decode cX12_buildBy 0 = .ok (.iload_n 1, 1) := by decide +kernel
theorem dX12_buildBy_1 : decode cX12_buildBy 1 = .ok (.istore_n 3, 1) := by decide +kernel
theorem dX12_buildBy_2 : decode cX12_buildBy 2 = .ok (.bipush 9, 2) := by decide +kernel
theorem dX12_buildBy_4 : decode cX12_buildBy 4 = .ok (.istore 4, 2) := by decide +kernel
theorem dX12_buildBy_6 : decode cX12_buildBy 6 = .ok (.iconst 1, 1) := by decide +kernel
theorem dX12_buildBy_7 : decode cX12_buildBy 7 = .ok (.istore 5, 2) := by decide +kernel
theorem dX12_buildBy_9 : decode cX12_buildBy 9 = .ok (.iconst 0, 1) := by decide +kernel
theorem dX12_buildBy_10 : decode cX12_buildBy 10 = .ok (.istore 6, 2) := by decide +kernel
theorem dX12_buildBy_12 : decode cX12_buildBy 12 = .ok (.iload 6, 2) := by decide +kernel
theorem dX12_buildBy_14 : decode cX12_buildBy 14 = .ok (.iload_n 2, 1) := by decide +kernel
theorem dX12_buildBy_15 : decode cX12_buildBy 15 = .ok (.if_icmp .ge 96, 3) := by decide +kernel
theorem dX12_buildBy_18 : decode cX12_buildBy 18 = .ok (.iload_n 3, 1) := by decide +kernel
theorem dX12_buildBy_19 : decode cX12_buildBy 19 = .ok (.bipush 9, 2) := by decide +kernel
theorem dX12_buildBy_21 : decode cX12_buildBy 21 = .ok (.irem, 1) := by decide +kernel
theorem dX12_buildBy_22 : decode cX12_buildBy 22 = .ok (.istore 7, 2) := by decide +kernel
theorem dX12_buildBy_24 : decode cX12_buildBy 24 = .ok (.iload_n 3, 1) := by decide +kernel
theorem dX12_buildBy_25 : decode cX12_buildBy 25 = .ok (.bipush 9, 2) := by decide +kernel
theorem dX12_buildBy_27 : decode cX12_buildBy 27 = .ok (.idiv, 1) := by decide +kernel
theorem dX12_buildBy_28 : decode cX12_buildBy 28 = .ok (.istore_n 3, 1) := by decide +kernel
theorem dX12_buildBy_29 : decode cX12_buildBy 29 = .ok (.iload 5, 2) := by decide +kernel
theorem dX12_buildBy_31 : decode cX12_buildBy 31 = .ok (.ifCond .eq 23, 3) := by decide +kernel
theorem dX12_buildBy_34 : decode cX12_buildBy 34 = .ok (.iload 7, 2) := by decide +kernel
theorem dX12_buildBy_36 : decode cX12_buildBy 36 = .ok (.iload 4, 2) := by decide +kernel
theorem dX12_buildBy_38 : decode cX12_buildBy 38 = .ok (.if_icmp .gt 16, 3) := by decide +kernel
theorem dX12_buildBy_41 : decode cX12_buildBy 41 = .ok (.iload 7, 2) := by decide +kernel
theorem dX12_buildBy_43 : decode cX12_buildBy 43 = .ok (.aload_n 0, 1) := by decide +kernel
theorem dX12_buildBy_44 : decode cX12_buildBy 44 = .ok (.getfield 76, 3) := by decide +kernel
theorem dX12_buildBy_47 : decode cX12_buildBy 47 = .ok (.if_icmp .ge 7, 3) := by decide +kernel
theorem dX12_buildBy_50 : decode cX12_buildBy 50 = .ok (.iconst 1, 1) := by decide +kernel
theorem dX12_buildBy_51 : decode cX12_buildBy 51 = .ok (.goto 4, 3) := by decide +kernel
theorem dX12_buildBy_54 : decode cX12_buildBy 54 = .ok (.iconst 0, 1) := by decide +kernel
theorem dX12_buildBy_55 : decode cX12_buildBy 55 = .ok (.istore 5, 2) := by decide +kernel
theorem dX12_buildBy_57 : decode cX12_buildBy 57 = .ok (.iload 7, 2) := by decide +kernel
theorem dX12_buildBy_59 : decode cX12_buildBy 59 = .ok (.istore 4, 2) := by decide +kernel
theorem dX12_buildBy_61 : decode cX12_buildBy 61 = .ok (.aload_n 0, 1) := by decide +kernel
theorem dX12_buildBy_62 : decode cX12_buildBy 62 = .ok (.getfield 16, 3) := by decide +kernel
theorem dX12_buildBy_65 : decode cX12_buildBy 65 = .ok (.iload 7, 2) := by decide +kernel
theorem dX12_buildBy_67 : decode cX12_buildBy 67 = .ok (.dup2, 1) := by decide +kernel
theorem dX12_buildBy_68 : decode cX12_buildBy 68 = .ok (.iaload, 1) := by decide +kernel
theorem dX12_buildBy_69 : decode cX12_buildBy 69 = .ok (.iload 5, 2) := by decide +kernel
theorem dX12_buildBy_71 : decode cX12_buildBy 71 = .ok (.ifCond .eq 7, 3) := by decide +kernel
theorem dX12_buildBy_74 : decode cX12_buildBy 74 = .ok (.iconst 1, 1) := by decide +kernel
theorem dX12_buildBy_75 : decode cX12_buildBy 75 = .ok (.goto 4, 3) := by decide +kernel
theorem dX12_buildBy_78 : decode cX12_buildBy 78 = .ok (.iconst 0, 1) := by decide +kernel
theorem dX12_buildBy_79 : decode cX12_buildBy 79 = .ok (.iadd, 1) := by decide +kernel
theorem dX12_buildBy_80 : decode cX12_buildBy 80 = .ok (.iastore, 1) := by decide +kernel
theorem dX12_buildBy_81 : decode cX12_buildBy 81 = .ok (.iload 5, 2) := by decide +kernel
theorem dX12_buildBy_83 : decode cX12_buildBy 83 = .ok (.ifCond .eq 19, 3) := by decide +kernel
theorem dX12_buildBy_86 : decode cX12_buildBy 86 = .ok (.aload_n 0, 1) := by decide +kernel
theorem dX12_buildBy_87 : decode cX12_buildBy 87 = .ok (.getfield 16, 3) := by decide +kernel
theorem dX12_buildBy_90 : decode cX12_buildBy 90 = .ok (.iload 7, 2) := by decide +kernel
theorem dX12_buildBy_92 : decode cX12_buildBy 92 = .ok (.iaload, 1) := by decide +kernel
theorem dX12_buildBy_93 : decode cX12_buildBy 93 = .ok (.bipush 20, 2) := by decide +kernel
theorem dX12_buildBy_95 : decode cX12_buildBy 95 = .ok (.if_icmp .gt 7, 3) := by decide +kernel
theorem dX12_buildBy_98 : decode cX12_buildBy 98 = .ok (.iconst 1, 1) := by decide +kernel
theorem dX12_buildBy_99 : decode cX12_buildBy 99 = .ok (.goto 4, 3) := by decide +kernel
theorem dX12_buildBy_102 : decode cX12_buildBy 102 = .ok (.iconst 0, 1) := by decide +kernel
theorem dX12_buildBy_103 : decode cX12_buildBy 103 = .ok (.istore 5, 2) := by decide +kernel
theorem dX12_buildBy_105 : decode cX12_buildBy 105 = .ok (.iinc 6 1, 3) := by decide +kernel
theorem dX12_buildBy_108 : decode cX12_buildBy 108 = .ok (.goto (-96), 3) := by decide +kernel
theorem dX12_buildBy_111 : decode cX12_buildBy 111 = .ok (.iload 5, 2) := by decide +kernel
theorem dX12_buildBy_113 : decode cX12_buildBy 113 = .ok (.ireturn, 1) := by decide +kernel
theorem dX12_findChairs_0 : decode cX12_findChairs 0 = .ok (.aload_n 0, 1) := by decide +kernel
theorem dX12_findChairs_1 : decode cX12_findChairs 1 = .ok (.invokevirtual 226, 3) := by decide +kernel
theorem dX12_findChairs_4 : decode cX12_findChairs 4 = .ok (.iconst 1, 1) := by decide +kernel
theorem dX12_findChairs_5 : decode cX12_findChairs 5 = .ok (.istore_n 3, 1) := by decide +kernel
theorem dX12_findChairs_6 : decode cX12_findChairs 6 = .ok (.iconst 0, 1) := by decide +kernel
theorem dX12_findChairs_7 : decode cX12_findChairs 7 = .ok (.istore 4, 2) := by decide +kernel
theorem dX12_findChairs_9 : decode cX12_findChairs 9 = .ok (.iload 4, 2) := by decide +kernel
theorem dX12_findChairs_11 : decode cX12_findChairs 11 = .ok (.iconst 5, 1) := by decide +kernel
theorem dX12_findChairs_12 : decode cX12_findChairs 12 = .ok (.if_icmp .ge 106, 3) := by decide +kernel
theorem dX12_findChairs_15 : decode cX12_findChairs 15 = .ok (.iconst 0, 1) := by decide +kernel
theorem dX12_findChairs_16 : decode cX12_findChairs 16 = .ok (.istore 5, 2) := by decide +kernel
theorem dX12_findChairs_18 : decode cX12_findChairs 18 = .ok (.iload 5, 2) := by decide +kernel
theorem dX12_findChairs_20 : decode cX12_findChairs 20 = .ok (.iload_n 3, 1) := by decide +kernel
theorem dX12_findChairs_21 : decode cX12_findChairs 21 = .ok (.if_icmp .ge 86, 3) := by decide +kernel
theorem dX12_findChairs_24 : decode cX12_findChairs 24 = .ok (.aload_n 0, 1) := by decide +kernel
theorem dX12_findChairs_25 : decode cX12_findChairs 25 = .ok (.iload 5, 2) := by decide +kernel
theorem dX12_findChairs_27 : decode cX12_findChairs 27 = .ok (.iload 4, 2) := by decide +kernel
theorem dX12_findChairs_29 : decode cX12_findChairs 29 = .ok (.invokevirtual 232, 3) := by decide +kernel
theorem dX12_findChairs_32 : decode cX12_findChairs 32 = .ok (.ifCond .eq 16, 3) := by decide +kernel
theorem dX12_findChairs_35 : decode cX12_findChairs 35 = .ok (.aload_n 0, 1) := by decide +kernel
theorem dX12_findChairs_36 : decode cX12_findChairs 36 = .ok (.iload_n 1, 1) := by decide +kernel
theorem dX12_findChairs_37 : decode cX12_findChairs 37 = .ok (.iload_n 2, 1) := by decide +kernel
theorem dX12_findChairs_38 : decode cX12_findChairs 38 = .ok (.invokevirtual 235, 3) := by decide +kernel
theorem dX12_findChairs_41 : decode cX12_findChairs 41 = .ok (.ifCond .eq 7, 3) := by decide +kernel
theorem dX12_findChairs_44 : decode cX12_findChairs 44 = .ok (.iconst 1, 1) := by decide +kernel
theorem dX12_findChairs_45 : decode cX12_findChairs 45 = .ok (.goto 4, 3) := by decide +kernel
theorem dX12_findChairs_48 : decode cX12_findChairs 48 = .ok (.iconst 0, 1) := by decide +kernel
theorem dX12_findChairs_49 : decode cX12_findChairs 49 = .ok (.istore 6, 2) := by decide +kernel
theorem dX12_findChairs_51 : decode cX12_findChairs 51 = .ok (.iconst 0, 1) := by decide +kernel
theorem dX12_findChairs_52 : decode cX12_findChairs 52 = .ok (.istore 7, 2) := by decide +kernel
theorem dX12_findChairs_54 : decode cX12_findChairs 54 = .ok (.iload 7, 2) := by decide +kernel
theorem dX12_findChairs_56 : decode cX12_findChairs 56 = .ok (.bipush 9, 2) := by decide +kernel
theorem dX12_findChairs_58 : decode cX12_findChairs 58 = .ok (.if_icmp .ge 31, 3) := by decide +kernel
theorem dX12_findChairs_61 : decode cX12_findChairs 61 = .ok (.aload_n 0, 1) := by decide +kernel
theorem dX12_findChairs_62 : decode cX12_findChairs 62 = .ok (.getfield 50, 3) := by decide +kernel
theorem dX12_findChairs_65 : decode cX12_findChairs 65 = .ok (.iload 7, 2) := by decide +kernel
theorem dX12_findChairs_67 : decode cX12_findChairs 67 = .ok (.aload_n 0, 1) := by decide +kernel
theorem dX12_findChairs_68 : decode cX12_findChairs 68 = .ok (.getfield 16, 3) := by decide +kernel
theorem dX12_findChairs_71 : decode cX12_findChairs 71 = .ok (.iload 7, 2) := by decide +kernel
theorem dX12_findChairs_73 : decode cX12_findChairs 73 = .ok (.iaload, 1) := by decide +kernel
theorem dX12_findChairs_74 : decode cX12_findChairs 74 = .ok (.aload_n 0, 1) := by decide +kernel
theorem dX12_findChairs_75 : decode cX12_findChairs 75 = .ok (.getfield 47, 3) := by decide +kernel
theorem dX12_findChairs_78 : decode cX12_findChairs 78 = .ok (.iload 7, 2) := by decide +kernel
theorem dX12_findChairs_80 : decode cX12_findChairs 80 = .ok (.iaload, 1) := by decide +kernel
theorem dX12_findChairs_81 : decode cX12_findChairs 81 = .ok (.isub, 1) := by decide +kernel
theorem dX12_findChairs_82 : decode cX12_findChairs 82 = .ok (.iastore, 1) := by decide +kernel
theorem dX12_findChairs_83 : decode cX12_findChairs 83 = .ok (.iinc 7 1, 3) := by decide +kernel
theorem dX12_findChairs_86 : decode cX12_findChairs 86 = .ok (.goto (-32), 3) := by decide +kernel
theorem dX12_findChairs_89 : decode cX12_findChairs 89 = .ok (.aload_n 0, 1) := by decide +kernel
theorem dX12_findChairs_90 : decode cX12_findChairs 90 = .ok (.invokevirtual 223, 3) := by decide +kernel
theorem dX12_findChairs_93 : decode cX12_findChairs 93 = .ok (.iload 6, 2) := by decide +kernel
theorem dX12_findChairs_95 : decode cX12_findChairs 95 = .ok (.ifCond .eq 6, 3) := by decide +kernel
theorem dX12_findChairs_98 : decode cX12_findChairs 98 = .ok (.iload 4, 2) := by decide +kernel
theorem dX12_findChairs_100 : decode cX12_findChairs 100 = .ok (.ireturn, 1) := by decide +kernel
theorem dX12_findChairs_101 : decode cX12_findChairs 101 = .ok (.iinc 5 1, 3) := by decide +kernel
theorem dX12_findChairs_104 : decode cX12_findChairs 104 = .ok (.goto (-86), 3) := by decide +kernel
theorem dX12_findChairs_107 : decode cX12_findChairs 107 = .ok (.iload_n 3, 1) := by decide +kernel
theorem dX12_findChairs_108 : decode cX12_findChairs 108 = .ok (.bipush 9, 2) := by decide +kernel
theorem dX12_findChairs_110 : decode cX12_findChairs 110 = .ok (.imul, 1) := by decide +kernel
theorem dX12_findChairs_111 : decode cX12_findChairs 111 = .ok (.istore_n 3, 1) := by decide +kernel
theorem dX12_findChairs_112 : decode cX12_findChairs 112 = .ok (.iinc 4 1, 3) := by decide +kernel
theorem dX12_findChairs_115 : decode cX12_findChairs 115 = .ok (.goto (-106), 3) := by decide +kernel
theorem dX12_findChairs_118 : decode cX12_findChairs 118 = .ok (.iconst (-1), 1) := by decide +kernel
theorem dX12_findChairs_119 : decode cX12_findChairs 119 = .ok (.ireturn, 1) := by decide +kernel
theorem dX12_chairs_0 : decode cX12_chairs 0 = .ok (.iload_n 1, 1) := by decide +kernel
theorem dX12_chairs_1 : decode cX12_chairs 1 = .ok (.i2l, 1) := by decide +kernel
theorem dX12_chairs_2 : decode cX12_chairs 2 = .ok (.lconst 0, 1) := by decide +kernel
theorem dX12_chairs_3 : decode cX12_chairs 3 = .ok (.iconst 1, 1) := by decide +kernel
theorem dX12_chairs_4 : decode cX12_chairs 4 = .ok (.aload_n 0, 1) := by decide +kernel
theorem dX12_chairs_5 : decode cX12_chairs 5 = .ok (.getfield 76, 3) := by decide +kernel
theorem dX12_chairs_8 : decode cX12_chairs 8 = .ok (.ishl, 1) := by decide +kernel
theorem dX12_chairs_9 : decode cX12_chairs 9 = .ok (.iconst 1, 1) := by decide +kernel
theorem dX12_chairs_10 : decode cX12_chairs 10 = .ok (.isub, 1) := by decide +kernel
theorem dX12_chairs_11 : decode cX12_chairs 11 = .ok (.i2l, 1) := by decide +kernel
theorem dX12_chairs_12 : decode cX12_chairs 12 = .ok (.invokestatic 79, 3) := by decide +kernel
theorem dX12_chairs_15 : decode cX12_chairs 15 = .ok (.ifCond .eq 16, 3) := by decide +kernel
theorem dX12_chairs_18 : decode cX12_chairs 18 = .ok (.iload_n 3, 1) := by decide +kernel
theorem dX12_chairs_19 : decode cX12_chairs 19 = .ok (.iconst (-1), 1) := by decide +kernel
theorem dX12_chairs_20 : decode cX12_chairs 20 = .ok (.if_icmp .eq 14, 3) := by decide +kernel
theorem dX12_chairs_23 : decode cX12_chairs 23 = .ok (.aload_n 0, 1) := by decide +kernel
theorem dX12_chairs_24 : decode cX12_chairs 24 = .ok (.iload_n 3, 1) := by decide +kernel
theorem dX12_chairs_25 : decode cX12_chairs 25 = .ok (.invokevirtual 187, 3) := by decide +kernel
theorem dX12_chairs_28 : decode cX12_chairs 28 = .ok (.ifCond .ne 6, 3) := by decide +kernel
theorem dX12_chairs_31 : decode cX12_chairs 31 = .ok (.ldc 190, 2) := by decide +kernel
theorem dX12_chairs_33 : decode cX12_chairs 33 = .ok (.ireturn, 1) := by decide +kernel
theorem dX12_chairs_34 : decode cX12_chairs 34 = .ok (.iload_n 2, 1) := by decide +kernel
theorem dX12_chairs_35 : decode cX12_chairs 35 = .ok (.i2l, 1) := by decide +kernel
theorem dX12_chairs_36 : decode cX12_chairs 36 = .ok (.lconst 0, 1) := by decide +kernel
theorem dX12_chairs_37 : decode cX12_chairs 37 = .ok (.ldc2_w 238, 3) := by decide +kernel
theorem dX12_chairs_40 : decode cX12_chairs 40 = .ok (.invokestatic 79, 3) := by decide +kernel
theorem dX12_chairs_43 : decode cX12_chairs 43 = .ok (.ifCond .ne 6, 3) := by decide +kernel
theorem dX12_chairs_46 : decode cX12_chairs 46 = .ok (.ldc 85, 2) := by decide +kernel
theorem dX12_chairs_48 : decode cX12_chairs 48 = .ok (.ireturn, 1) := by decide +kernel
theorem dX12_chairs_49 : decode cX12_chairs 49 = .ok (.aload_n 0, 1) := by decide +kernel
theorem dX12_chairs_50 : decode cX12_chairs 50 = .ok (.iload_n 1, 1) := by decide +kernel
theorem dX12_chairs_51 : decode cX12_chairs 51 = .ok (.iload_n 2, 1) := by decide +kernel
theorem dX12_chairs_52 : decode cX12_chairs 52 = .ok (.invokevirtual 240, 3) := by decide +kernel
theorem dX12_chairs_55 : decode cX12_chairs 55 = .ok (.istore 4, 2) := by decide +kernel
theorem dX12_chairs_57 : decode cX12_chairs 57 = .ok (.iload 4, 2) := by decide +kernel
theorem dX12_chairs_59 : decode cX12_chairs 59 = .ok (.ifCond .lt 8, 3) := by decide +kernel
theorem dX12_chairs_62 : decode cX12_chairs 62 = .ok (.iload_n 3, 1) := by decide +kernel
theorem dX12_chairs_63 : decode cX12_chairs 63 = .ok (.iconst (-1), 1) := by decide +kernel
theorem dX12_chairs_64 : decode cX12_chairs 64 = .ok (.if_icmp .ne 8, 3) := by decide +kernel
theorem dX12_chairs_67 : decode cX12_chairs 67 = .ok (.iload 4, 2) := by decide +kernel
theorem dX12_chairs_69 : decode cX12_chairs 69 = .ok (.goto 9, 3) := by decide +kernel
theorem dX12_chairs_72 : decode cX12_chairs 72 = .ok (.aload_n 0, 1) := by decide +kernel
theorem dX12_chairs_73 : decode cX12_chairs 73 = .ok (.getfield 50, 3) := by decide +kernel
theorem dX12_chairs_76 : decode cX12_chairs 76 = .ok (.iload_n 3, 1) := by decide +kernel
theorem dX12_chairs_77 : decode cX12_chairs 77 = .ok (.iaload, 1) := by decide +kernel
theorem dX12_chairs_78 : decode cX12_chairs 78 = .ok (.ireturn, 1) := by decide +kernel
theorem dX12_canSpread_0 : decode cX12_canSpread 0 = .ok (.iconst 0, 1) := by decide +kernel
theorem dX12_canSpread_1 : decode cX12_canSpread 1 = .ok (.istore_n 3, 1) := by decide +kernel
theorem dX12_canSpread_2 : decode cX12_canSpread 2 = .ok (.iconst 0, 1) := by decide +kernel
theorem dX12_canSpread_3 : decode cX12_canSpread 3 = .ok (.istore 4, 2) := by decide +kernel
theorem dX12_canSpread_5 : decode cX12_canSpread 5 = .ok (.iconst 1, 1) := by decide +kernel
theorem dX12_canSpread_6 : decode cX12_canSpread 6 = .ok (.istore 5, 2) := by decide +kernel
theorem dX12_canSpread_8 : decode cX12_canSpread 8 = .ok (.iconst 0, 1) := by decide +kernel
theorem dX12_canSpread_9 : decode cX12_canSpread 9 = .ok (.istore 6, 2) := by decide +kernel
theorem dX12_canSpread_11 : decode cX12_canSpread 11 = .ok (.iload 6, 2) := by decide +kernel
theorem dX12_canSpread_13 : decode cX12_canSpread 13 = .ok (.aload_n 0, 1) := by decide +kernel
theorem dX12_canSpread_14 : decode cX12_canSpread 14 = .ok (.getfield 76, 3) := by decide +kernel
theorem dX12_canSpread_17 : decode cX12_canSpread 17 = .ok (.if_icmp .ge 68, 3) := by decide +kernel
theorem dX12_canSpread_20 : decode cX12_canSpread 20 = .ok (.iload_n 1, 1) := by decide +kernel
theorem dX12_canSpread_21 : decode cX12_canSpread 21 = .ok (.iload 6, 2) := by decide +kernel
theorem dX12_canSpread_23 : decode cX12_canSpread 23 = .ok (.invokestatic 161, 3) := by decide +kernel
theorem dX12_canSpread_26 : decode cX12_canSpread 26 = .ok (.ifCond .eq 53, 3) := by decide +kernel
theorem dX12_canSpread_29 : decode cX12_canSpread 29 = .ok (.iload 5, 2) := by decide +kernel
theorem dX12_canSpread_31 : decode cX12_canSpread 31 = .ok (.ifCond .eq 18, 3) := by decide +kernel
theorem dX12_canSpread_34 : decode cX12_canSpread 34 = .ok (.aload_n 0, 1) := by decide +kernel
theorem dX12_canSpread_35 : decode cX12_canSpread 35 = .ok (.getfield 16, 3) := by decide +kernel
theorem dX12_canSpread_38 : decode cX12_canSpread 38 = .ok (.iload 6, 2) := by decide +kernel
theorem dX12_canSpread_40 : decode cX12_canSpread 40 = .ok (.iaload, 1) := by decide +kernel
theorem dX12_canSpread_41 : decode cX12_canSpread 41 = .ok (.iload_n 2, 1) := by decide +kernel
theorem dX12_canSpread_42 : decode cX12_canSpread 42 = .ok (.if_icmp .lt 7, 3) := by decide +kernel
theorem dX12_canSpread_45 : decode cX12_canSpread 45 = .ok (.iconst 1, 1) := by decide +kernel
theorem dX12_canSpread_46 : decode cX12_canSpread 46 = .ok (.goto 4, 3) := by decide +kernel
theorem dX12_canSpread_49 : decode cX12_canSpread 49 = .ok (.iconst 0, 1) := by decide +kernel
theorem dX12_canSpread_50 : decode cX12_canSpread 50 = .ok (.istore 5, 2) := by decide +kernel
theorem dX12_canSpread_52 : decode cX12_canSpread 52 = .ok (.iload_n 3, 1) := by decide +kernel
theorem dX12_canSpread_53 : decode cX12_canSpread 53 = .ok (.aload_n 0, 1) := by decide +kernel
theorem dX12_canSpread_54 : decode cX12_canSpread 54 = .ok (.getfield 16, 3) := by decide +kernel
theorem dX12_canSpread_57 : decode cX12_canSpread 57 = .ok (.iload 6, 2) := by decide +kernel
theorem dX12_canSpread_59 : decode cX12_canSpread 59 = .ok (.iaload, 1) := by decide +kernel
theorem dX12_canSpread_60 : decode cX12_canSpread 60 = .ok (.iload_n 2, 1) := by decide +kernel
theorem dX12_canSpread_61 : decode cX12_canSpread 61 = .ok (.isub, 1) := by decide +kernel
theorem dX12_canSpread_62 : decode cX12_canSpread 62 = .ok (.iadd, 1) := by decide +kernel
theorem dX12_canSpread_63 : decode cX12_canSpread 63 = .ok (.istore_n 3, 1) := by decide +kernel
theorem dX12_canSpread_64 : decode cX12_canSpread 64 = .ok (.iload 4, 2) := by decide +kernel
theorem dX12_canSpread_66 : decode cX12_canSpread 66 = .ok (.aload_n 0, 1) := by decide +kernel
theorem dX12_canSpread_67 : decode cX12_canSpread 67 = .ok (.getfield 16, 3) := by decide +kernel
theorem dX12_canSpread_70 : decode cX12_canSpread 70 = .ok (.bipush 9, 2) := by decide +kernel
theorem dX12_canSpread_72 : decode cX12_canSpread 72 = .ok (.iload 6, 2) := by decide +kernel
theorem dX12_canSpread_74 : decode cX12_canSpread 74 = .ok (.iadd, 1) := by decide +kernel
theorem dX12_canSpread_75 : decode cX12_canSpread 75 = .ok (.iaload, 1) := by decide +kernel
theorem dX12_canSpread_76 : decode cX12_canSpread 76 = .ok (.iadd, 1) := by decide +kernel
theorem dX12_canSpread_77 : decode cX12_canSpread 77 = .ok (.istore 4, 2) := by decide +kernel
theorem dX12_canSpread_79 : decode cX12_canSpread 79 = .ok (.iinc 6 1, 3) := by decide +kernel
theorem dX12_canSpread_82 : decode cX12_canSpread 82 = .ok (.goto (-71), 3) := by decide +kernel
theorem dX12_canSpread_85 : decode cX12_canSpread 85 = .ok (.iload 5, 2) := by decide +kernel
theorem dX12_canSpread_87 : decode cX12_canSpread 87 = .ok (.ifCond .eq 13, 3) := by decide +kernel
theorem dX12_canSpread_90 : decode cX12_canSpread 90 = .ok (.iload_n 3, 1) := by decide +kernel
theorem dX12_canSpread_91 : decode cX12_canSpread 91 = .ok (.iload 4, 2) := by decide +kernel
theorem dX12_canSpread_93 : decode cX12_canSpread 93 = .ok (.if_icmp .lt 7, 3) := by decide +kernel
theorem dX12_canSpread_96 : decode cX12_canSpread 96 = .ok (.iconst 1, 1) := by decide +kernel
theorem dX12_canSpread_97 : decode cX12_canSpread 97 = .ok (.goto 4, 3) := by decide +kernel
theorem dX12_canSpread_100 : decode cX12_canSpread 100 = .ok (.iconst 0, 1) := by decide +kernel
theorem dX12_canSpread_101 : decode cX12_canSpread 101 = .ok (.ireturn, 1) := by decide +kernel
theorem dX12_spread_0 : decode cX12_spread 0 = .ok (.aload_n 0, 1) := by decide +kernel
theorem dX12_spread_1 : decode cX12_spread 1 = .ok (.iload_n 1, 1) := by decide +kernel
theorem dX12_spread_2 : decode cX12_spread 2 = .ok (.invokevirtual 187, 3) := by decide +kernel
theorem dX12_spread_5 : decode cX12_spread 5 = .ok (.ifCond .ne 6, 3) := by decide +kernel
theorem dX12_spread_8 : decode cX12_spread 8 = .ok (.ldc 190, 2) := by decide +kernel
theorem dX12_spread_10 : decode cX12_spread 10 = .ok (.ireturn, 1) := by decide +kernel
theorem dX12_spread_11 : decode cX12_spread 11 = .ok (.aload_n 0, 1) := by decide +kernel
theorem dX12_spread_12 : decode cX12_spread 12 = .ok (.iload_n 1, 1) := by decide +kernel
theorem dX12_spread_13 : decode cX12_spread 13 = .ok (.invokevirtual 220, 3) := by decide +kernel
theorem dX12_spread_16 : decode cX12_spread 16 = .ok (.istore_n 2, 1) := by decide +kernel
theorem dX12_spread_17 : decode cX12_spread 17 = .ok (.iconst 0, 1) := by decide +kernel
theorem dX12_spread_18 : decode cX12_spread 18 = .ok (.istore_n 3, 1) := by decide +kernel
theorem dX12_spread_19 : decode cX12_spread 19 = .ok (.aload_n 0, 1) := by decide +kernel
theorem dX12_spread_20 : decode cX12_spread 20 = .ok (.iload_n 2, 1) := by decide +kernel
theorem dX12_spread_21 : decode cX12_spread 21 = .ok (.iload_n 3, 1) := by decide +kernel
theorem dX12_spread_22 : decode cX12_spread 22 = .ok (.iconst 1, 1) := by decide +kernel
theorem dX12_spread_23 : decode cX12_spread 23 = .ok (.iadd, 1) := by decide +kernel
theorem dX12_spread_24 : decode cX12_spread 24 = .ok (.invokevirtual 243, 3) := by decide +kernel
theorem dX12_spread_27 : decode cX12_spread 27 = .ok (.ifCond .eq 9, 3) := by decide +kernel
theorem dX12_spread_30 : decode cX12_spread 30 = .ok (.iinc 3 1, 3) := by decide +kernel
theorem dX12_spread_33 : decode cX12_spread 33 = .ok (.goto (-14), 3) := by decide +kernel
theorem dX12_spread_36 : decode cX12_spread 36 = .ok (.iload_n 3, 1) := by decide +kernel
theorem dX12_spread_37 : decode cX12_spread 37 = .ok (.ireturn, 1) := by decide +kernel
theorem dX12_quiet_0 : decode cX12_quiet 0 = .ok (.iload_n 1, 1) := by decide +kernel
theorem dX12_quiet_1 : decode cX12_quiet 1 = .ok (.i2l, 1) := by decide +kernel
theorem dX12_quiet_2 : decode cX12_quiet 2 = .ok (.lconst 0, 1) := by decide +kernel
theorem dX12_quiet_3 : decode cX12_quiet 3 = .ok (.ldc2_w 215, 3) := by decide +kernel
theorem dX12_quiet_6 : decode cX12_quiet 6 = .ok (.invokestatic 79, 3) := by decide +kernel
theorem dX12_quiet_9 : decode cX12_quiet 9 = .ok (.ifCond .eq 15, 3) := by decide +kernel
theorem dX12_quiet_12 : decode cX12_quiet 12 = .ok (.iload_n 2, 1) := by decide +kernel
theorem dX12_quiet_13 : decode cX12_quiet 13 = .ok (.i2l, 1) := by decide +kernel
theorem dX12_quiet_14 : decode cX12_quiet 14 = .ok (.lconst 0, 1) := by decide +kernel
theorem dX12_quiet_15 : decode cX12_quiet 15 = .ok (.ldc2_w 246, 3) := by decide +kernel
theorem dX12_quiet_18 : decode cX12_quiet 18 = .ok (.invokestatic 79, 3) := by decide +kernel
theorem dX12_quiet_21 : decode cX12_quiet 21 = .ok (.ifCond .ne 6, 3) := by decide +kernel
theorem dX12_quiet_24 : decode cX12_quiet 24 = .ok (.ldc 85, 2) := by decide +kernel
theorem dX12_quiet_26 : decode cX12_quiet 26 = .ok (.ireturn, 1) := by decide +kernel
theorem dX12_quiet_27 : decode cX12_quiet 27 = .ok (.ldc2_w 248, 3) := by decide +kernel
theorem dX12_quiet_30 : decode cX12_quiet 30 = .ok (.lstore_n 3, 1) := by decide +kernel
theorem dX12_quiet_31 : decode cX12_quiet 31 = .ok (.iconst 0, 1) := by decide +kernel
theorem dX12_quiet_32 : decode cX12_quiet 32 = .ok (.istore 5, 2) := by decide +kernel
theorem dX12_quiet_34 : decode cX12_quiet 34 = .ok (.iload 5, 2) := by decide +kernel
theorem dX12_quiet_36 : decode cX12_quiet 36 = .ok (.iload_n 1, 1) := by decide +kernel
theorem dX12_quiet_37 : decode cX12_quiet 37 = .ok (.if_icmp .ge 21, 3) := by decide +kernel
theorem dX12_quiet_40 : decode cX12_quiet 40 = .ok (.lload_n 3, 1) := by decide +kernel
theorem dX12_quiet_41 : decode cX12_quiet 41 = .ok (.bipush 100, 2) := by decide +kernel
theorem dX12_quiet_43 : decode cX12_quiet 43 = .ok (.iload_n 2, 1) := by decide +kernel
theorem dX12_quiet_44 : decode cX12_quiet 44 = .ok (.isub, 1) := by decide +kernel
theorem dX12_quiet_45 : decode cX12_quiet 45 = .ok (.i2l, 1) := by decide +kernel
theorem dX12_quiet_46 : decode cX12_quiet 46 = .ok (.lmul, 1) := by decide +kernel
theorem dX12_quiet_47 : decode cX12_quiet 47 = .ok (.ldc2_w 246, 3) := by decide +kernel
theorem dX12_quiet_50 : decode cX12_quiet 50 = .ok (.ldiv, 1) := by decide +kernel
theorem dX12_quiet_51 : decode cX12_quiet 51 = .ok (.lstore_n 3, 1) := by decide +kernel
theorem dX12_quiet_52 : decode cX12_quiet 52 = .ok (.iinc 5 1, 3) := by decide +kernel
theorem dX12_quiet_55 : decode cX12_quiet 55 = .ok (.goto (-21), 3) := by decide +kernel
theorem dX12_quiet_58 : decode cX12_quiet 58 = .ok (.lload_n 3, 1) := by decide +kernel
theorem dX12_quiet_59 : decode cX12_quiet 59 = .ok (.l2i, 1) := by decide +kernel
theorem dX12_quiet_60 : decode cX12_quiet 60 = .ok (.ireturn, 1) := by decide +kernel
theorem dX12_see_0 : decode cX12_see 0 = .ok (.aload_n 0, 1) := by decide +kernel
theorem dX12_see_1 : decode cX12_see 1 = .ok (.iload_n 1, 1) := by decide +kernel
theorem dX12_see_2 : decode cX12_see 2 = .ok (.invokevirtual 187, 3) := by decide +kernel
theorem dX12_see_5 : decode cX12_see 5 = .ok (.ifCond .ne 6, 3) := by decide +kernel
theorem dX12_see_8 : decode cX12_see 8 = .ok (.ldc 190, 2) := by decide +kernel
theorem dX12_see_10 : decode cX12_see 10 = .ok (.ireturn, 1) := by decide +kernel
theorem dX12_see_11 : decode cX12_see 11 = .ok (.aload_n 0, 1) := by decide +kernel
theorem dX12_see_12 : decode cX12_see 12 = .ok (.getfield 152, 3) := by decide +kernel
theorem dX12_see_15 : decode cX12_see 15 = .ok (.bipush 6, 2) := by decide +kernel
theorem dX12_see_17 : decode cX12_see 17 = .ok (.if_icmp .ne 6, 3) := by decide +kernel
theorem dX12_see_20 : decode cX12_see 20 = .ok (.ldc 89, 2) := by decide +kernel
theorem dX12_see_22 : decode cX12_see 22 = .ok (.ireturn, 1) := by decide +kernel
theorem dX12_see_23 : decode cX12_see 23 = .ok (.aload_n 0, 1) := by decide +kernel
theorem dX12_see_24 : decode cX12_see 24 = .ok (.getfield 53, 3) := by decide +kernel
theorem dX12_see_27 : decode cX12_see 27 = .ok (.aload_n 0, 1) := by decide +kernel
theorem dX12_see_28 : decode cX12_see 28 = .ok (.getfield 152, 3) := by decide +kernel
theorem dX12_see_31 : decode cX12_see 31 = .ok (.iload_n 1, 1) := by decide +kernel
theorem dX12_see_32 : decode cX12_see 32 = .ok (.iastore, 1) := by decide +kernel
theorem dX12_see_33 : decode cX12_see 33 = .ok (.aload_n 0, 1) := by decide +kernel
theorem dX12_see_34 : decode cX12_see 34 = .ok (.getfield 56, 3) := by decide +kernel
theorem dX12_see_37 : decode cX12_see 37 = .ok (.aload_n 0, 1) := by decide +kernel
theorem dX12_see_38 : decode cX12_see 38 = .ok (.getfield 152, 3) := by decide +kernel
theorem dX12_see_41 : decode cX12_see 41 = .ok (.iload_n 2, 1) := by decide +kernel
theorem dX12_see_42 : decode cX12_see 42 = .ok (.bastore, 1) := by decide +kernel
theorem dX12_see_43 : decode cX12_see 43 = .ok (.aload_n 0, 1) := by decide +kernel
theorem dX12_see_44 : decode cX12_see 44 = .ok (.dup, 1) := by decide +kernel
theorem dX12_see_45 : decode cX12_see 45 = .ok (.getfield 152, 3) := by decide +kernel
theorem dX12_see_48 : decode cX12_see 48 = .ok (.iconst 1, 1) := by decide +kernel
theorem dX12_see_49 : decode cX12_see 49 = .ok (.iadd, 1) := by decide +kernel
theorem dX12_see_50 : decode cX12_see 50 = .ok (.putfield 152, 3) := by decide +kernel
theorem dX12_see_53 : decode cX12_see 53 = .ok (.aload_n 0, 1) := by decide +kernel
theorem dX12_see_54 : decode cX12_see 54 = .ok (.getfield 152, 3) := by decide +kernel
theorem dX12_see_57 : decode cX12_see 57 = .ok (.ireturn, 1) := by decide +kernel
theorem dX12_movers_0 : decode cX12_movers 0 = .ok (.iconst 0, 1) := by decide +kernel
theorem dX12_movers_1 : decode cX12_movers 1 = .ok (.istore_n 2, 1) := by decide +kernel
theorem dX12_movers_2 : decode cX12_movers 2 = .ok (.iload_n 1, 1) := by decide +kernel
theorem dX12_movers_3 : decode cX12_movers 3 = .ok (.istore_n 3, 1) := by decide +kernel
theorem dX12_movers_4 : decode cX12_movers 4 = .ok (.aload_n 0, 1) := by decide +kernel
theorem dX12_movers_5 : decode cX12_movers 5 = .ok (.getfield 41, 3) := by decide +kernel
theorem dX12_movers_8 : decode cX12_movers 8 = .ok (.iload_n 3, 1) := by decide +kernel
theorem dX12_movers_9 : decode cX12_movers 9 = .ok (.iaload, 1) := by decide +kernel
theorem dX12_movers_10 : decode cX12_movers 10 = .ok (.ifCond .le 18, 3) := by decide +kernel
theorem dX12_movers_13 : decode cX12_movers 13 = .ok (.iload_n 2, 1) := by decide +kernel
theorem dX12_movers_14 : decode cX12_movers 14 = .ok (.iconst 1, 1) := by decide +kernel
theorem dX12_movers_15 : decode cX12_movers 15 = .ok (.iload_n 3, 1) := by decide +kernel
theorem dX12_movers_16 : decode cX12_movers 16 = .ok (.ishl, 1) := by decide +kernel
theorem dX12_movers_17 : decode cX12_movers 17 = .ok (.ior, 1) := by decide +kernel
theorem dX12_movers_18 : decode cX12_movers 18 = .ok (.istore_n 2, 1) := by decide +kernel
theorem dX12_movers_19 : decode cX12_movers 19 = .ok (.aload_n 0, 1) := by decide +kernel
theorem dX12_movers_20 : decode cX12_movers 20 = .ok (.iload_n 3, 1) := by decide +kernel
theorem dX12_movers_21 : decode cX12_movers 21 = .ok (.invokevirtual 172, 3) := by decide +kernel
theorem dX12_movers_24 : decode cX12_movers 24 = .ok (.istore_n 3, 1) := by decide +kernel
theorem dX12_movers_25 : decode cX12_movers 25 = .ok (.goto (-21), 3) := by decide +kernel
theorem dX12_movers_28 : decode cX12_movers 28 = .ok (.iload_n 2, 1) := by decide +kernel
theorem dX12_movers_29 : decode cX12_movers 29 = .ok (.ireturn, 1) := by decide +kernel
theorem dX12_couldCome_0 : decode cX12_couldCome 0 = .ok (.aload_n 0, 1) := by decide +kernel
theorem dX12_couldCome_1 : decode cX12_couldCome 1 = .ok (.invokevirtual 175, 3) := by decide +kernel
theorem dX12_couldCome_4 : decode cX12_couldCome 4 = .ok (.iconst 0, 1) := by decide +kernel
theorem dX12_couldCome_5 : decode cX12_couldCome 5 = .ok (.istore_n 1, 1) := by decide +kernel
theorem dX12_couldCome_6 : decode cX12_couldCome 6 = .ok (.iconst 0, 1) := by decide +kernel
theorem dX12_couldCome_7 : decode cX12_couldCome 7 = .ok (.istore_n 2, 1) := by decide +kernel
theorem dX12_couldCome_8 : decode cX12_couldCome 8 = .ok (.iload_n 2, 1) := by decide +kernel
theorem dX12_couldCome_9 : decode cX12_couldCome 9 = .ok (.aload_n 0, 1) := by decide +kernel
theorem dX12_couldCome_10 : decode cX12_couldCome 10 = .ok (.getfield 76, 3) := by decide +kernel
theorem dX12_couldCome_13 : decode cX12_couldCome 13 = .ok (.if_icmp .ge 94, 3) := by decide +kernel
theorem dX12_couldCome_16 : decode cX12_couldCome 16 = .ok (.aload_n 0, 1) := by decide +kernel
theorem dX12_couldCome_17 : decode cX12_couldCome 17 = .ok (.getfield 41, 3) := by decide +kernel
theorem dX12_couldCome_20 : decode cX12_couldCome 20 = .ok (.iload_n 2, 1) := by decide +kernel
theorem dX12_couldCome_21 : decode cX12_couldCome 21 = .ok (.iaload, 1) := by decide +kernel
theorem dX12_couldCome_22 : decode cX12_couldCome 22 = .ok (.sipush 1000, 3) := by decide +kernel
theorem dX12_couldCome_25 : decode cX12_couldCome 25 = .ok (.if_icmp .ge 7, 3) := by decide +kernel
theorem dX12_couldCome_28 : decode cX12_couldCome 28 = .ok (.iconst 1, 1) := by decide +kernel
theorem dX12_couldCome_29 : decode cX12_couldCome 29 = .ok (.goto 4, 3) := by decide +kernel
theorem dX12_couldCome_32 : decode cX12_couldCome 32 = .ok (.iconst 0, 1) := by decide +kernel
theorem dX12_couldCome_33 : decode cX12_couldCome 33 = .ok (.istore_n 3, 1) := by decide +kernel
theorem dX12_couldCome_34 : decode cX12_couldCome 34 = .ok (.iconst 0, 1) := by decide +kernel
theorem dX12_couldCome_35 : decode cX12_couldCome 35 = .ok (.istore 4, 2) := by decide +kernel
theorem dX12_couldCome_37 : decode cX12_couldCome 37 = .ok (.iload 4, 2) := by decide +kernel
theorem dX12_couldCome_39 : decode cX12_couldCome 39 = .ok (.aload_n 0, 1) := by decide +kernel
theorem dX12_couldCome_40 : decode cX12_couldCome 40 = .ok (.getfield 152, 3) := by decide +kernel
theorem dX12_couldCome_43 : decode cX12_couldCome 43 = .ok (.if_icmp .ge 44, 3) := by decide +kernel
theorem dX12_couldCome_46 : decode cX12_couldCome 46 = .ok (.iload_n 3, 1) := by decide +kernel
theorem dX12_couldCome_47 : decode cX12_couldCome 47 = .ok (.ifCond .eq 40, 3) := by decide +kernel
theorem dX12_couldCome_50 : decode cX12_couldCome 50 = .ok (.aload_n 0, 1) := by decide +kernel
theorem dX12_couldCome_51 : decode cX12_couldCome 51 = .ok (.iload_n 2, 1) := by decide +kernel
theorem dX12_couldCome_52 : decode cX12_couldCome 52 = .ok (.invokevirtual 250, 3) := by decide +kernel
theorem dX12_couldCome_55 : decode cX12_couldCome 55 = .ok (.aload_n 0, 1) := by decide +kernel
theorem dX12_couldCome_56 : decode cX12_couldCome 56 = .ok (.getfield 53, 3) := by decide +kernel
theorem dX12_couldCome_59 : decode cX12_couldCome 59 = .ok (.iload 4, 2) := by decide +kernel
theorem dX12_couldCome_61 : decode cX12_couldCome 61 = .ok (.iaload, 1) := by decide +kernel
theorem dX12_couldCome_62 : decode cX12_couldCome 62 = .ok (.invokestatic 161, 3) := by decide +kernel
theorem dX12_couldCome_65 : decode cX12_couldCome 65 = .ok (.aload_n 0, 1) := by decide +kernel
theorem dX12_couldCome_66 : decode cX12_couldCome 66 = .ok (.getfield 56, 3) := by decide +kernel
theorem dX12_couldCome_69 : decode cX12_couldCome 69 = .ok (.iload 4, 2) := by decide +kernel
theorem dX12_couldCome_71 : decode cX12_couldCome 71 = .ok (.baload, 1) := by decide +kernel
theorem dX12_couldCome_72 : decode cX12_couldCome 72 = .ok (.if_icmp .ne 7, 3) := by decide +kernel
theorem dX12_couldCome_75 : decode cX12_couldCome 75 = .ok (.iconst 1, 1) := by decide +kernel
theorem dX12_couldCome_76 : decode cX12_couldCome 76 = .ok (.goto 4, 3) := by decide +kernel
theorem dX12_couldCome_79 : decode cX12_couldCome 79 = .ok (.iconst 0, 1) := by decide +kernel
theorem dX12_couldCome_80 : decode cX12_couldCome 80 = .ok (.istore_n 3, 1) := by decide +kernel
theorem dX12_couldCome_81 : decode cX12_couldCome 81 = .ok (.iinc 4 1, 3) := by decide +kernel
theorem dX12_couldCome_84 : decode cX12_couldCome 84 = .ok (.goto (-47), 3) := by decide +kernel
theorem dX12_couldCome_87 : decode cX12_couldCome 87 = .ok (.iload_n 1, 1) := by decide +kernel
theorem dX12_couldCome_88 : decode cX12_couldCome 88 = .ok (.iload_n 3, 1) := by decide +kernel
theorem dX12_couldCome_89 : decode cX12_couldCome 89 = .ok (.ifCond .eq 9, 3) := by decide +kernel
theorem dX12_couldCome_92 : decode cX12_couldCome 92 = .ok (.iconst 1, 1) := by decide +kernel
theorem dX12_couldCome_93 : decode cX12_couldCome 93 = .ok (.iload_n 2, 1) := by decide +kernel
theorem dX12_couldCome_94 : decode cX12_couldCome 94 = .ok (.ishl, 1) := by decide +kernel
theorem dX12_couldCome_95 : decode cX12_couldCome 95 = .ok (.goto 4, 3) := by decide +kernel
theorem dX12_couldCome_98 : decode cX12_couldCome 98 = .ok (.iconst 0, 1) := by decide +kernel
theorem dX12_couldCome_99 : decode cX12_couldCome 99 = .ok (.ior, 1) := by decide +kernel
theorem dX12_couldCome_100 : decode cX12_couldCome 100 = .ok (.istore_n 1, 1) := by decide +kernel
theorem dX12_couldCome_101 : decode cX12_couldCome 101 = .ok (.iinc 2 1, 3) := by decide +kernel
theorem dX12_couldCome_104 : decode cX12_couldCome 104 = .ok (.goto (-96), 3) := by decide +kernel
theorem dX12_couldCome_107 : decode cX12_couldCome 107 = .ok (.iload_n 1, 1) := by decide +kernel
theorem dX12_couldCome_108 : decode cX12_couldCome 108 = .ok (.ireturn, 1) := by decide +kernel
theorem dX12_came_0 : decode cX12_came 0 = .ok (.aload_n 0, 1) := by decide +kernel
theorem dX12_came_1 : decode cX12_came 1 = .ok (.invokevirtual 253, 3) := by decide +kernel
theorem dX12_came_4 : decode cX12_came 4 = .ok (.ireturn, 1) := by decide +kernel
theorem dX12_look_0 : decode cX12_look 0 = .ok (.aload_n 0, 1) := by decide +kernel
theorem dX12_look_1 : decode cX12_look 1 = .ok (.invokevirtual 253, 3) := by decide +kernel
theorem dX12_look_4 : decode cX12_look 4 = .ok (.istore_n 1, 1) := by decide +kernel
theorem dX12_look_5 : decode cX12_look 5 = .ok (.iload_n 1, 1) := by decide +kernel
theorem dX12_look_6 : decode cX12_look 6 = .ok (.invokestatic 256, 3) := by decide +kernel
theorem dX12_look_9 : decode cX12_look 9 = .ok (.istore_n 2, 1) := by decide +kernel
theorem dX12_look_10 : decode cX12_look 10 = .ok (.iconst (-1), 1) := by decide +kernel
theorem dX12_look_11 : decode cX12_look 11 = .ok (.istore_n 3, 1) := by decide +kernel
theorem dX12_look_12 : decode cX12_look 12 = .ok (.iload_n 2, 1) := by decide +kernel
theorem dX12_look_13 : decode cX12_look 13 = .ok (.istore 4, 2) := by decide +kernel
theorem dX12_look_15 : decode cX12_look 15 = .ok (.iconst 0, 1) := by decide +kernel
theorem dX12_look_16 : decode cX12_look 16 = .ok (.istore 5, 2) := by decide +kernel
theorem dX12_look_18 : decode cX12_look 18 = .ok (.iload 5, 2) := by decide +kernel
theorem dX12_look_20 : decode cX12_look 20 = .ok (.aload_n 0, 1) := by decide +kernel
theorem dX12_look_21 : decode cX12_look 21 = .ok (.getfield 76, 3) := by decide +kernel
theorem dX12_look_24 : decode cX12_look 24 = .ok (.if_icmp .ge 113, 3) := by decide +kernel
theorem dX12_look_27 : decode cX12_look 27 = .ok (.iconst 0, 1) := by decide +kernel
theorem dX12_look_28 : decode cX12_look 28 = .ok (.istore 6, 2) := by decide +kernel
theorem dX12_look_30 : decode cX12_look 30 = .ok (.iconst 0, 1) := by decide +kernel
theorem dX12_look_31 : decode cX12_look 31 = .ok (.istore 7, 2) := by decide +kernel
theorem dX12_look_33 : decode cX12_look 33 = .ok (.iload 7, 2) := by decide +kernel
theorem dX12_look_35 : decode cX12_look 35 = .ok (.aload_n 0, 1) := by decide +kernel
theorem dX12_look_36 : decode cX12_look 36 = .ok (.getfield 76, 3) := by decide +kernel
theorem dX12_look_39 : decode cX12_look 39 = .ok (.if_icmp .ge 42, 3) := by decide +kernel
theorem dX12_look_42 : decode cX12_look 42 = .ok (.iload 6, 2) := by decide +kernel
theorem dX12_look_44 : decode cX12_look 44 = .ok (.iload_n 1, 1) := by decide +kernel
theorem dX12_look_45 : decode cX12_look 45 = .ok (.iload 7, 2) := by decide +kernel
theorem dX12_look_47 : decode cX12_look 47 = .ok (.invokestatic 161, 3) := by decide +kernel
theorem dX12_look_50 : decode cX12_look 50 = .ok (.ifCond .eq 21, 3) := by decide +kernel
theorem dX12_look_53 : decode cX12_look 53 = .ok (.aload_n 0, 1) := by decide +kernel
theorem dX12_look_54 : decode cX12_look 54 = .ok (.iload 7, 2) := by decide +kernel
theorem dX12_look_56 : decode cX12_look 56 = .ok (.invokevirtual 250, 3) := by decide +kernel
theorem dX12_look_59 : decode cX12_look 59 = .ok (.iload 5, 2) := by decide +kernel
theorem dX12_look_61 : decode cX12_look 61 = .ok (.invokestatic 161, 3) := by decide +kernel
theorem dX12_look_64 : decode cX12_look 64 = .ok (.ifCond .eq 7, 3) := by decide +kernel
theorem dX12_look_67 : decode cX12_look 67 = .ok (.iconst 1, 1) := by decide +kernel
theorem dX12_look_68 : decode cX12_look 68 = .ok (.goto 4, 3) := by decide +kernel
theorem dX12_look_71 : decode cX12_look 71 = .ok (.iconst 0, 1) := by decide +kernel
theorem dX12_look_72 : decode cX12_look 72 = .ok (.iadd, 1) := by decide +kernel
theorem dX12_look_73 : decode cX12_look 73 = .ok (.istore 6, 2) := by decide +kernel
theorem dX12_look_75 : decode cX12_look 75 = .ok (.iinc 7 1, 3) := by decide +kernel
theorem dX12_look_78 : decode cX12_look 78 = .ok (.goto (-45), 3) := by decide +kernel
theorem dX12_look_81 : decode cX12_look 81 = .ok (.iload 6, 2) := by decide +kernel
theorem dX12_look_83 : decode cX12_look 83 = .ok (.iload_n 2, 1) := by decide +kernel
theorem dX12_look_84 : decode cX12_look 84 = .ok (.iload 6, 2) := by decide +kernel
theorem dX12_look_86 : decode cX12_look 86 = .ok (.isub, 1) := by decide +kernel
theorem dX12_look_87 : decode cX12_look 87 = .ok (.if_icmp .le 8, 3) := by decide +kernel
theorem dX12_look_90 : decode cX12_look 90 = .ok (.iload 6, 2) := by decide +kernel
theorem dX12_look_92 : decode cX12_look 92 = .ok (.goto 7, 3) := by decide +kernel
theorem dX12_look_95 : decode cX12_look 95 = .ok (.iload_n 2, 1) := by decide +kernel
theorem dX12_look_96 : decode cX12_look 96 = .ok (.iload 6, 2) := by decide +kernel
theorem dX12_look_98 : decode cX12_look 98 = .ok (.isub, 1) := by decide +kernel
theorem dX12_look_99 : decode cX12_look 99 = .ok (.istore 7, 2) := by decide +kernel
theorem dX12_look_101 : decode cX12_look 101 = .ok (.iload 7, 2) := by decide +kernel
theorem dX12_look_103 : decode cX12_look 103 = .ok (.iload 4, 2) := by decide +kernel
theorem dX12_look_105 : decode cX12_look 105 = .ok (.if_icmp .ge 8, 3) := by decide +kernel
theorem dX12_look_108 : decode cX12_look 108 = .ok (.iload 5, 2) := by decide +kernel
theorem dX12_look_110 : decode cX12_look 110 = .ok (.goto 4, 3) := by decide +kernel
theorem dX12_look_113 : decode cX12_look 113 = .ok (.iload_n 3, 1) := by decide +kernel
theorem dX12_look_114 : decode cX12_look 114 = .ok (.istore_n 3, 1) := by decide +kernel
theorem dX12_look_115 : decode cX12_look 115 = .ok (.iload 7, 2) := by decide +kernel
theorem dX12_look_117 : decode cX12_look 117 = .ok (.iload 4, 2) := by decide +kernel
theorem dX12_look_119 : decode cX12_look 119 = .ok (.if_icmp .ge 8, 3) := by decide +kernel
theorem dX12_look_122 : decode cX12_look 122 = .ok (.iload 7, 2) := by decide +kernel
theorem dX12_look_124 : decode cX12_look 124 = .ok (.goto 5, 3) := by decide +kernel
theorem dX12_look_127 : decode cX12_look 127 = .ok (.iload 4, 2) := by decide +kernel
theorem dX12_look_129 : decode cX12_look 129 = .ok (.istore 4, 2) := by decide +kernel
theorem dX12_look_131 : decode cX12_look 131 = .ok (.iinc 5 1, 3) := by decide +kernel
theorem dX12_look_134 : decode cX12_look 134 = .ok (.goto (-116), 3) := by decide +kernel
theorem dX12_look_137 : decode cX12_look 137 = .ok (.iload_n 3, 1) := by decide +kernel
theorem dX12_look_138 : decode cX12_look 138 = .ok (.ireturn, 1) := by decide +kernel
theorem dX12_write_0 : decode cX12_write 0 = .ok (.aload_n 0, 1) := by decide +kernel
theorem dX12_write_1 : decode cX12_write 1 = .ok (.iload_n 1, 1) := by decide +kernel
theorem dX12_write_2 : decode cX12_write 2 = .ok (.invokevirtual 187, 3) := by decide +kernel
theorem dX12_write_5 : decode cX12_write 5 = .ok (.ifCond .ne 6, 3) := by decide +kernel
theorem dX12_write_8 : decode cX12_write 8 = .ok (.ldc 190, 2) := by decide +kernel
theorem dX12_write_10 : decode cX12_write 10 = .ok (.ireturn, 1) := by decide +kernel
theorem dX12_write_11 : decode cX12_write 11 = .ok (.iload_n 2, 1) := by decide +kernel
theorem dX12_write_12 : decode cX12_write 12 = .ok (.i2l, 1) := by decide +kernel
theorem dX12_write_13 : decode cX12_write 13 = .ok (.lconst 0, 1) := by decide +kernel
theorem dX12_write_14 : decode cX12_write 14 = .ok (.ldc2_w 259, 3) := by decide +kernel
theorem dX12_write_17 : decode cX12_write 17 = .ok (.invokestatic 79, 3) := by decide +kernel
theorem dX12_write_20 : decode cX12_write 20 = .ok (.ifCond .ne 6, 3) := by decide +kernel
theorem dX12_write_23 : decode cX12_write 23 = .ok (.ldc 85, 2) := by decide +kernel
theorem dX12_write_25 : decode cX12_write 25 = .ok (.ireturn, 1) := by decide +kernel
theorem dX12_write_26 : decode cX12_write 26 = .ok (.aload_n 0, 1) := by decide +kernel
theorem dX12_write_27 : decode cX12_write 27 = .ok (.getfield 155, 3) := by decide +kernel
theorem dX12_write_30 : decode cX12_write 30 = .ok (.bipush 15, 2) := by decide +kernel
theorem dX12_write_32 : decode cX12_write 32 = .ok (.if_icmp .ne 6, 3) := by decide +kernel
theorem dX12_write_35 : decode cX12_write 35 = .ok (.ldc 89, 2) := by decide +kernel
theorem dX12_write_37 : decode cX12_write 37 = .ok (.ireturn, 1) := by decide +kernel
theorem dX12_write_38 : decode cX12_write 38 = .ok (.aload_n 0, 1) := by decide +kernel
theorem dX12_write_39 : decode cX12_write 39 = .ok (.getfield 60, 3) := by decide +kernel
theorem dX12_write_42 : decode cX12_write 42 = .ok (.aload_n 0, 1) := by decide +kernel
theorem dX12_write_43 : decode cX12_write 43 = .ok (.getfield 155, 3) := by decide +kernel
theorem dX12_write_46 : decode cX12_write 46 = .ok (.iload_n 1, 1) := by decide +kernel
theorem dX12_write_47 : decode cX12_write 47 = .ok (.iastore, 1) := by decide +kernel
theorem dX12_write_48 : decode cX12_write 48 = .ok (.aload_n 0, 1) := by decide +kernel
theorem dX12_write_49 : decode cX12_write 49 = .ok (.getfield 63, 3) := by decide +kernel
theorem dX12_write_52 : decode cX12_write 52 = .ok (.aload_n 0, 1) := by decide +kernel
theorem dX12_write_53 : decode cX12_write 53 = .ok (.getfield 155, 3) := by decide +kernel
theorem dX12_write_56 : decode cX12_write 56 = .ok (.iload_n 2, 1) := by decide +kernel
theorem dX12_write_57 : decode cX12_write 57 = .ok (.iastore, 1) := by decide +kernel
theorem dX12_write_58 : decode cX12_write 58 = .ok (.aload_n 0, 1) := by decide +kernel
theorem dX12_write_59 : decode cX12_write 59 = .ok (.dup, 1) := by decide +kernel
theorem dX12_write_60 : decode cX12_write 60 = .ok (.getfield 155, 3) := by decide +kernel
theorem dX12_write_63 : decode cX12_write 63 = .ok (.iconst 1, 1) := by decide +kernel
theorem dX12_write_64 : decode cX12_write 64 = .ok (.iadd, 1) := by decide +kernel
theorem dX12_write_65 : decode cX12_write 65 = .ok (.putfield 155, 3) := by decide +kernel
theorem dX12_write_68 : decode cX12_write 68 = .ok (.aload_n 0, 1) := by decide +kernel
theorem dX12_write_69 : decode cX12_write 69 = .ok (.getfield 155, 3) := by decide +kernel
theorem dX12_write_72 : decode cX12_write 72 = .ok (.ireturn, 1) := by decide +kernel
theorem dX12_tear_0 : decode cX12_tear 0 = .ok (.aload_n 0, 1) := by decide +kernel
theorem dX12_tear_1 : decode cX12_tear 1 = .ok (.getfield 152, 3) := by decide +kernel
theorem dX12_tear_4 : decode cX12_tear 4 = .ok (.aload_n 0, 1) := by decide +kernel
theorem dX12_tear_5 : decode cX12_tear 5 = .ok (.getfield 155, 3) := by decide +kernel
theorem dX12_tear_8 : decode cX12_tear 8 = .ok (.iadd, 1) := by decide +kernel
theorem dX12_tear_9 : decode cX12_tear 9 = .ok (.istore_n 1, 1) := by decide +kernel
theorem dX12_tear_10 : decode cX12_tear 10 = .ok (.aload_n 0, 1) := by decide +kernel
theorem dX12_tear_11 : decode cX12_tear 11 = .ok (.iconst 0, 1) := by decide +kernel
theorem dX12_tear_12 : decode cX12_tear 12 = .ok (.putfield 152, 3) := by decide +kernel
theorem dX12_tear_15 : decode cX12_tear 15 = .ok (.aload_n 0, 1) := by decide +kernel
theorem dX12_tear_16 : decode cX12_tear 16 = .ok (.iconst 0, 1) := by decide +kernel
theorem dX12_tear_17 : decode cX12_tear 17 = .ok (.putfield 155, 3) := by decide +kernel
theorem dX12_tear_20 : decode cX12_tear 20 = .ok (.iload_n 1, 1) := by decide +kernel
theorem dX12_tear_21 : decode cX12_tear 21 = .ok (.ireturn, 1) := by decide +kernel
theorem dX12_judge_0 : decode cX12_judge 0 = .ok (.iconst 0, 1) := by decide +kernel
theorem dX12_judge_1 : decode cX12_judge 1 = .ok (.istore_n 1, 1) := by decide +kernel
theorem dX12_judge_2 : decode cX12_judge 2 = .ok (.iload_n 1, 1) := by decide +kernel
theorem dX12_judge_3 : decode cX12_judge 3 = .ok (.aload_n 0, 1) := by decide +kernel
theorem dX12_judge_4 : decode cX12_judge 4 = .ok (.getfield 155, 3) := by decide +kernel
theorem dX12_judge_7 : decode cX12_judge 7 = .ok (.if_icmp .ge 34, 3) := by decide +kernel
theorem dX12_judge_10 : decode cX12_judge 10 = .ok (.aload_n 0, 1) := by decide +kernel
theorem dX12_judge_11 : decode cX12_judge 11 = .ok (.getfield 16, 3) := by decide +kernel
theorem dX12_judge_14 : decode cX12_judge 14 = .ok (.bipush 9, 2) := by decide +kernel
theorem dX12_judge_16 : decode cX12_judge 16 = .ok (.aload_n 0, 1) := by decide +kernel
theorem dX12_judge_17 : decode cX12_judge 17 = .ok (.getfield 60, 3) := by decide +kernel
theorem dX12_judge_20 : decode cX12_judge 20 = .ok (.iload_n 1, 1) := by decide +kernel
theorem dX12_judge_21 : decode cX12_judge 21 = .ok (.iaload, 1) := by decide +kernel
theorem dX12_judge_22 : decode cX12_judge 22 = .ok (.iadd, 1) := by decide +kernel
theorem dX12_judge_23 : decode cX12_judge 23 = .ok (.iaload, 1) := by decide +kernel
theorem dX12_judge_24 : decode cX12_judge 24 = .ok (.aload_n 0, 1) := by decide +kernel
theorem dX12_judge_25 : decode cX12_judge 25 = .ok (.getfield 63, 3) := by decide +kernel
theorem dX12_judge_28 : decode cX12_judge 28 = .ok (.iload_n 1, 1) := by decide +kernel
theorem dX12_judge_29 : decode cX12_judge 29 = .ok (.iaload, 1) := by decide +kernel
theorem dX12_judge_30 : decode cX12_judge 30 = .ok (.if_icmp .eq 5, 3) := by decide +kernel
theorem dX12_judge_33 : decode cX12_judge 33 = .ok (.iload_n 1, 1) := by decide +kernel
theorem dX12_judge_34 : decode cX12_judge 34 = .ok (.ireturn, 1) := by decide +kernel
theorem dX12_judge_35 : decode cX12_judge 35 = .ok (.iinc 1 1, 3) := by decide +kernel
theorem dX12_judge_38 : decode cX12_judge 38 = .ok (.goto (-36), 3) := by decide +kernel
theorem dX12_judge_41 : decode cX12_judge 41 = .ok (.iconst (-1), 1) := by decide +kernel
theorem dX12_judge_42 : decode cX12_judge 42 = .ok (.ireturn, 1) := by decide +kernel
theorem dX12_seed_0 : decode cX12_seed 0 = .ok (.iload_n 1, 1) := by decide +kernel
theorem dX12_seed_1 : decode cX12_seed 1 = .ok (.ifCond .ge 6, 3) := by decide +kernel
theorem dX12_seed_4 : decode cX12_seed 4 = .ok (.ldc 85, 2) := by decide +kernel
theorem dX12_seed_6 : decode cX12_seed 6 = .ok (.ireturn, 1) := by decide +kernel
theorem dX12_seed_7 : decode cX12_seed 7 = .ok (.aload_n 0, 1) := by decide +kernel
theorem dX12_seed_8 : decode cX12_seed 8 = .ok (.getfield 202, 3) := by decide +kernel
theorem dX12_seed_11 : decode cX12_seed 11 = .ok (.istore_n 2, 1) := by decide +kernel
theorem dX12_seed_12 : decode cX12_seed 12 = .ok (.aload_n 0, 1) := by decide +kernel
theorem dX12_seed_13 : decode cX12_seed 13 = .ok (.iload_n 1, 1) := by decide +kernel
theorem dX12_seed_14 : decode cX12_seed 14 = .ok (.putfield 202, 3) := by decide +kernel
theorem dX12_seed_17 : decode cX12_seed 17 = .ok (.iload_n 2, 1) := by decide +kernel
theorem dX12_seed_18 : decode cX12_seed 18 = .ok (.ireturn, 1) := by decide +kernel
theorem dX12_keep_0 : decode cX12_keep 0 = .ok (.iload_n 1, 1) := by decide +kernel
theorem dX12_keep_1 : decode cX12_keep 1 = .ok (.i2l, 1) := by decide +kernel
theorem dX12_keep_2 : decode cX12_keep 2 = .ok (.lconst 0, 1) := by decide +kernel
theorem dX12_keep_3 : decode cX12_keep 3 = .ok (.lconst 1, 1) := by decide +kernel
theorem dX12_keep_4 : decode cX12_keep 4 = .ok (.invokestatic 79, 3) := by decide +kernel
theorem dX12_keep_7 : decode cX12_keep 7 = .ok (.ifCond .ne 6, 3) := by decide +kernel
theorem dX12_keep_10 : decode cX12_keep 10 = .ok (.ldc 190, 2) := by decide +kernel
theorem dX12_keep_12 : decode cX12_keep 12 = .ok (.ireturn, 1) := by decide +kernel
theorem dX12_keep_13 : decode cX12_keep 13 = .ok (.iconst 0, 1) := by decide +kernel
theorem dX12_keep_14 : decode cX12_keep 14 = .ok (.istore_n 2, 1) := by decide +kernel
theorem dX12_keep_15 : decode cX12_keep 15 = .ok (.iload_n 2, 1) := by decide +kernel
theorem dX12_keep_16 : decode cX12_keep 16 = .ok (.bipush 25, 2) := by decide +kernel
theorem dX12_keep_18 : decode cX12_keep 18 = .ok (.if_icmp .ge 26, 3) := by decide +kernel
theorem dX12_keep_21 : decode cX12_keep 21 = .ok (.aload_n 0, 1) := by decide +kernel
theorem dX12_keep_22 : decode cX12_keep 22 = .ok (.getfield 66, 3) := by decide +kernel
theorem dX12_keep_25 : decode cX12_keep 25 = .ok (.bipush 26, 2) := by decide +kernel
theorem dX12_keep_27 : decode cX12_keep 27 = .ok (.iload_n 1, 1) := by decide +kernel
theorem dX12_keep_28 : decode cX12_keep 28 = .ok (.imul, 1) := by decide +kernel
theorem dX12_keep_29 : decode cX12_keep 29 = .ok (.iload_n 2, 1) := by decide +kernel
theorem dX12_keep_30 : decode cX12_keep 30 = .ok (.iadd, 1) := by decide +kernel
theorem dX12_keep_31 : decode cX12_keep 31 = .ok (.aload_n 0, 1) := by decide +kernel
theorem dX12_keep_32 : decode cX12_keep 32 = .ok (.getfield 16, 3) := by decide +kernel
theorem dX12_keep_35 : decode cX12_keep 35 = .ok (.iload_n 2, 1) := by decide +kernel
theorem dX12_keep_36 : decode cX12_keep 36 = .ok (.iaload, 1) := by decide +kernel
theorem dX12_keep_37 : decode cX12_keep 37 = .ok (.iastore, 1) := by decide +kernel
theorem dX12_keep_38 : decode cX12_keep 38 = .ok (.iinc 2 1, 3) := by decide +kernel
theorem dX12_keep_41 : decode cX12_keep 41 = .ok (.goto (-26), 3) := by decide +kernel
theorem dX12_keep_44 : decode cX12_keep 44 = .ok (.aload_n 0, 1) := by decide +kernel
theorem dX12_keep_45 : decode cX12_keep 45 = .ok (.getfield 66, 3) := by decide +kernel
theorem dX12_keep_48 : decode cX12_keep 48 = .ok (.bipush 26, 2) := by decide +kernel
theorem dX12_keep_50 : decode cX12_keep 50 = .ok (.iload_n 1, 1) := by decide +kernel
theorem dX12_keep_51 : decode cX12_keep 51 = .ok (.imul, 1) := by decide +kernel
theorem dX12_keep_52 : decode cX12_keep 52 = .ok (.bipush 25, 2) := by decide +kernel
theorem dX12_keep_54 : decode cX12_keep 54 = .ok (.iadd, 1) := by decide +kernel
theorem dX12_keep_55 : decode cX12_keep 55 = .ok (.aload_n 0, 1) := by decide +kernel
theorem dX12_keep_56 : decode cX12_keep 56 = .ok (.getfield 202, 3) := by decide +kernel
theorem dX12_keep_59 : decode cX12_keep 59 = .ok (.iastore, 1) := by decide +kernel
theorem dX12_keep_60 : decode cX12_keep 60 = .ok (.aload_n 0, 1) := by decide +kernel
theorem dX12_keep_61 : decode cX12_keep 61 = .ok (.getfield 69, 3) := by decide +kernel
