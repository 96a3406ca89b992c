theorem dX2_ofState_0 : decode cX2_ofState 0 = .ok (.aload_n 0, 1) := by decide +kernel
theorem dX2_ofState_1 : decode cX2_ofState 1 = .ok (.getfield 26, 3) := by decide +kernel
theorem dX2_ofState_4 : decode cX2_ofState 4 = .ok (.iload_n 1, 1) := by decide +kernel
theorem dX2_ofState_5 : decode cX2_ofState 5 = .ok (.iconst 4, 1) := by decide +kernel
theorem dX2_ofState_6 : decode cX2_ofState 6 = .ok (.imul, 1) := by decide +kernel
theorem dX2_ofState_7 : decode cX2_ofState 7 = .ok (.iload_n 2, 1) := by decide +kernel
theorem dX2_ofState_8 : decode cX2_ofState 8 = .ok (.iadd, 1) := by decide +kernel
theorem dX2_ofState_9 : decode cX2_ofState 9 = .ok (.iconst 4, 1) := by decide +kernel
theorem dX2_ofState_10 : decode cX2_ofState 10 = .ok (.imul, 1) := by decide +kernel
theorem dX2_ofState_11 : decode cX2_ofState 11 = .ok (.iload_n 3, 1) := by decide +kernel
theorem dX2_ofState_12 : decode cX2_ofState 12 = .ok (.iadd, 1) := by decide +kernel
theorem dX2_ofState_13 : decode cX2_ofState 13 = .ok (.iaload, 1) := by decide +kernel
theorem dX2_ofState_14 : decode cX2_ofState 14 = .ok (.ireturn, 1) := by decide +kernel
theorem dX2_isTold_0 : decode cX2_isTold 0 = .ok (.aload_n 0, 1) := by decide +kernel
theorem dX2_isTold_1 : decode cX2_isTold 1 = .ok (.iload_n 1, 1) := by decide +kernel
theorem dX2_isTold_2 : decode cX2_isTold 2 = .ok (.iload_n 2, 1) := by decide +kernel
theorem dX2_isTold_3 : decode cX2_isTold 3 = .ok (.iconst 0, 1) := by decide +kernel
theorem dX2_isTold_4 : decode cX2_isTold 4 = .ok (.invokevirtual 66, 3) := by decide +kernel
theorem dX2_isTold_7 : decode cX2_isTold 7 = .ok (.iconst (-1), 1) := by decide +kernel
theorem dX2_isTold_8 : decode cX2_isTold 8 = .ok (.if_icmp .eq 7, 3) := by decide +kernel
theorem dX2_isTold_11 : decode cX2_isTold 11 = .ok (.iconst 1, 1) := by decide +kernel
theorem dX2_isTold_12 : decode cX2_isTold 12 = .ok (.goto 4, 3) := by decide +kernel
theorem dX2_isTold_15 : decode cX2_isTold 15 = .ok (.iconst 0, 1) := by decide +kernel
theorem dX2_isTold_16 : decode cX2_isTold 16 = .ok (.ireturn, 1) := by decide +kernel
theorem dX6_passNewState_0 : decode cX6_passNewState 0 = .ok (.aload_n 0, 1) := by decide +kernel
theorem dX6_passNewState_1 : decode cX6_passNewState 1 = .ok (.iconst 0, 1) := by decide +kernel
theorem dX6_passNewState_2 : decode cX6_passNewState 2 = .ok (.iconst 3, 1) := by decide +kernel
theorem dX6_passNewState_3 : decode cX6_passNewState 3 = .ok (.invokevirtual 265, 3) := by decide +kernel
theorem dX6_passNewState_6 : decode cX6_passNewState 6 = .ok (.ifCond .ne 5, 3) := by decide +kernel
theorem dX6_passNewState_9 : decode cX6_passNewState 9 = .ok (.iconst 0, 1) := by decide +kernel
theorem dX6_passNewState_10 : decode cX6_passNewState 10 = .ok (.ireturn, 1) := by decide +kernel
theorem dX6_passNewState_11 : decode cX6_passNewState 11 = .ok (.aload_n 0, 1) := by decide +kernel
theorem dX6_passNewState_12 : decode cX6_passNewState 12 = .ok (.getfield 32, 3) := by decide +kernel
theorem dX6_passNewState_15 : decode cX6_passNewState 15 = .ok (.iload_n 1, 1) := by decide +kernel
theorem dX6_passNewState_16 : decode cX6_passNewState 16 = .ok (.aload_n 0, 1) := by decide +kernel
theorem dX6_passNewState_17 : decode cX6_passNewState 17 = .ok (.getfield 148, 3) := by decide +kernel
theorem dX6_passNewState_20 : decode cX6_passNewState 20 = .ok (.invokevirtual 268, 3) := by decide +kernel
theorem dX6_passNewState_23 : decode cX6_passNewState 23 = .ok (.ifCond .eq 9, 3) := by decide +kernel
theorem dX6_passNewState_26 : decode cX6_passNewState 26 = .ok (.aload_n 0, 1) := by decide +kernel
theorem dX6_passNewState_27 : decode cX6_passNewState 27 = .ok (.iconst 3, 1) := by decide +kernel
theorem dX6_passNewState_28 : decode cX6_passNewState 28 = .ok (.invokevirtual 60, 3) := by decide +kernel
theorem dX6_passNewState_31 : decode cX6_passNewState 31 = .ok (.ireturn, 1) := by decide +kernel
theorem dX6_passNewState_32 : decode cX6_passNewState 32 = .ok (.aload_n 0, 1) := by decide +kernel
theorem dX6_passNewState_33 : decode cX6_passNewState 33 = .ok (.getfield 12, 3) := by decide +kernel
theorem dX6_passNewState_36 : decode cX6_passNewState 36 = .ok (.invokevirtual 57, 3) := by decide +kernel
theorem dX6_passNewState_39 : decode cX6_passNewState 39 = .ok (.iconst 1, 1) := by decide +kernel
theorem dX6_passNewState_40 : decode cX6_passNewState 40 = .ok (.ireturn, 1) := by decide +kernel
theorem dX6_nextAct_0 : decode cX6_nextAct 0 = .ok (.aload_n 0, 1) := by decide +kernel
theorem dX6_nextAct_1 : decode cX6_nextAct 1 = .ok (.getfield 12, 3) := by decide +kernel
theorem dX6_nextAct_4 : decode cX6_nextAct 4 = .ok (.getstatic 250, 3) := by decide +kernel
theorem dX6_nextAct_7 : decode cX6_nextAct 7 = .ok (.invokevirtual 95, 3) := by decide +kernel
theorem dX6_nextAct_10 : decode cX6_nextAct 10 = .ok (.ifCond .eq 5, 3) := by decide +kernel
theorem dX6_nextAct_13 : decode cX6_nextAct 13 = .ok (.iconst 0, 1) := by decide +kernel
theorem dX6_nextAct_14 : decode cX6_nextAct 14 = .ok (.ireturn, 1) := by decide +kernel
theorem dX6_nextAct_15 : decode cX6_nextAct 15 = .ok (.aload_n 0, 1) := by decide +kernel
theorem dX6_nextAct_16 : decode cX6_nextAct 16 = .ok (.getfield 12, 3) := by decide +kernel
theorem dX6_nextAct_19 : decode cX6_nextAct 19 = .ok (.getstatic 253, 3) := by decide +kernel
theorem dX6_nextAct_22 : decode cX6_nextAct 22 = .ok (.invokevirtual 95, 3) := by decide +kernel
theorem dX6_nextAct_25 : decode cX6_nextAct 25 = .ok (.ifCond .eq 5, 3) := by decide +kernel
theorem dX6_nextAct_28 : decode cX6_nextAct 28 = .ok (.iconst 1, 1) := by decide +kernel
theorem dX6_nextAct_29 : decode cX6_nextAct 29 = .ok (.ireturn, 1) := by decide +kernel
theorem dX6_nextAct_30 : decode cX6_nextAct 30 = .ok (.aload_n 0, 1) := by decide +kernel
theorem dX6_nextAct_31 : decode cX6_nextAct 31 = .ok (.getfield 12, 3) := by decide +kernel
theorem dX6_nextAct_34 : decode cX6_nextAct 34 = .ok (.getstatic 256, 3) := by decide +kernel
theorem dX6_nextAct_37 : decode cX6_nextAct 37 = .ok (.invokevirtual 95, 3) := by decide +kernel
theorem dX6_nextAct_40 : decode cX6_nextAct 40 = .ok (.ifCond .eq 5, 3) := by decide +kernel
theorem dX6_nextAct_43 : decode cX6_nextAct 43 = .ok (.iconst 2, 1) := by decide +kernel
theorem dX6_nextAct_44 : decode cX6_nextAct 44 = .ok (.ireturn, 1) := by decide +kernel
theorem dX6_nextAct_45 : decode cX6_nextAct 45 = .ok (.aload_n 0, 1) := by decide +kernel
theorem dX6_nextAct_46 : decode cX6_nextAct 46 = .ok (.getfield 12, 3) := by decide +kernel
theorem dX6_nextAct_49 : decode cX6_nextAct 49 = .ok (.getstatic 259, 3) := by decide +kernel
theorem dX6_nextAct_52 : decode cX6_nextAct 52 = .ok (.invokevirtual 95, 3) := by decide +kernel
theorem dX6_nextAct_55 : decode cX6_nextAct 55 = .ok (.ifCond .eq 5, 3) := by decide +kernel
theorem dX6_nextAct_58 : decode cX6_nextAct 58 = .ok (.iconst 3, 1) := by decide +kernel
theorem dX6_nextAct_59 : decode cX6_nextAct 59 = .ok (.ireturn, 1) := by decide +kernel
theorem dX6_nextAct_60 : decode cX6_nextAct 60 = .ok (.aload_n 0, 1) := by decide +kernel
theorem dX6_nextAct_61 : decode cX6_nextAct 61 = .ok (.getfield 12, 3) := by decide +kernel
theorem dX6_nextAct_64 : decode cX6_nextAct 64 = .ok (.getstatic 262, 3) := by decide +kernel
theorem dX6_nextAct_67 : decode cX6_nextAct 67 = .ok (.invokevirtual 95, 3) := by decide +kernel
theorem dX6_nextAct_70 : decode cX6_nextAct 70 = .ok (.ifCond .eq 5, 3) := by decide +kernel
theorem dX6_nextAct_73 : decode cX6_nextAct 73 = .ok (.iconst 4, 1) := by decide +kernel
theorem dX6_nextAct_74 : decode cX6_nextAct 74 = .ok (.ireturn, 1) := by decide +kernel
theorem dX6_nextAct_75 : decode cX6_nextAct 75 = .ok (.aload_n 0, 1) := by decide +kernel
theorem dX6_nextAct_76 : decode cX6_nextAct 76 = .ok (.getfield 12, 3) := by decide +kernel
theorem dX6_nextAct_79 : decode cX6_nextAct 79 = .ok (.getstatic 179, 3) := by decide +kernel
theorem dX6_nextAct_82 : decode cX6_nextAct 82 = .ok (.invokevirtual 95, 3) := by decide +kernel
theorem dX6_nextAct_85 : decode cX6_nextAct 85 = .ok (.ifCond .eq 7, 3) := by decide +kernel
theorem dX6_nextAct_88 : decode cX6_nextAct 88 = .ok (.iconst 5, 1) := by decide +kernel
theorem dX6_nextAct_89 : decode cX6_nextAct 89 = .ok (.goto 4, 3) := by decide +kernel
theorem dX6_nextAct_92 : decode cX6_nextAct 92 = .ok (.iconst (-1), 1) := by decide +kernel
theorem dX6_nextAct_93 : decode cX6_nextAct 93 = .ok (.ireturn, 1) := by decide +kernel
theorem dX6_targetOf_0 : decode cX6_targetOf 0 = .ok (.iload_n 0, 1) := by decide +kernel
theorem dX6_targetOf_1 : decode cX6_targetOf 1 = .ok (.ifCond .eq 8, 3) := by decide +kernel
theorem dX6_targetOf_4 : decode cX6_targetOf 4 = .ok (.iload_n 0, 1) := by decide +kernel
theorem dX6_targetOf_5 : decode cX6_targetOf 5 = .ok (.iconst 5, 1) := by decide +kernel
theorem dX6_targetOf_6 : decode cX6_targetOf 6 = .ok (.if_icmp .ne 5, 3) := by decide +kernel
theorem dX6_targetOf_9 : decode cX6_targetOf 9 = .ok (.iconst 0, 1) := by decide +kernel
theorem dX6_targetOf_10 : decode cX6_targetOf 10 = .ok (.ireturn, 1) := by decide +kernel
theorem dX6_targetOf_11 : decode cX6_targetOf 11 = .ok (.iload_n 0, 1) := by decide +kernel
theorem dX6_targetOf_12 : decode cX6_targetOf 12 = .ok (.iconst 1, 1) := by decide +kernel
theorem dX6_targetOf_13 : decode cX6_targetOf 13 = .ok (.if_icmp .eq 8, 3) := by decide +kernel
theorem dX6_targetOf_16 : decode cX6_targetOf 16 = .ok (.iload_n 0, 1) := by decide +kernel
theorem dX6_targetOf_17 : decode cX6_targetOf 17 = .ok (.iconst 3, 1) := by decide +kernel
theorem dX6_targetOf_18 : decode cX6_targetOf 18 = .ok (.if_icmp .ne 7, 3) := by decide +kernel
theorem dX6_targetOf_21 : decode cX6_targetOf 21 = .ok (.iconst 1, 1) := by decide +kernel
theorem dX6_targetOf_22 : decode cX6_targetOf 22 = .ok (.goto 5, 3) := by decide +kernel
theorem dX6_targetOf_25 : decode cX6_targetOf 25 = .ok (.bipush (-2), 2) := by decide +kernel
theorem dX6_targetOf_27 : decode cX6_targetOf 27 = .ok (.ireturn, 1) := by decide +kernel
theorem dX2_tellState_0 : decode cX2_tellState 0 = .ok (.iload_n 1, 1) := by decide +kernel
theorem dX2_tellState_1 : decode cX2_tellState 1 = .ok (.iconst 4, 1) := by decide +kernel
theorem dX2_tellState_2 : decode cX2_tellState 2 = .ok (.imul, 1) := by decide +kernel
theorem dX2_tellState_3 : decode cX2_tellState 3 = .ok (.iload_n 2, 1) := by decide +kernel
theorem dX2_tellState_4 : decode cX2_tellState 4 = .ok (.iadd, 1) := by decide +kernel
theorem dX2_tellState_5 : decode cX2_tellState 5 = .ok (.iconst 4, 1) := by decide +kernel
theorem dX2_tellState_6 : decode cX2_tellState 6 = .ok (.imul, 1) := by decide +kernel
theorem dX2_tellState_7 : decode cX2_tellState 7 = .ok (.istore 7, 2) := by decide +kernel
theorem dX2_tellState_9 : decode cX2_tellState 9 = .ok (.aload_n 0, 1) := by decide +kernel
theorem dX2_tellState_10 : decode cX2_tellState 10 = .ok (.getfield 26, 3) := by decide +kernel
theorem dX2_tellState_13 : decode cX2_tellState 13 = .ok (.iload 7, 2) := by decide +kernel
theorem dX2_tellState_15 : decode cX2_tellState 15 = .ok (.iconst 0, 1) := by decide +kernel
theorem dX2_tellState_16 : decode cX2_tellState 16 = .ok (.iadd, 1) := by decide +kernel
theorem dX2_tellState_17 : decode cX2_tellState 17 = .ok (.iload_n 3, 1) := by decide +kernel
theorem dX2_tellState_18 : decode cX2_tellState 18 = .ok (.iastore, 1) := by decide +kernel
theorem dX2_tellState_19 : decode cX2_tellState 19 = .ok (.aload_n 0, 1) := by decide +kernel
theorem dX2_tellState_20 : decode cX2_tellState 20 = .ok (.getfield 26, 3) := by decide +kernel
theorem dX2_tellState_23 : decode cX2_tellState 23 = .ok (.iload 7, 2) := by decide +kernel
theorem dX2_tellState_25 : decode cX2_tellState 25 = .ok (.iconst 1, 1) := by decide +kernel
theorem dX2_tellState_26 : decode cX2_tellState 26 = .ok (.iadd, 1) := by decide +kernel
theorem dX2_tellState_27 : decode cX2_tellState 27 = .ok (.iload 4, 2) := by decide +kernel
theorem dX2_tellState_29 : decode cX2_tellState 29 = .ok (.iastore, 1) := by decide +kernel
theorem dX2_tellState_30 : decode cX2_tellState 30 = .ok (.aload_n 0, 1) := by decide +kernel
theorem dX2_tellState_31 : decode cX2_tellState 31 = .ok (.getfield 26, 3) := by decide +kernel
theorem dX2_tellState_34 : decode cX2_tellState 34 = .ok (.iload 7, 2) := by decide +kernel
theorem dX2_tellState_36 : decode cX2_tellState 36 = .ok (.iconst 2, 1) := by decide +kernel
theorem dX2_tellState_37 : decode cX2_tellState 37 = .ok (.iadd, 1) := by decide +kernel
theorem dX2_tellState_38 : decode cX2_tellState 38 = .ok (.iload 5, 2) := by decide +kernel
theorem dX2_tellState_40 : decode cX2_tellState 40 = .ok (.iastore, 1) := by decide +kernel
theorem dX2_tellState_41 : decode cX2_tellState 41 = .ok (.aload_n 0, 1) := by decide +kernel
theorem dX2_tellState_42 : decode cX2_tellState 42 = .ok (.getfield 26, 3) := by decide +kernel
theorem dX2_tellState_45 : decode cX2_tellState 45 = .ok (.iload 7, 2) := by decide +kernel
theorem dX2_tellState_47 : decode cX2_tellState 47 = .ok (.iconst 3, 1) := by decide +kernel
theorem dX2_tellState_48 : decode cX2_tellState 48 = .ok (.iadd, 1) := by decide +kernel
theorem dX2_tellState_49 : decode cX2_tellState 49 = .ok (.iload 6, 2) := by decide +kernel
theorem dX2_tellState_51 : decode cX2_tellState 51 = .ok (.iastore, 1) := by decide +kernel
theorem dX2_tellState_52 : decode cX2_tellState 52 = .ok (.return_, 1) := by decide +kernel
theorem dX6_readDream_0 : decode cX6_readDream 0 = .ok (.aload_n 0, 1) := by decide +kernel
theorem dX6_readDream_1 : decode cX6_readDream 1 = .ok (.getfield 12, 3) := by decide +kernel
theorem dX6_readDream_4 : decode cX6_readDream 4 = .ok (.invokevirtual 57, 3) := by decide +kernel
theorem dX6_readDream_7 : decode cX6_readDream 7 = .ok (.aload_n 0, 1) := by decide +kernel
theorem dX6_readDream_8 : decode cX6_readDream 8 = .ok (.invokevirtual 204, 3) := by decide +kernel
theorem dX6_readDream_11 : decode cX6_readDream 11 = .ok (.ifCond .ne 5, 3) := by decide +kernel
theorem dX6_readDream_14 : decode cX6_readDream 14 = .ok (.iconst 0, 1) := by decide +kernel
theorem dX6_readDream_15 : decode cX6_readDream 15 = .ok (.ireturn, 1) := by decide +kernel
theorem dX6_readDream_16 : decode cX6_readDream 16 = .ok (.aload_n 0, 1) := by decide +kernel
theorem dX6_readDream_17 : decode cX6_readDream 17 = .ok (.getfield 148, 3) := by decide +kernel
theorem dX6_readDream_20 : decode cX6_readDream 20 = .ok (.istore_n 1, 1) := by decide +kernel
theorem dX6_readDream_21 : decode cX6_readDream 21 = .ok (.aload_n 0, 1) := by decide +kernel
theorem dX6_readDream_22 : decode cX6_readDream 22 = .ok (.iload_n 1, 1) := by decide +kernel
theorem dX6_readDream_23 : decode cX6_readDream 23 = .ok (.invokevirtual 207, 3) := by decide +kernel
theorem dX6_readDream_26 : decode cX6_readDream 26 = .ok (.ifCond .ne 5, 3) := by decide +kernel
theorem dX6_readDream_29 : decode cX6_readDream 29 = .ok (.iconst 0, 1) := by decide +kernel
theorem dX6_readDream_30 : decode cX6_readDream 30 = .ok (.ireturn, 1) := by decide +kernel
theorem dX6_readDream_31 : decode cX6_readDream 31 = .ok (.aload_n 0, 1) := by decide +kernel
theorem dX6_readDream_32 : decode cX6_readDream 32 = .ok (.getfield 148, 3) := by decide +kernel
theorem dX6_readDream_35 : decode cX6_readDream 35 = .ok (.istore_n 2, 1) := by decide +kernel
theorem dX6_readDream_36 : decode cX6_readDream 36 = .ok (.aload_n 0, 1) := by decide +kernel
theorem dX6_readDream_37 : decode cX6_readDream 37 = .ok (.invokevirtual 210, 3) := by decide +kernel
theorem dX6_readDream_40 : decode cX6_readDream 40 = .ok (.istore_n 3, 1) := by decide +kernel
theorem dX6_readDream_41 : decode cX6_readDream 41 = .ok (.iload_n 3, 1) := by decide +kernel
theorem dX6_readDream_42 : decode cX6_readDream 42 = .ok (.iconst (-1), 1) := by decide +kernel
theorem dX6_readDream_43 : decode cX6_readDream 43 = .ok (.if_icmp .ne 9, 3) := by decide +kernel
theorem dX6_readDream_46 : decode cX6_readDream 46 = .ok (.aload_n 0, 1) := by decide +kernel
theorem dX6_readDream_47 : decode cX6_readDream 47 = .ok (.iconst 1, 1) := by decide +kernel
theorem dX6_readDream_48 : decode cX6_readDream 48 = .ok (.invokevirtual 60, 3) := by decide +kernel
theorem dX6_readDream_51 : decode cX6_readDream 51 = .ok (.ireturn, 1) := by decide +kernel
theorem dX6_readDream_52 : decode cX6_readDream 52 = .ok (.aload_n 0, 1) := by decide +kernel
theorem dX6_readDream_53 : decode cX6_readDream 53 = .ok (.getfield 12, 3) := by decide +kernel
theorem dX6_readDream_56 : decode cX6_readDream 56 = .ok (.invokevirtual 57, 3) := by decide +kernel
theorem dX6_readDream_59 : decode cX6_readDream 59 = .ok (.iload_n 3, 1) := by decide +kernel
theorem dX6_readDream_60 : decode cX6_readDream 60 = .ok (.invokestatic 214, 3) := by decide +kernel
theorem dX6_readDream_63 : decode cX6_readDream 63 = .ok (.istore 4, 2) := by decide +kernel
theorem dX6_readDream_65 : decode cX6_readDream 65 = .ok (.iload 4, 2) := by decide +kernel
theorem dX6_readDream_67 : decode cX6_readDream 67 = .ok (.bipush (-2), 2) := by decide +kernel
theorem dX6_readDream_69 : decode cX6_readDream 69 = .ok (.if_icmp .eq 14, 3) := by decide +kernel
theorem dX6_readDream_72 : decode cX6_readDream 72 = .ok (.aload_n 0, 1) := by decide +kernel
theorem dX6_readDream_73 : decode cX6_readDream 73 = .ok (.iload 4, 2) := by decide +kernel
theorem dX6_readDream_75 : decode cX6_readDream 75 = .ok (.invokevirtual 170, 3) := by decide +kernel
theorem dX6_readDream_78 : decode cX6_readDream 78 = .ok (.ifCond .ne 5, 3) := by decide +kernel
theorem dX6_readDream_81 : decode cX6_readDream 81 = .ok (.iconst 0, 1) := by decide +kernel
theorem dX6_readDream_82 : decode cX6_readDream 82 = .ok (.ireturn, 1) := by decide +kernel
theorem dX6_readDream_83 : decode cX6_readDream 83 = .ok (.iload 4, 2) := by decide +kernel
theorem dX6_readDream_85 : decode cX6_readDream 85 = .ok (.bipush (-2), 2) := by decide +kernel
theorem dX6_readDream_87 : decode cX6_readDream 87 = .ok (.if_icmp .ne 8, 3) := by decide +kernel
theorem dX6_readDream_90 : decode cX6_readDream 90 = .ok (.bipush (-2), 2) := by decide +kernel
theorem dX6_readDream_92 : decode cX6_readDream 92 = .ok (.goto 7, 3) := by decide +kernel
theorem dX6_readDream_95 : decode cX6_readDream 95 = .ok (.aload_n 0, 1) := by decide +kernel
theorem dX6_readDream_96 : decode cX6_readDream 96 = .ok (.getfield 148, 3) := by decide +kernel
theorem dX6_readDream_99 : decode cX6_readDream 99 = .ok (.istore 5, 2) := by decide +kernel
theorem dX6_readDream_101 : decode cX6_readDream 101 = .ok (.aload_n 0, 1) := by decide +kernel
theorem dX6_readDream_102 : decode cX6_readDream 102 = .ok (.getstatic 218, 3) := by decide +kernel
theorem dX6_readDream_105 : decode cX6_readDream 105 = .ok (.invokevirtual 141, 3) := by decide +kernel
theorem dX6_readDream_108 : decode cX6_readDream 108 = .ok (.ifCond .eq 12, 3) := by decide +kernel
theorem dX6_readDream_111 : decode cX6_readDream 111 = .ok (.aload_n 0, 1) := by decide +kernel
theorem dX6_readDream_112 : decode cX6_readDream 112 = .ok (.iconst 0, 1) := by decide +kernel
theorem dX6_readDream_113 : decode cX6_readDream 113 = .ok (.iconst 3, 1) := by decide +kernel
theorem dX6_readDream_114 : decode cX6_readDream 114 = .ok (.invokevirtual 144, 3) := by decide +kernel
theorem dX6_readDream_117 : decode cX6_readDream 117 = .ok (.ifCond .ne 5, 3) := by decide +kernel
theorem dX6_readDream_120 : decode cX6_readDream 120 = .ok (.iconst 0, 1) := by decide +kernel
theorem dX6_readDream_121 : decode cX6_readDream 121 = .ok (.ireturn, 1) := by decide +kernel
theorem dX6_readDream_122 : decode cX6_readDream 122 = .ok (.aload_n 0, 1) := by decide +kernel
theorem dX6_readDream_123 : decode cX6_readDream 123 = .ok (.getfield 148, 3) := by decide +kernel
theorem dX6_readDream_126 : decode cX6_readDream 126 = .ok (.istore 6, 2) := by decide +kernel
theorem dX6_readDream_128 : decode cX6_readDream 128 = .ok (.aload_n 0, 1) := by decide +kernel
theorem dX6_readDream_129 : decode cX6_readDream 129 = .ok (.getstatic 221, 3) := by decide +kernel
theorem dX6_readDream_132 : decode cX6_readDream 132 = .ok (.invokevirtual 160, 3) := by decide +kernel
theorem dX6_readDream_135 : decode cX6_readDream 135 = .ok (.istore 7, 2) := by decide +kernel
theorem dX6_readDream_137 : decode cX6_readDream 137 = .ok (.iload 7, 2) := by decide +kernel
theorem dX6_readDream_139 : decode cX6_readDream 139 = .ok (.ifCond .eq 14, 3) := by decide +kernel
theorem dX6_readDream_142 : decode cX6_readDream 142 = .ok (.aload_n 0, 1) := by decide +kernel
theorem dX6_readDream_143 : decode cX6_readDream 143 = .ok (.iconst 0, 1) := by decide +kernel
theorem dX6_readDream_144 : decode cX6_readDream 144 = .ok (.iconst 3, 1) := by decide +kernel
theorem dX6_readDream_145 : decode cX6_readDream 145 = .ok (.invokevirtual 144, 3) := by decide +kernel
theorem dX6_readDream_148 : decode cX6_readDream 148 = .ok (.ifCond .ne 5, 3) := by decide +kernel
theorem dX6_readDream_151 : decode cX6_readDream 151 = .ok (.iconst 0, 1) := by decide +kernel
theorem dX6_readDream_152 : decode cX6_readDream 152 = .ok (.ireturn, 1) := by decide +kernel
theorem dX6_readDream_153 : decode cX6_readDream 153 = .ok (.aload_n 0, 1) := by decide +kernel
theorem dX6_readDream_154 : decode cX6_readDream 154 = .ok (.getfield 32, 3) := by decide +kernel
theorem dX6_readDream_157 : decode cX6_readDream 157 = .ok (.iload_n 1, 1) := by decide +kernel
theorem dX6_readDream_158 : decode cX6_readDream 158 = .ok (.iload_n 2, 1) := by decide +kernel
theorem dX6_readDream_159 : decode cX6_readDream 159 = .ok (.iload_n 3, 1) := by decide +kernel
theorem dX6_readDream_160 : decode cX6_readDream 160 = .ok (.iload 5, 2) := by decide +kernel
theorem dX6_readDream_162 : decode cX6_readDream 162 = .ok (.iload 6, 2) := by decide +kernel
theorem dX6_readDream_164 : decode cX6_readDream 164 = .ok (.iload 7, 2) := by decide +kernel
theorem dX6_readDream_166 : decode cX6_readDream 166 = .ok (.ifCond .eq 10, 3) := by decide +kernel
theorem dX6_readDream_169 : decode cX6_readDream 169 = .ok (.aload_n 0, 1) := by decide +kernel
theorem dX6_readDream_170 : decode cX6_readDream 170 = .ok (.getfield 148, 3) := by decide +kernel
theorem dX6_readDream_173 : decode cX6_readDream 173 = .ok (.goto 5, 3) := by decide +kernel
theorem dX6_readDream_176 : decode cX6_readDream 176 = .ok (.bipush (-2), 2) := by decide +kernel
theorem dX6_readDream_178 : decode cX6_readDream 178 = .ok (.invokevirtual 224, 3) := by decide +kernel
theorem dX6_readDream_181 : decode cX6_readDream 181 = .ok (.iconst 1, 1) := by decide +kernel
theorem dX6_readDream_182 : decode cX6_readDream 182 = .ok (.ireturn, 1) := by decide +kernel
theorem dX2_addSleeper_0 : decode cX2_addSleeper 0 = .ok (.aload_n 0, 1) := by decide +kernel
theorem dX2_addSleeper_1 : decode cX2_addSleeper 1 = .ok (.getfield 29, 3) := by decide +kernel
theorem dX2_addSleeper_4 : decode cX2_addSleeper 4 = .ok (.aload_n 0, 1) := by decide +kernel
theorem dX2_addSleeper_5 : decode cX2_addSleeper 5 = .ok (.getfield 60, 3) := by decide +kernel
theorem dX2_addSleeper_8 : decode cX2_addSleeper 8 = .ok (.iload_n 1, 1) := by decide +kernel
theorem dX2_addSleeper_9 : decode cX2_addSleeper 9 = .ok (.iastore, 1) := by decide +kernel
theorem dX2_addSleeper_10 : decode cX2_addSleeper 10 = .ok (.aload_n 0, 1) := by decide +kernel
theorem dX2_addSleeper_11 : decode cX2_addSleeper 11 = .ok (.getfield 32, 3) := by decide +kernel
theorem dX2_addSleeper_14 : decode cX2_addSleeper 14 = .ok (.aload_n 0, 1) := by decide +kernel
theorem dX2_addSleeper_15 : decode cX2_addSleeper 15 = .ok (.getfield 60, 3) := by decide +kernel
theorem dX2_addSleeper_18 : decode cX2_addSleeper 18 = .ok (.iload_n 2, 1) := by decide +kernel
theorem dX2_addSleeper_19 : decode cX2_addSleeper 19 = .ok (.iastore, 1) := by decide +kernel
theorem dX2_addSleeper_20 : decode cX2_addSleeper 20 = .ok (.aload_n 0, 1) := by decide +kernel
theorem dX2_addSleeper_21 : decode cX2_addSleeper 21 = .ok (.dup, 1) := by decide +kernel
theorem dX2_addSleeper_22 : decode cX2_addSleeper 22 = .ok (.getfield 60, 3) := by decide +kernel
theorem dX2_addSleeper_25 : decode cX2_addSleeper 25 = .ok (.iconst 1, 1) := by decide +kernel
theorem dX2_addSleeper_26 : decode cX2_addSleeper 26 = .ok (.iadd, 1) := by decide +kernel
theorem dX2_addSleeper_27 : decode cX2_addSleeper 27 = .ok (.putfield 60, 3) := by decide +kernel
theorem dX2_addSleeper_30 : decode cX2_addSleeper 30 = .ok (.return_, 1) := by decide +kernel
theorem dX6_readSleeper_0 : decode cX6_readSleeper 0 = .ok (.aload_n 0, 1) := by decide +kernel
theorem dX6_readSleeper_1 : decode cX6_readSleeper 1 = .ok (.getfield 32, 3) := by decide +kernel
theorem dX6_readSleeper_4 : decode cX6_readSleeper 4 = .ok (.getfield 76, 3) := by decide +kernel
theorem dX6_readSleeper_7 : decode cX6_readSleeper 7 = .ok (.iconst 3, 1) := by decide +kernel
theorem dX6_readSleeper_8 : decode cX6_readSleeper 8 = .ok (.if_icmp .lt 9, 3) := by decide +kernel
theorem dX6_readSleeper_11 : decode cX6_readSleeper 11 = .ok (.aload_n 0, 1) := by decide +kernel
theorem dX6_readSleeper_12 : decode cX6_readSleeper 12 = .ok (.iconst 5, 1) := by decide +kernel
theorem dX6_readSleeper_13 : decode cX6_readSleeper 13 = .ok (.invokevirtual 60, 3) := by decide +kernel
theorem dX6_readSleeper_16 : decode cX6_readSleeper 16 = .ok (.ireturn, 1) := by decide +kernel
theorem dX6_readSleeper_17 : decode cX6_readSleeper 17 = .ok (.aload_n 0, 1) := by decide +kernel
theorem dX6_readSleeper_18 : decode cX6_readSleeper 18 = .ok (.getfield 12, 3) := by decide +kernel
theorem dX6_readSleeper_21 : decode cX6_readSleeper 21 = .ok (.invokevirtual 57, 3) := by decide +kernel
theorem dX6_readSleeper_24 : decode cX6_readSleeper 24 = .ok (.aload_n 0, 1) := by decide +kernel
theorem dX6_readSleeper_25 : decode cX6_readSleeper 25 = .ok (.iconst 3, 1) := by decide +kernel
theorem dX6_readSleeper_26 : decode cX6_readSleeper 26 = .ok (.aload_n 0, 1) := by decide +kernel
theorem dX6_readSleeper_27 : decode cX6_readSleeper 27 = .ok (.getfield 32, 3) := by decide +kernel
theorem dX6_readSleeper_30 : decode cX6_readSleeper 30 = .ok (.getfield 76, 3) := by decide +kernel
theorem dX6_readSleeper_33 : decode cX6_readSleeper 33 = .ok (.invokevirtual 151, 3) := by decide +kernel
theorem dX6_readSleeper_36 : decode cX6_readSleeper 36 = .ok (.ifCond .eq 21, 3) := by decide +kernel
theorem dX6_readSleeper_39 : decode cX6_readSleeper 39 = .ok (.aload_n 0, 1) := by decide +kernel
theorem dX6_readSleeper_40 : decode cX6_readSleeper 40 = .ok (.getstatic 228, 3) := by decide +kernel
theorem dX6_readSleeper_43 : decode cX6_readSleeper 43 = .ok (.invokevirtual 141, 3) := by decide +kernel
theorem dX6_readSleeper_46 : decode cX6_readSleeper 46 = .ok (.ifCond .eq 11, 3) := by decide +kernel
theorem dX6_readSleeper_49 : decode cX6_readSleeper 49 = .ok (.aload_n 0, 1) := by decide +kernel
theorem dX6_readSleeper_50 : decode cX6_readSleeper 50 = .ok (.iconst 0, 1) := by decide +kernel
theorem dX6_readSleeper_51 : decode cX6_readSleeper 51 = .ok (.invokevirtual 170, 3) := by decide +kernel
theorem dX6_readSleeper_54 : decode cX6_readSleeper 54 = .ok (.ifCond .ne 5, 3) := by decide +kernel
theorem dX6_readSleeper_57 : decode cX6_readSleeper 57 = .ok (.iconst 0, 1) := by decide +kernel
theorem dX6_readSleeper_58 : decode cX6_readSleeper 58 = .ok (.ireturn, 1) := by decide +kernel
theorem dX6_readSleeper_59 : decode cX6_readSleeper 59 = .ok (.aload_n 0, 1) := by decide +kernel
theorem dX6_readSleeper_60 : decode cX6_readSleeper 60 = .ok (.getfield 148, 3) := by decide +kernel
theorem dX6_readSleeper_63 : decode cX6_readSleeper 63 = .ok (.istore_n 1, 1) := by decide +kernel
theorem dX6_readSleeper_64 : decode cX6_readSleeper 64 = .ok (.aload_n 0, 1) := by decide +kernel
theorem dX6_readSleeper_65 : decode cX6_readSleeper 65 = .ok (.getstatic 231, 3) := by decide +kernel
theorem dX6_readSleeper_68 : decode cX6_readSleeper 68 = .ok (.invokevirtual 141, 3) := by decide +kernel
theorem dX6_readSleeper_71 : decode cX6_readSleeper 71 = .ok (.ifCond .eq 11, 3) := by decide +kernel
theorem dX6_readSleeper_74 : decode cX6_readSleeper 74 = .ok (.aload_n 0, 1) := by decide +kernel
theorem dX6_readSleeper_75 : decode cX6_readSleeper 75 = .ok (.iconst 2, 1) := by decide +kernel
theorem dX6_readSleeper_76 : decode cX6_readSleeper 76 = .ok (.invokevirtual 170, 3) := by decide +kernel
theorem dX6_readSleeper_79 : decode cX6_readSleeper 79 = .ok (.ifCond .ne 5, 3) := by decide +kernel
theorem dX6_readSleeper_82 : decode cX6_readSleeper 82 = .ok (.iconst 0, 1) := by decide +kernel
theorem dX6_readSleeper_83 : decode cX6_readSleeper 83 = .ok (.ireturn, 1) := by decide +kernel
theorem dX6_readSleeper_84 : decode cX6_readSleeper 84 = .ok (.aload_n 0, 1) := by decide +kernel
theorem dX6_readSleeper_85 : decode cX6_readSleeper 85 = .ok (.getfield 32, 3) := by decide +kernel
theorem dX6_readSleeper_88 : decode cX6_readSleeper 88 = .ok (.iload_n 1, 1) := by decide +kernel
theorem dX6_readSleeper_89 : decode cX6_readSleeper 89 = .ok (.aload_n 0, 1) := by decide +kernel
theorem dX6_readSleeper_90 : decode cX6_readSleeper 90 = .ok (.getfield 148, 3) := by decide +kernel
theorem dX6_readSleeper_93 : decode cX6_readSleeper 93 = .ok (.invokevirtual 234, 3) := by decide +kernel
theorem dX6_readSleeper_96 : decode cX6_readSleeper 96 = .ok (.iconst 1, 1) := by decide +kernel
theorem dX6_readSleeper_97 : decode cX6_readSleeper 97 = .ok (.ireturn, 1) := by decide +kernel
theorem dX2_isListening_0 : decode cX2_isListening 0 = .ok (.iconst 0, 1) := by decide +kernel
theorem dX2_isListening_1 : decode cX2_isListening 1 = .ok (.istore_n 2, 1) := by decide +kernel
theorem dX2_isListening_2 : decode cX2_isListening 2 = .ok (.iload_n 2, 1) := by decide +kernel
theorem dX2_isListening_3 : decode cX2_isListening 3 = .ok (.aload_n 0, 1) := by decide +kernel
theorem dX2_isListening_4 : decode cX2_isListening 4 = .ok (.getfield 63, 3) := by decide +kernel
theorem dX2_isListening_7 : decode cX2_isListening 7 = .ok (.if_icmp .ge 21, 3) := by decide +kernel
theorem dX2_isListening_10 : decode cX2_isListening 10 = .ok (.aload_n 0, 1) := by decide +kernel
theorem dX2_isListening_11 : decode cX2_isListening 11 = .ok (.getfield 35, 3) := by decide +kernel
theorem dX2_isListening_14 : decode cX2_isListening 14 = .ok (.iload_n 2, 1) := by decide +kernel
theorem dX2_isListening_15 : decode cX2_isListening 15 = .ok (.iaload, 1) := by decide +kernel
theorem dX2_isListening_16 : decode cX2_isListening 16 = .ok (.iload_n 1, 1) := by decide +kernel
theorem dX2_isListening_17 : decode cX2_isListening 17 = .ok (.if_icmp .ne 5, 3) := by decide +kernel
theorem dX2_isListening_20 : decode cX2_isListening 20 = .ok (.iconst 1, 1) := by decide +kernel
theorem dX2_isListening_21 : decode cX2_isListening 21 = .ok (.ireturn, 1) := by decide +kernel
theorem dX2_isListening_22 : decode cX2_isListening 22 = .ok (.iinc 2 1, 3) := by decide +kernel
theorem dX2_isListening_25 : decode cX2_isListening 25 = .ok (.goto (-23), 3) := by decide +kernel
theorem dX2_isListening_28 : decode cX2_isListening 28 = .ok (.iconst 0, 1) := by decide +kernel
theorem dX2_isListening_29 : decode cX2_isListening 29 = .ok (.ireturn, 1) := by decide +kernel
theorem dX2_addListener_0 : decode cX2_addListener 0 = .ok (.aload_n 0, 1) := by decide +kernel
theorem dX2_addListener_1 : decode cX2_addListener 1 = .ok (.getfield 35, 3) := by decide +kernel
theorem dX2_addListener_4 : decode cX2_addListener 4 = .ok (.aload_n 0, 1) := by decide +kernel
theorem dX2_addListener_5 : decode cX2_addListener 5 = .ok (.getfield 63, 3) := by decide +kernel
theorem dX2_addListener_8 : decode cX2_addListener 8 = .ok (.iload_n 1, 1) := by decide +kernel
theorem dX2_addListener_9 : decode cX2_addListener 9 = .ok (.iastore, 1) := by decide +kernel
theorem dX2_addListener_10 : decode cX2_addListener 10 = .ok (.aload_n 0, 1) := by decide +kernel
theorem dX2_addListener_11 : decode cX2_addListener 11 = .ok (.dup, 1) := by decide +kernel
theorem dX2_addListener_12 : decode cX2_addListener 12 = .ok (.getfield 63, 3) := by decide +kernel
theorem dX2_addListener_15 : decode cX2_addListener 15 = .ok (.iconst 1, 1) := by decide +kernel
theorem dX2_addListener_16 : decode cX2_addListener 16 = .ok (.iadd, 1) := by decide +kernel
theorem dX2_addListener_17 : decode cX2_addListener 17 = .ok (.putfield 63, 3) := by decide +kernel
theorem dX2_addListener_20 : decode cX2_addListener 20 = .ok (.return_, 1) := by decide +kernel
theorem dX6_readListener_0 : decode cX6_readListener 0 = .ok (.aload_n 0, 1) := by decide +kernel
theorem dX6_readListener_1 : decode cX6_readListener 1 = .ok (.getfield 32, 3) := by decide +kernel
theorem dX6_readListener_4 : decode cX6_readListener 4 = .ok (.getfield 238, 3) := by decide +kernel
theorem dX6_readListener_7 : decode cX6_readListener 7 = .ok (.iconst 3, 1) := by decide +kernel
theorem dX6_readListener_8 : decode cX6_readListener 8 = .ok (.if_icmp .lt 9, 3) := by decide +kernel
theorem dX6_readListener_11 : decode cX6_readListener 11 = .ok (.aload_n 0, 1) := by decide +kernel
theorem dX6_readListener_12 : decode cX6_readListener 12 = .ok (.iconst 5, 1) := by decide +kernel
theorem dX6_readListener_13 : decode cX6_readListener 13 = .ok (.invokevirtual 60, 3) := by decide +kernel
theorem dX6_readListener_16 : decode cX6_readListener 16 = .ok (.ireturn, 1) := by decide +kernel
theorem dX6_readListener_17 : decode cX6_readListener 17 = .ok (.aload_n 0, 1) := by decide +kernel
theorem dX6_readListener_18 : decode cX6_readListener 18 = .ok (.getfield 12, 3) := by decide +kernel
theorem dX6_readListener_21 : decode cX6_readListener 21 = .ok (.invokevirtual 57, 3) := by decide +kernel
theorem dX6_readListener_24 : decode cX6_readListener 24 = .ok (.aload_n 0, 1) := by decide +kernel
theorem dX6_readListener_25 : decode cX6_readListener 25 = .ok (.iconst 0, 1) := by decide +kernel
theorem dX6_readListener_26 : decode cX6_readListener 26 = .ok (.invokevirtual 241, 3) := by decide +kernel
theorem dX6_readListener_29 : decode cX6_readListener 29 = .ok (.ifCond .ne 5, 3) := by decide +kernel
theorem dX6_readListener_32 : decode cX6_readListener 32 = .ok (.iconst 0, 1) := by decide +kernel
theorem dX6_readListener_33 : decode cX6_readListener 33 = .ok (.ireturn, 1) := by decide +kernel
theorem dX6_readListener_34 : decode cX6_readListener 34 = .ok (.aload_n 0, 1) := by decide +kernel
theorem dX6_readListener_35 : decode cX6_readListener 35 = .ok (.getfield 32, 3) := by decide +kernel
theorem dX6_readListener_38 : decode cX6_readListener 38 = .ok (.aload_n 0, 1) := by decide +kernel
theorem dX6_readListener_39 : decode cX6_readListener 39 = .ok (.getfield 148, 3) := by decide +kernel
theorem dX6_readListener_42 : decode cX6_readListener 42 = .ok (.invokevirtual 244, 3) := by decide +kernel
theorem dX6_readListener_45 : decode cX6_readListener 45 = .ok (.ifCond .eq 9, 3) := by decide +kernel
theorem dX6_readListener_48 : decode cX6_readListener 48 = .ok (.aload_n 0, 1) := by decide +kernel
theorem dX6_readListener_49 : decode cX6_readListener 49 = .ok (.iconst 3, 1) := by decide +kernel
theorem dX6_readListener_50 : decode cX6_readListener 50 = .ok (.invokevirtual 60, 3) := by decide +kernel
theorem dX6_readListener_53 : decode cX6_readListener 53 = .ok (.ireturn, 1) := by decide +kernel
theorem dX6_readListener_54 : decode cX6_readListener 54 = .ok (.aload_n 0, 1) := by decide +kernel
theorem dX6_readListener_55 : decode cX6_readListener 55 = .ok (.getfield 12, 3) := by decide +kernel
theorem dX6_readListener_58 : decode cX6_readListener 58 = .ok (.invokevirtual 57, 3) := by decide +kernel
theorem dX6_readListener_61 : decode cX6_readListener 61 = .ok (.aload_n 0, 1) := by decide +kernel
theorem dX6_readListener_62 : decode cX6_readListener 62 = .ok (.getfield 32, 3) := by decide +kernel
theorem dX6_readListener_65 : decode cX6_readListener 65 = .ok (.aload_n 0, 1) := by decide +kernel
theorem dX6_readListener_66 : decode cX6_readListener 66 = .ok (.getfield 148, 3) := by decide +kernel
theorem dX6_readListener_69 : decode cX6_readListener 69 = .ok (.invokevirtual 247, 3) := by decide +kernel
theorem dX6_readListener_72 : decode cX6_readListener 72 = .ok (.iconst 1, 1) := by decide +kernel
theorem dX6_readListener_73 : decode cX6_readListener 73 = .ok (.ireturn, 1) := by decide +kernel
theorem dX6_readLine_0 : decode cX6_readLine 0 = .ok (.aload_n 0, 1) := by decide +kernel
theorem dX6_readLine_1 : decode cX6_readLine 1 = .ok (.getfield 12, 3) := by decide +kernel
theorem dX6_readLine_4 : decode cX6_readLine 4 = .ok (.getstatic 89, 3) := by decide +kernel
theorem dX6_readLine_7 : decode cX6_readLine 7 = .ok (.invokevirtual 95, 3) := by decide +kernel
theorem dX6_readLine_10 : decode cX6_readLine 10 = .ok (.ifCond .eq 8, 3) := by decide +kernel
theorem dX6_readLine_13 : decode cX6_readLine 13 = .ok (.aload_n 0, 1) := by decide +kernel
theorem dX6_readLine_14 : decode cX6_readLine 14 = .ok (.invokevirtual 99, 3) := by decide +kernel
theorem dX6_readLine_17 : decode cX6_readLine 17 = .ok (.ireturn, 1) := by decide +kernel
theorem dX6_readLine_18 : decode cX6_readLine 18 = .ok (.aload_n 0, 1) := by decide +kernel
theorem dX6_readLine_19 : decode cX6_readLine 19 = .ok (.getfield 12, 3) := by decide +kernel
theorem dX6_readLine_22 : decode cX6_readLine 22 = .ok (.getstatic 102, 3) := by decide +kernel
theorem dX6_readLine_25 : decode cX6_readLine 25 = .ok (.invokevirtual 95, 3) := by decide +kernel
theorem dX6_readLine_28 : decode cX6_readLine 28 = .ok (.ifCond .eq 8, 3) := by decide +kernel
theorem dX6_readLine_31 : decode cX6_readLine 31 = .ok (.aload_n 0, 1) := by decide +kernel
theorem dX6_readLine_32 : decode cX6_readLine 32 = .ok (.invokevirtual 105, 3) := by decide +kernel
theorem dX6_readLine_35 : decode cX6_readLine 35 = .ok (.ireturn, 1) := by decide +kernel
theorem dX6_readLine_36 : decode cX6_readLine 36 = .ok (.aload_n 0, 1) := by decide +kernel
theorem dX6_readLine_37 : decode cX6_readLine 37 = .ok (.getfield 12, 3) := by decide +kernel
theorem dX6_readLine_40 : decode cX6_readLine 40 = .ok (.getstatic 108, 3) := by decide +kernel
theorem dX6_readLine_43 : decode cX6_readLine 43 = .ok (.invokevirtual 95, 3) := by decide +kernel
theorem dX6_readLine_46 : decode cX6_readLine 46 = .ok (.ifCond .eq 8, 3) := by decide +kernel
theorem dX6_readLine_49 : decode cX6_readLine 49 = .ok (.aload_n 0, 1) := by decide +kernel
theorem dX6_readLine_50 : decode cX6_readLine 50 = .ok (.invokevirtual 111, 3) := by decide +kernel
theorem dX6_readLine_53 : decode cX6_readLine 53 = .ok (.ireturn, 1) := by decide +kernel
theorem dX6_readLine_54 : decode cX6_readLine 54 = .ok (.aload_n 0, 1) := by decide +kernel
theorem dX6_readLine_55 : decode cX6_readLine 55 = .ok (.getfield 12, 3) := by decide +kernel
theorem dX6_readLine_58 : decode cX6_readLine 58 = .ok (.getstatic 114, 3) := by decide +kernel
theorem dX6_readLine_61 : decode cX6_readLine 61 = .ok (.invokevirtual 95, 3) := by decide +kernel
theorem dX6_readLine_64 : decode cX6_readLine 64 = .ok (.ifCond .eq 8, 3) := by decide +kernel
theorem dX6_readLine_67 : decode cX6_readLine 67 = .ok (.aload_n 0, 1) := by decide +kernel
theorem dX6_readLine_68 : decode cX6_readLine 68 = .ok (.invokevirtual 117, 3) := by decide +kernel
theorem dX6_readLine_71 : decode cX6_readLine 71 = .ok (.ireturn, 1) := by decide +kernel
theorem dX6_readLine_72 : decode cX6_readLine 72 = .ok (.aload_n 0, 1) := by decide +kernel
theorem dX6_readLine_73 : decode cX6_readLine 73 = .ok (.getfield 12, 3) := by decide +kernel
theorem dX6_readLine_76 : decode cX6_readLine 76 = .ok (.getstatic 120, 3) := by decide +kernel
theorem dX6_readLine_79 : decode cX6_readLine 79 = .ok (.invokevirtual 95, 3) := by decide +kernel
theorem dX6_readLine_82 : decode cX6_readLine 82 = .ok (.ifCond .eq 8, 3) := by decide +kernel
theorem dX6_readLine_85 : decode cX6_readLine 85 = .ok (.aload_n 0, 1) := by decide +kernel
theorem dX6_readLine_86 : decode cX6_readLine 86 = .ok (.invokevirtual 123, 3) := by decide +kernel
theorem dX6_readLine_89 : decode cX6_readLine 89 = .ok (.ireturn, 1) := by decide +kernel
theorem dX6_readLine_90 : decode cX6_readLine 90 = .ok (.aload_n 0, 1) := by decide +kernel
theorem dX6_readLine_91 : decode cX6_readLine 91 = .ok (.getfield 12, 3) := by decide +kernel
theorem dX6_readLine_94 : decode cX6_readLine 94 = .ok (.getstatic 126, 3) := by decide +kernel
theorem dX6_readLine_97 : decode cX6_readLine 97 = .ok (.invokevirtual 95, 3) := by decide +kernel
theorem dX6_readLine_100 : decode cX6_readLine 100 = .ok (.ifCond .eq 8, 3) := by decide +kernel
theorem dX6_readLine_103 : decode cX6_readLine 103 = .ok (.aload_n 0, 1) := by decide +kernel
theorem dX6_readLine_104 : decode cX6_readLine 104 = .ok (.invokevirtual 129, 3) := by decide +kernel
theorem dX6_readLine_107 : decode cX6_readLine 107 = .ok (.ireturn, 1) := by decide +kernel
theorem dX6_readLine_108 : decode cX6_readLine 108 = .ok (.aload_n 0, 1) := by decide +kernel
theorem dX6_readLine_109 : decode cX6_readLine 109 = .ok (.getfield 12, 3) := by decide +kernel
theorem dX6_readLine_112 : decode cX6_readLine 112 = .ok (.getstatic 132, 3) := by decide +kernel
theorem dX6_readLine_115 : decode cX6_readLine 115 = .ok (.invokevirtual 95, 3) := by decide +kernel
theorem dX6_readLine_118 : decode cX6_readLine 118 = .ok (.ifCond .eq 8, 3) := by decide +kernel
theorem dX6_readLine_121 : decode cX6_readLine 121 = .ok (.aload_n 0, 1) := by decide +kernel
theorem dX6_readLine_122 : decode cX6_readLine 122 = .ok (.invokevirtual 135, 3) := by decide +kernel
theorem dX6_readLine_125 : decode cX6_readLine 125 = .ok (.ireturn, 1) := by decide +kernel
theorem dX6_readLine_126 : decode cX6_readLine 126 = .ok (.aload_n 0, 1) := by decide +kernel
theorem dX6_readLine_127 : decode cX6_readLine 127 = .ok (.iconst 1, 1) := by decide +kernel
theorem dX6_readLine_128 : decode cX6_readLine 128 = .ok (.invokevirtual 60, 3) := by decide +kernel
theorem dX6_readLine_131 : decode cX6_readLine 131 = .ok (.ireturn, 1) := by decide +kernel
theorem dX10_isBitSet_0 : decode cX10_isBitSet 0 = .ok (.lload_n 0, 1) := by decide +kernel
theorem dX10_isBitSet_1 : decode cX10_isBitSet 1 = .ok (.iload_n 2, 1) := by decide +kernel
theorem dX10_isBitSet_2 : decode cX10_isBitSet 2 = .ok (.lushr, 1) := by decide +kernel
theorem dX10_isBitSet_3 : decode cX10_isBitSet 3 = .ok (.lconst 1, 1) := by decide +kernel
theorem dX10_isBitSet_4 : decode cX10_isBitSet 4 = .ok (.land, 1) := by decide +kernel
theorem dX10_isBitSet_5 : decode cX10_isBitSet 5 = .ok (.lconst 0, 1) := by decide +kernel
theorem dX10_isBitSet_6 : decode cX10_isBitSet 6 = .ok (.lcmp, 1) := by decide +kernel
theorem dX10_isBitSet_7 : decode cX10_isBitSet 7 = .ok (.ifCond .eq 7, 3) := by decide +kernel
theorem dX10_isBitSet_10 : decode cX10_isBitSet 10 = .ok (.iconst 1, 1) := by decide +kernel
theorem dX10_isBitSet_11 : decode cX10_isBitSet 11 = .ok (.goto 4, 3) := by decide +kernel
theorem dX10_isBitSet_14 : decode cX10_isBitSet 14 = .ok (.iconst 0, 1) := by decide +kernel
theorem dX10_isBitSet_15 : decode cX10_isBitSet 15 = .ok (.ireturn, 1) := by decide +kernel
theorem dX8_doorsFrom_0 : decode cX8_doorsFrom 0 = .ok (.aload_n 0, 1) := by decide +kernel
theorem dX8_doorsFrom_1 : decode cX8_doorsFrom 1 = .ok (.getfield 9, 3) := by decide +kernel
theorem dX8_doorsFrom_4 : decode cX8_doorsFrom 4 = .ok (.iload_n 1, 1) := by decide +kernel
theorem dX8_doorsFrom_5 : decode cX8_doorsFrom 5 = .ok (.bipush 8, 2) := by decide +kernel
theorem dX8_doorsFrom_7 : decode cX8_doorsFrom 7 = .ok (.imul, 1) := by decide +kernel
theorem dX8_doorsFrom_8 : decode cX8_doorsFrom 8 = .ok (.iload_n 2, 1) := by decide +kernel
theorem dX8_doorsFrom_9 : decode cX8_doorsFrom 9 = .ok (.iadd, 1) := by decide +kernel
theorem dX8_doorsFrom_10 : decode cX8_doorsFrom 10 = .ok (.iaload, 1) := by decide +kernel
theorem dX8_doorsFrom_11 : decode cX8_doorsFrom 11 = .ok (.ireturn, 1) := by decide +kernel
theorem dX8_shorten_0 : decode cX8_shorten 0 = .ok (.aload_n 0, 1) := by decide +kernel
theorem dX8_shorten_1 : decode cX8_shorten 1 = .ok (.iload_n 1, 1) := by decide +kernel
theorem dX8_shorten_2 : decode cX8_shorten 2 = .ok (.iload_n 2, 1) := by decide +kernel
theorem dX8_shorten_3 : decode cX8_shorten 3 = .ok (.invokevirtual 45, 3) := by decide +kernel
theorem dX8_shorten_6 : decode cX8_shorten 6 = .ok (.istore_n 3, 1) := by decide +kernel
theorem dX8_shorten_7 : decode cX8_shorten 7 = .ok (.iconst 0, 1) := by decide +kernel
theorem dX8_shorten_8 : decode cX8_shorten 8 = .ok (.istore 4, 2) := by decide +kernel
theorem dX8_shorten_10 : decode cX8_shorten 10 = .ok (.iload 4, 2) := by decide +kernel
theorem dX8_shorten_12 : decode cX8_shorten 12 = .ok (.aload_n 0, 1) := by decide +kernel
theorem dX8_shorten_13 : decode cX8_shorten 13 = .ok (.getfield 21, 3) := by decide +kernel
theorem dX8_shorten_16 : decode cX8_shorten 16 = .ok (.if_icmp .ge 46, 3) := by decide +kernel
theorem dX8_shorten_19 : decode cX8_shorten 19 = .ok (.iload_n 3, 1) := by decide +kernel
theorem dX8_shorten_20 : decode cX8_shorten 20 = .ok (.aload_n 0, 1) := by decide +kernel
theorem dX8_shorten_21 : decode cX8_shorten 21 = .ok (.iload_n 2, 1) := by decide +kernel
theorem dX8_shorten_22 : decode cX8_shorten 22 = .ok (.iload 4, 2) := by decide +kernel
theorem dX8_shorten_24 : decode cX8_shorten 24 = .ok (.invokevirtual 45, 3) := by decide +kernel
theorem dX8_shorten_27 : decode cX8_shorten 27 = .ok (.iadd, 1) := by decide +kernel
theorem dX8_shorten_28 : decode cX8_shorten 28 = .ok (.istore 5, 2) := by decide +kernel
theorem dX8_shorten_30 : decode cX8_shorten 30 = .ok (.iload 5, 2) := by decide +kernel
theorem dX8_shorten_32 : decode cX8_shorten 32 = .ok (.aload_n 0, 1) := by decide +kernel
theorem dX8_shorten_33 : decode cX8_shorten 33 = .ok (.iload_n 1, 1) := by decide +kernel
theorem dX8_shorten_34 : decode cX8_shorten 34 = .ok (.iload 4, 2) := by decide +kernel
theorem dX8_shorten_36 : decode cX8_shorten 36 = .ok (.invokevirtual 45, 3) := by decide +kernel
theorem dX8_shorten_39 : decode cX8_shorten 39 = .ok (.if_icmp .ge 17, 3) := by decide +kernel
theorem dX8_shorten_42 : decode cX8_shorten 42 = .ok (.aload_n 0, 1) := by decide +kernel
theorem dX8_shorten_43 : decode cX8_shorten 43 = .ok (.getfield 9, 3) := by decide +kernel
theorem dX8_shorten_46 : decode cX8_shorten 46 = .ok (.iload_n 1, 1) := by decide +kernel
theorem dX8_shorten_47 : decode cX8_shorten 47 = .ok (.bipush 8, 2) := by decide +kernel
theorem dX8_shorten_49 : decode cX8_shorten 49 = .ok (.imul, 1) := by decide +kernel
theorem dX8_shorten_50 : decode cX8_shorten 50 = .ok (.iload 4, 2) := by decide +kernel
theorem dX8_shorten_52 : decode cX8_shorten 52 = .ok (.iadd, 1) := by decide +kernel
theorem dX8_shorten_53 : decode cX8_shorten 53 = .ok (.iload 5, 2) := by decide +kernel
theorem dX8_shorten_55 : decode cX8_shorten 55 = .ok (.iastore, 1) := by decide +kernel
theorem dX8_shorten_56 : decode cX8_shorten 56 = .ok (.iinc 4 1, 3) := by decide +kernel
theorem dX8_shorten_59 : decode cX8_shorten 59 = .ok (.goto (-49), 3) := by decide +kernel
theorem dX8_shorten_62 : decode cX8_shorten 62 = .ok (.return_, 1) := by decide +kernel
theorem dX8_measure_0 : decode cX8_measure 0 = .ok (.aload_n 0, 1) := by decide +kernel
theorem dX8_measure_1 : decode cX8_measure 1 = .ok (.aload_n 1, 1) := by decide +kernel
theorem dX8_measure_2 : decode cX8_measure 2 = .ok (.getfield 15, 3) := by decide +kernel
theorem dX8_measure_5 : decode cX8_measure 5 = .ok (.putfield 21, 3) := by decide +kernel
theorem dX8_measure_8 : decode cX8_measure 8 = .ok (.aload_n 0, 1) := by decide +kernel
theorem dX8_measure_9 : decode cX8_measure 9 = .ok (.getfield 9, 3) := by decide +kernel
theorem dX8_measure_12 : decode cX8_measure 12 = .ok (.bipush 99, 2) := by decide +kernel
theorem dX8_measure_14 : decode cX8_measure 14 = .ok (.invokestatic 22, 3) := by decide +kernel
theorem dX8_measure_17 : decode cX8_measure 17 = .ok (.iconst 0, 1) := by decide +kernel
theorem dX8_measure_18 : decode cX8_measure 18 = .ok (.istore_n 3, 1) := by decide +kernel
theorem dX8_measure_19 : decode cX8_measure 19 = .ok (.iload_n 3, 1) := by decide +kernel
theorem dX8_measure_20 : decode cX8_measure 20 = .ok (.aload_n 0, 1) := by decide +kernel
theorem dX8_measure_21 : decode cX8_measure 21 = .ok (.getfield 21, 3) := by decide +kernel
theorem dX8_measure_24 : decode cX8_measure 24 = .ok (.if_icmp .ge 21, 3) := by decide +kernel
theorem dX8_measure_27 : decode cX8_measure 27 = .ok (.aload_n 0, 1) := by decide +kernel
theorem dX8_measure_28 : decode cX8_measure 28 = .ok (.getfield 9, 3) := by decide +kernel
theorem dX8_measure_31 : decode cX8_measure 31 = .ok (.iload_n 3, 1) := by decide +kernel
theorem dX8_measure_32 : decode cX8_measure 32 = .ok (.bipush 8, 2) := by decide +kernel
theorem dX8_measure_34 : decode cX8_measure 34 = .ok (.imul, 1) := by decide +kernel
theorem dX8_measure_35 : decode cX8_measure 35 = .ok (.iload_n 3, 1) := by decide +kernel
theorem dX8_measure_36 : decode cX8_measure 36 = .ok (.iadd, 1) := by decide +kernel
theorem dX8_measure_37 : decode cX8_measure 37 = .ok (.iconst 0, 1) := by decide +kernel
theorem dX8_measure_38 : decode cX8_measure 38 = .ok (.iastore, 1) := by decide +kernel
theorem dX8_measure_39 : decode cX8_measure 39 = .ok (.iinc 3 1, 3) := by decide +kernel
theorem dX8_measure_42 : decode cX8_measure 42 = .ok (.goto (-23), 3) := by decide +kernel
theorem dX8_measure_45 : decode cX8_measure 45 = .ok (.iconst 0, 1) := by decide +kernel
theorem dX8_measure_46 : decode cX8_measure 46 = .ok (.istore_n 3, 1) := by decide +kernel
theorem dX8_measure_47 : decode cX8_measure 47 = .ok (.iload_n 3, 1) := by decide +kernel
theorem dX8_measure_48 : decode cX8_measure 48 = .ok (.aload_n 1, 1) := by decide +kernel
theorem dX8_measure_49 : decode cX8_measure 49 = .ok (.getfield 28, 3) := by decide +kernel
theorem dX8_measure_52 : decode cX8_measure 52 = .ok (.if_icmp .ge 62, 3) := by decide +kernel
theorem dX8_measure_55 : decode cX8_measure 55 = .ok (.iload_n 2, 1) := by decide +kernel
theorem dX8_measure_56 : decode cX8_measure 56 = .ok (.i2l, 1) := by decide +kernel
theorem dX8_measure_57 : decode cX8_measure 57 = .ok (.iload_n 3, 1) := by decide +kernel
theorem dX8_measure_58 : decode cX8_measure 58 = .ok (.invokestatic 31, 3) := by decide +kernel
theorem dX8_measure_61 : decode cX8_measure 61 = .ok (.ifCond .ne 47, 3) := by decide +kernel
theorem dX8_measure_64 : decode cX8_measure 64 = .ok (.aload_n 0, 1) := by decide +kernel
theorem dX8_measure_65 : decode cX8_measure 65 = .ok (.getfield 9, 3) := by decide +kernel
theorem dX8_measure_68 : decode cX8_measure 68 = .ok (.aload_n 1, 1) := by decide +kernel
theorem dX8_measure_69 : decode cX8_measure 69 = .ok (.getfield 35, 3) := by decide +kernel
theorem dX8_measure_72 : decode cX8_measure 72 = .ok (.iload_n 3, 1) := by decide +kernel
theorem dX8_measure_73 : decode cX8_measure 73 = .ok (.iaload, 1) := by decide +kernel
theorem dX8_measure_74 : decode cX8_measure 74 = .ok (.bipush 8, 2) := by decide +kernel
theorem dX8_measure_76 : decode cX8_measure 76 = .ok (.imul, 1) := by decide +kernel
theorem dX8_measure_77 : decode cX8_measure 77 = .ok (.aload_n 1, 1) := by decide +kernel
theorem dX8_measure_78 : decode cX8_measure 78 = .ok (.getfield 38, 3) := by decide +kernel
theorem dX8_measure_81 : decode cX8_measure 81 = .ok (.iload_n 3, 1) := by decide +kernel
theorem dX8_measure_82 : decode cX8_measure 82 = .ok (.iaload, 1) := by decide +kernel
theorem dX8_measure_83 : decode cX8_measure 83 = .ok (.iadd, 1) := by decide +kernel
theorem dX8_measure_84 : decode cX8_measure 84 = .ok (.iconst 1, 1) := by decide +kernel
theorem dX8_measure_85 : decode cX8_measure 85 = .ok (.iastore, 1) := by decide +kernel
theorem dX8_measure_86 : decode cX8_measure 86 = .ok (.aload_n 0, 1) := by decide +kernel
theorem dX8_measure_87 : decode cX8_measure 87 = .ok (.getfield 9, 3) := by decide +kernel
theorem dX8_measure_90 : decode cX8_measure 90 = .ok (.aload_n 1, 1) := by decide +kernel
theorem dX8_measure_91 : decode cX8_measure 91 = .ok (.getfield 38, 3) := by decide +kernel
theorem dX8_measure_94 : decode cX8_measure 94 = .ok (.iload_n 3, 1) := by decide +kernel
theorem dX8_measure_95 : decode cX8_measure 95 = .ok (.iaload, 1) := by decide +kernel
theorem dX8_measure_96 : decode cX8_measure 96 = .ok (.bipush 8, 2) := by decide +kernel
theorem dX8_measure_98 : decode cX8_measure 98 = .ok (.imul, 1) := by decide +kernel
theorem dX8_measure_99 : decode cX8_measure 99 = .ok (.aload_n 1, 1) := by decide +kernel
theorem dX8_measure_100 : decode cX8_measure 100 = .ok (.getfield 35, 3) := by decide +kernel
theorem dX8_measure_103 : decode cX8_measure 103 = .ok (.iload_n 3, 1) := by decide +kernel
theorem dX8_measure_104 : decode cX8_measure 104 = .ok (.iaload, 1) := by decide +kernel
theorem dX8_measure_105 : decode cX8_measure 105 = .ok (.iadd, 1) := by decide +kernel
theorem dX8_measure_106 : decode cX8_measure 106 = .ok (.iconst 1, 1) := by decide +kernel
theorem dX8_measure_107 : decode cX8_measure 107 = .ok (.iastore, 1) := by decide +kernel
theorem dX8_measure_108 : decode cX8_measure 108 = .ok (.iinc 3 1, 3) := by decide +kernel
theorem dX8_measure_111 : decode cX8_measure 111 = .ok (.goto (-64), 3) := by decide +kernel
theorem dX8_measure_114 : decode cX8_measure 114 = .ok (.iconst 0, 1) := by decide +kernel
theorem dX8_measure_115 : decode cX8_measure 115 = .ok (.istore_n 3, 1) := by decide +kernel
theorem dX8_measure_116 : decode cX8_measure 116 = .ok (.iload_n 3, 1) := by decide +kernel
theorem dX8_measure_117 : decode cX8_measure 117 = .ok (.aload_n 0, 1) := by decide +kernel
theorem dX8_measure_118 : decode cX8_measure 118 = .ok (.getfield 21, 3) := by decide +kernel
theorem dX8_measure_121 : decode cX8_measure 121 = .ok (.if_icmp .ge 34, 3) := by decide +kernel
theorem dX8_measure_124 : decode cX8_measure 124 = .ok (.iconst 0, 1) := by decide +kernel
theorem dX8_measure_125 : decode cX8_measure 125 = .ok (.istore 4, 2) := by decide +kernel
theorem dX8_measure_127 : decode cX8_measure 127 = .ok (.iload 4, 2) := by decide +kernel
theorem dX8_measure_129 : decode cX8_measure 129 = .ok (.aload_n 0, 1) := by decide +kernel
theorem dX8_measure_130 : decode cX8_measure 130 = .ok (.getfield 21, 3) := by decide +kernel
theorem dX8_measure_133 : decode cX8_measure 133 = .ok (.if_icmp .ge 16, 3) := by decide +kernel
theorem dX8_measure_136 : decode cX8_measure 136 = .ok (.aload_n 0, 1) := by decide +kernel
theorem dX8_measure_137 : decode cX8_measure 137 = .ok (.iload 4, 2) := by decide +kernel
theorem dX8_measure_139 : decode cX8_measure 139 = .ok (.iload_n 3, 1) := by decide +kernel
theorem dX8_measure_140 : decode cX8_measure 140 = .ok (.invokevirtual 41, 3) := by decide +kernel
theorem dX8_measure_143 : decode cX8_measure 143 = .ok (.iinc 4 1, 3) := by decide +kernel
theorem dX8_measure_146 : decode cX8_measure 146 = .ok (.goto (-19), 3) := by decide +kernel
theorem dX8_measure_149 : decode cX8_measure 149 = .ok (.iinc 3 1, 3) := by decide +kernel
theorem dX8_measure_152 : decode cX8_measure 152 = .ok (.goto (-36), 3) := by decide +kernel
theorem dX8_measure_155 : decode cX8_measure 155 = .ok (.return_, 1) := by decide +kernel
theorem dX6_read_0 : decode cX6_read 0 = .ok (.aload_n 0, 1) := by decide +kernel
theorem dX6_read_1 : decode cX6_read 1 = .ok (.getfield 32, 3) := by decide +kernel
theorem dX6_read_4 : decode cX6_read 4 = .ok (.invokevirtual 36, 3) := by decide +kernel
theorem dX6_read_7 : decode cX6_read 7 = .ok (.aload_n 0, 1) := by decide +kernel
theorem dX6_read_8 : decode cX6_read 8 = .ok (.iconst 0, 1) := by decide +kernel
theorem dX6_read_9 : decode cX6_read 9 = .ok (.putfield 39, 3) := by decide +kernel
theorem dX6_read_12 : decode cX6_read 12 = .ok (.aload_n 0, 1) := by decide +kernel
theorem dX6_read_13 : decode cX6_read 13 = .ok (.iconst 0, 1) := by decide +kernel
theorem dX6_read_14 : decode cX6_read 14 = .ok (.putfield 43, 3) := by decide +kernel
theorem dX6_read_17 : decode cX6_read 17 = .ok (.aload_n 0, 1) := by decide +kernel
theorem dX6_read_18 : decode cX6_read 18 = .ok (.getfield 12, 3) := by decide +kernel
theorem dX6_read_21 : decode cX6_read 21 = .ok (.iload_n 1, 1) := by decide +kernel
theorem dX6_read_22 : decode cX6_read 22 = .ok (.invokevirtual 46, 3) := by decide +kernel
theorem dX6_read_25 : decode cX6_read 25 = .ok (.aload_n 0, 1) := by decide +kernel
theorem dX6_read_26 : decode cX6_read 26 = .ok (.invokevirtual 50, 3) := by decide +kernel
theorem dX6_read_29 : decode cX6_read 29 = .ok (.istore_n 2, 1) := by decide +kernel
theorem dX6_read_30 : decode cX6_read 30 = .ok (.iconst 0, 1) := by decide +kernel
theorem dX6_read_31 : decode cX6_read 31 = .ok (.istore_n 3, 1) := by decide +kernel
theorem dX6_read_32 : decode cX6_read 32 = .ok (.iload_n 3, 1) := by decide +kernel
theorem dX6_read_33 : decode cX6_read 33 = .ok (.iload_n 1, 1) := by decide +kernel
theorem dX6_read_34 : decode cX6_read 34 = .ok (.if_icmp .ge 36, 3) := by decide +kernel
theorem dX6_read_37 : decode cX6_read 37 = .ok (.iload_n 2, 1) := by decide +kernel
theorem dX6_read_38 : decode cX6_read 38 = .ok (.ifCond .eq 32, 3) := by decide +kernel
theorem dX6_read_41 : decode cX6_read 41 = .ok (.aload_n 0, 1) := by decide +kernel
theorem dX6_read_42 : decode cX6_read 42 = .ok (.getfield 12, 3) := by decide +kernel
theorem dX6_read_45 : decode cX6_read 45 = .ok (.getfield 54, 3) := by decide +kernel
theorem dX6_read_48 : decode cX6_read 48 = .ok (.iconst 3, 1) := by decide +kernel
theorem dX6_read_49 : decode cX6_read 49 = .ok (.if_icmp .ne 21, 3) := by decide +kernel
theorem dX6_read_52 : decode cX6_read 52 = .ok (.aload_n 0, 1) := by decide +kernel
theorem dX6_read_53 : decode cX6_read 53 = .ok (.getfield 12, 3) := by decide +kernel
theorem dX6_read_56 : decode cX6_read 56 = .ok (.invokevirtual 57, 3) := by decide +kernel
theorem dX6_read_59 : decode cX6_read 59 = .ok (.aload_n 0, 1) := by decide +kernel
theorem dX6_read_60 : decode cX6_read 60 = .ok (.invokevirtual 50, 3) := by decide +kernel
theorem dX6_read_63 : decode cX6_read 63 = .ok (.istore_n 2, 1) := by decide +kernel
theorem dX6_read_64 : decode cX6_read 64 = .ok (.iinc 3 1, 3) := by decide +kernel
theorem dX6_read_67 : decode cX6_read 67 = .ok (.goto (-35), 3) := by decide +kernel
theorem dX6_read_70 : decode cX6_read 70 = .ok (.iload_n 2, 1) := by decide +kernel
theorem dX6_read_71 : decode cX6_read 71 = .ok (.ifCond .eq 19, 3) := by decide +kernel
theorem dX6_read_74 : decode cX6_read 74 = .ok (.aload_n 0, 1) := by decide +kernel
theorem dX6_read_75 : decode cX6_read 75 = .ok (.getfield 12, 3) := by decide +kernel
theorem dX6_read_78 : decode cX6_read 78 = .ok (.getfield 54, 3) := by decide +kernel
theorem dX6_read_81 : decode cX6_read 81 = .ok (.ifCond .eq 9, 3) := by decide +kernel
theorem dX6_read_84 : decode cX6_read 84 = .ok (.aload_n 0, 1) := by decide +kernel
theorem dX6_read_85 : decode cX6_read 85 = .ok (.iconst 1, 1) := by decide +kernel
theorem dX6_read_86 : decode cX6_read 86 = .ok (.invokevirtual 60, 3) := by decide +kernel
theorem dX6_read_89 : decode cX6_read 89 = .ok (.istore_n 2, 1) := by decide +kernel
theorem dX6_read_90 : decode cX6_read 90 = .ok (.iload_n 2, 1) := by decide +kernel
theorem dX6_read_91 : decode cX6_read 91 = .ok (.ifCond .eq 43, 3) := by decide +kernel
theorem dX6_read_94 : decode cX6_read 94 = .ok (.aload_n 0, 1) := by decide +kernel
theorem dX6_read_95 : decode cX6_read 95 = .ok (.getfield 32, 3) := by decide +kernel
theorem dX6_read_98 : decode cX6_read 98 = .ok (.getfield 64, 3) := by decide +kernel
theorem dX6_read_101 : decode cX6_read 101 = .ok (.ifCond .eq 26, 3) := by decide +kernel
theorem dX6_read_104 : decode cX6_read 104 = .ok (.aload_n 0, 1) := by decide +kernel
theorem dX6_read_105 : decode cX6_read 105 = .ok (.getfield 32, 3) := by decide +kernel
theorem dX6_read_108 : decode cX6_read 108 = .ok (.getfield 67, 3) := by decide +kernel
theorem dX6_read_111 : decode cX6_read 111 = .ok (.getfield 71, 3) := by decide +kernel
theorem dX6_read_114 : decode cX6_read 114 = .ok (.ifCond .eq 13, 3) := by decide +kernel
theorem dX6_read_117 : decode cX6_read 117 = .ok (.aload_n 0, 1) := by decide +kernel
theorem dX6_read_118 : decode cX6_read 118 = .ok (.getfield 32, 3) := by decide +kernel
theorem dX6_read_121 : decode cX6_read 121 = .ok (.getfield 76, 3) := by decide +kernel
theorem dX6_read_124 : decode cX6_read 124 = .ok (.ifCond .ne 10, 3) := by decide +kernel
theorem dX6_read_127 : decode cX6_read 127 = .ok (.aload_n 0, 1) := by decide +kernel
theorem dX6_read_128 : decode cX6_read 128 = .ok (.bipush 6, 2) := by decide +kernel
theorem dX6_read_130 : decode cX6_read 130 = .ok (.invokevirtual 60, 3) := by decide +kernel
theorem dX6_read_133 : decode cX6_read 133 = .ok (.istore_n 2, 1) := by decide +kernel
theorem dX6_read_134 : decode cX6_read 134 = .ok (.iload_n 2, 1) := by decide +kernel
theorem dX6_read_135 : decode cX6_read 135 = .ok (.ifCond .eq 24, 3) := by decide +kernel
theorem dX6_read_138 : decode cX6_read 138 = .ok (.aload_n 0, 1) := by decide +kernel
theorem dX6_read_139 : decode cX6_read 139 = .ok (.getfield 32, 3) := by decide +kernel
theorem dX6_read_142 : decode cX6_read 142 = .ok (.getfield 67, 3) := by decide +kernel
theorem dX6_read_145 : decode cX6_read 145 = .ok (.getfield 79, 3) := by decide +kernel
theorem dX6_read_148 : decode cX6_read 148 = .ok (.aload_n 0, 1) := by decide +kernel
theorem dX6_read_149 : decode cX6_read 149 = .ok (.getfield 32, 3) := by decide +kernel
theorem dX6_read_152 : decode cX6_read 152 = .ok (.getfield 67, 3) := by decide +kernel
theorem dX6_read_155 : decode cX6_read 155 = .ok (.iconst 0, 1) := by decide +kernel
theorem dX6_read_156 : decode cX6_read 156 = .ok (.invokevirtual 83, 3) := by decide +kernel
theorem dX6_read_159 : decode cX6_read 159 = .ok (.aload_n 0, 1) := by decide +kernel
theorem dX6_read_160 : decode cX6_read 160 = .ok (.getfield 43, 3) := by decide +kernel
theorem dX6_read_163 : decode cX6_read 163 = .ok (.ireturn, 1) := by decide +kernel
theorem dX2_howAtNightfall_0 : decode cX2_howAtNightfall 0 = .ok (.iload_n 2, 1) := by decide +kernel
theorem dX2_howAtNightfall_1 : decode cX2_howAtNightfall 1 = .ok (.iconst 1, 1) := by decide +kernel
theorem dX2_howAtNightfall_2 : decode cX2_howAtNightfall 2 = .ok (.iconst 2, 1) := by decide +kernel
theorem dX2_howAtNightfall_3 : decode cX2_howAtNightfall 3 = .ok (.iload_n 1, 1) := by decide +kernel
theorem dX2_howAtNightfall_4 : decode cX2_howAtNightfall 4 = .ok (.imul, 1) := by decide +kernel
theorem dX2_howAtNightfall_5 : decode cX2_howAtNightfall 5 = .ok (.iadd, 1) := by decide +kernel
theorem dX2_howAtNightfall_6 : decode cX2_howAtNightfall 6 = .ok (.if_icmp .ne 5, 3) := by decide +kernel
theorem dX2_howAtNightfall_9 : decode cX2_howAtNightfall 9 = .ok (.iconst 1, 1) := by decide +kernel
theorem dX2_howAtNightfall_10 : decode cX2_howAtNightfall 10 = .ok (.ireturn, 1) := by decide +kernel
theorem dX2_howAtNightfall_11 : decode cX2_howAtNightfall 11 = .ok (.iload_n 2, 1) := by decide +kernel
theorem dX2_howAtNightfall_12 : decode cX2_howAtNightfall 12 = .ok (.iconst 2, 1) := by decide +kernel
theorem dX2_howAtNightfall_13 : decode cX2_howAtNightfall 13 = .ok (.iconst 2, 1) := by decide +kernel
theorem dX2_howAtNightfall_14 : decode cX2_howAtNightfall 14 = .ok (.iload_n 1, 1) := by decide +kernel
theorem dX2_howAtNightfall_15 : decode cX2_howAtNightfall 15 = .ok (.imul, 1) := by decide +kernel
theorem dX2_howAtNightfall_16 : decode cX2_howAtNightfall 16 = .ok (.iadd, 1) := by decide +kernel
theorem dX2_howAtNightfall_17 : decode cX2_howAtNightfall 17 = .ok (.if_icmp .ne 7, 3) := by decide +kernel
theorem dX2_howAtNightfall_20 : decode cX2_howAtNightfall 20 = .ok (.iconst 2, 1) := by decide +kernel
theorem dX2_howAtNightfall_21 : decode cX2_howAtNightfall 21 = .ok (.goto 12, 3) := by decide +kernel
theorem dX2_howAtNightfall_24 : decode cX2_howAtNightfall 24 = .ok (.aload_n 0, 1) := by decide +kernel
theorem dX2_howAtNightfall_25 : decode cX2_howAtNightfall 25 = .ok (.getfield 12, 3) := by decide +kernel
theorem dX2_howAtNightfall_28 : decode cX2_howAtNightfall 28 = .ok (.getfield 70, 3) := by decide +kernel
theorem dX2_howAtNightfall_31 : decode cX2_howAtNightfall 31 = .ok (.iload_n 1, 1) := by decide +kernel
theorem dX2_howAtNightfall_32 : decode cX2_howAtNightfall 32 = .ok (.iaload, 1) := by decide +kernel
theorem dX2_howAtNightfall_33 : decode cX2_howAtNightfall 33 = .ok (.ireturn, 1) := by decide +kernel
theorem dX2_lockedAtNightfall_0 : decode cX2_lockedAtNightfall 0 = .ok (.iconst 0, 1) := by decide +kernel
theorem dX2_lockedAtNightfall_1 : decode cX2_lockedAtNightfall 1 = .ok (.istore_n 2, 1) := by decide +kernel
theorem dX2_lockedAtNightfall_2 : decode cX2_lockedAtNightfall 2 = .ok (.iconst 0, 1) := by decide +kernel
theorem dX2_lockedAtNightfall_3 : decode cX2_lockedAtNightfall 3 = .ok (.istore_n 3, 1) := by decide +kernel
theorem dX2_lockedAtNightfall_4 : decode cX2_lockedAtNightfall 4 = .ok (.iload_n 3, 1) := by decide +kernel
theorem dX2_lockedAtNightfall_5 : decode cX2_lockedAtNightfall 5 = .ok (.aload_n 0, 1) := by decide +kernel
theorem dX2_lockedAtNightfall_6 : decode cX2_lockedAtNightfall 6 = .ok (.getfield 12, 3) := by decide +kernel
theorem dX2_lockedAtNightfall_9 : decode cX2_lockedAtNightfall 9 = .ok (.getfield 42, 3) := by decide +kernel
theorem dX2_lockedAtNightfall_12 : decode cX2_lockedAtNightfall 12 = .ok (.if_icmp .ge 25, 3) := by decide +kernel
theorem dX2_lockedAtNightfall_15 : decode cX2_lockedAtNightfall 15 = .ok (.aload_n 0, 1) := by decide +kernel
theorem dX2_lockedAtNightfall_16 : decode cX2_lockedAtNightfall 16 = .ok (.iload_n 3, 1) := by decide +kernel
theorem dX2_lockedAtNightfall_17 : decode cX2_lockedAtNightfall 17 = .ok (.iload_n 1, 1) := by decide +kernel
theorem dX2_lockedAtNightfall_18 : decode cX2_lockedAtNightfall 18 = .ok (.invokevirtual 73, 3) := by decide +kernel
theorem dX2_lockedAtNightfall_21 : decode cX2_lockedAtNightfall 21 = .ok (.iconst 2, 1) := by decide +kernel
theorem dX2_lockedAtNightfall_22 : decode cX2_lockedAtNightfall 22 = .ok (.if_icmp .ne 9, 3) := by decide +kernel
theorem dX2_lockedAtNightfall_25 : decode cX2_lockedAtNightfall 25 = .ok (.iload_n 2, 1) := by decide +kernel
theorem dX2_lockedAtNightfall_26 : decode cX2_lockedAtNightfall 26 = .ok (.iconst 1, 1) := by decide +kernel
theorem dX2_lockedAtNightfall_27 : decode cX2_lockedAtNightfall 27 = .ok (.iload_n 3, 1) := by decide +kernel
theorem dX2_lockedAtNightfall_28 : decode cX2_lockedAtNightfall 28 = .ok (.ishl, 1) := by decide +kernel
theorem dX2_lockedAtNightfall_29 : decode cX2_lockedAtNightfall 29 = .ok (.ior, 1) := by decide +kernel
theorem dX2_lockedAtNightfall_30 : decode cX2_lockedAtNightfall 30 = .ok (.istore_n 2, 1) := by decide +kernel
theorem dX2_lockedAtNightfall_31 : decode cX2_lockedAtNightfall 31 = .ok (.iinc 3 1, 3) := by decide +kernel
theorem dX2_lockedAtNightfall_34 : decode cX2_lockedAtNightfall 34 = .ok (.goto (-30), 3) := by decide +kernel
theorem dX2_lockedAtNightfall_37 : decode cX2_lockedAtNightfall 37 = .ok (.iload_n 2, 1) := by decide +kernel
theorem dX2_lockedAtNightfall_38 : decode cX2_lockedAtNightfall 38 = .ok (.ireturn, 1) := by decide +kernel
theorem dX4_prepare_0 : decode cX4_prepare 0 = .ok (.aload_n 0, 1) := by decide +kernel
theorem dX4_prepare_1 : decode cX4_prepare 1 = .ok (.aload_n 1, 1) := by decide +kernel
theorem dX4_prepare_2 : decode cX4_prepare 2 = .ok (.putfield 51, 3) := by decide +kernel
theorem dX4_prepare_5 : decode cX4_prepare 5 = .ok (.aload_n 0, 1) := by decide +kernel
theorem dX4_prepare_6 : decode cX4_prepare 6 = .ok (.iload_n 2, 1) := by decide +kernel
theorem dX4_prepare_7 : decode cX4_prepare 7 = .ok (.putfield 55, 3) := by decide +kernel
theorem dX4_prepare_10 : decode cX4_prepare 10 = .ok (.aload_n 0, 1) := by decide +kernel
theorem dX4_prepare_11 : decode cX4_prepare 11 = .ok (.getfield 12, 3) := by decide +kernel
theorem dX4_prepare_14 : decode cX4_prepare 14 = .ok (.aload_n 0, 1) := by decide +kernel
theorem dX4_prepare_15 : decode cX4_prepare 15 = .ok (.getfield 51, 3) := by decide +kernel
theorem dX4_prepare_18 : decode cX4_prepare 18 = .ok (.getfield 59, 3) := by decide +kernel
theorem dX4_prepare_21 : decode cX4_prepare 21 = .ok (.aload_n 0, 1) := by decide +kernel
theorem dX4_prepare_22 : decode cX4_prepare 22 = .ok (.getfield 51, 3) := by decide +kernel
theorem dX4_prepare_25 : decode cX4_prepare 25 = .ok (.aload_n 0, 1) := by decide +kernel
theorem dX4_prepare_26 : decode cX4_prepare 26 = .ok (.getfield 55, 3) := by decide +kernel
theorem dX4_prepare_29 : decode cX4_prepare 29 = .ok (.invokevirtual 65, 3) := by decide +kernel
theorem dX4_prepare_32 : decode cX4_prepare 32 = .ok (.invokevirtual 69, 3) := by decide +kernel
theorem dX4_prepare_35 : decode cX4_prepare 35 = .ok (.return_, 1) := by decide +kernel
theorem dJ7_fill_d0a16_0 : decode cJ7_fill_d0a16 0 = .ok (.iconst 0, 1) := by decide +kernel
theorem dJ7_fill_d0a16_1 : decode cJ7_fill_d0a16 1 = .ok (.istore_n 3, 1) := by decide +kernel
theorem dJ7_fill_d0a16_2 : decode cJ7_fill_d0a16 2 = .ok (.aload_n 0, 1) := by decide +kernel
theorem dJ7_fill_d0a16_3 : decode cJ7_fill_d0a16 3 = .ok (.arraylength, 1) := by decide +kernel
theorem dJ7_fill_d0a16_4 : decode cJ7_fill_d0a16 4 = .ok (.istore 4, 2) := by decide +kernel
theorem dJ7_fill_d0a16_6 : decode cJ7_fill_d0a16 6 = .ok (.iload_n 3, 1) := by decide +kernel
theorem dJ7_fill_d0a16_7 : decode cJ7_fill_d0a16 7 = .ok (.iload 4, 2) := by decide +kernel
theorem dJ7_fill_d0a16_9 : decode cJ7_fill_d0a16 9 = .ok (.if_icmp .ge 13, 3) := by decide +kernel
theorem dJ7_fill_d0a16_12 : decode cJ7_fill_d0a16 12 = .ok (.aload_n 0, 1) := by decide +kernel
theorem dJ7_fill_d0a16_13 : decode cJ7_fill_d0a16 13 = .ok (.iload_n 3, 1) := by decide +kernel
theorem dJ7_fill_d0a16_14 : decode cJ7_fill_d0a16 14 = .ok (.lload_n 1, 1) := by decide +kernel
theorem dJ7_fill_d0a16_15 : decode cJ7_fill_d0a16 15 = .ok (.lastore, 1) := by decide +kernel
theorem dJ7_fill_d0a16_16 : decode cJ7_fill_d0a16 16 = .ok (.iinc 3 1, 3) := by decide +kernel
theorem dJ7_fill_d0a16_19 : decode cJ7_fill_d0a16 19 = .ok (.goto (-13), 3) := by decide +kernel
theorem dJ7_fill_d0a16_22 : decode cJ7_fill_d0a16 22 = .ok (.return_, 1) := by decide +kernel
theorem dX4_begin_0 : decode cX4_begin 0 = .ok (.aload_n 0, 1) := by decide +kernel
theorem dX4_begin_1 : decode cX4_begin 1 = .ok (.iconst 0, 1) := by decide +kernel
theorem dX4_begin_2 : decode cX4_begin 2 = .ok (.putfield 73, 3) := by decide +kernel
theorem dX4_begin_5 : decode cX4_begin 5 = .ok (.iconst 0, 1) := by decide +kernel
theorem dX4_begin_6 : decode cX4_begin 6 = .ok (.istore_n 3, 1) := by decide +kernel
theorem dX4_begin_7 : decode cX4_begin 7 = .ok (.iload_n 3, 1) := by decide +kernel
theorem dX4_begin_8 : decode cX4_begin 8 = .ok (.aload_n 0, 1) := by decide +kernel
theorem dX4_begin_9 : decode cX4_begin 9 = .ok (.getfield 51, 3) := by decide +kernel
theorem dX4_begin_12 : decode cX4_begin 12 = .ok (.getfield 59, 3) := by decide +kernel
theorem dX4_begin_15 : decode cX4_begin 15 = .ok (.getfield 76, 3) := by decide +kernel
theorem dX4_begin_18 : decode cX4_begin 18 = .ok (.if_icmp .ge 34, 3) := by decide +kernel
theorem dX4_begin_21 : decode cX4_begin 21 = .ok (.aload_n 0, 1) := by decide +kernel
theorem dX4_begin_22 : decode cX4_begin 22 = .ok (.getfield 18, 3) := by decide +kernel
theorem dX4_begin_25 : decode cX4_begin 25 = .ok (.iload_n 3, 1) := by decide +kernel
theorem dX4_begin_26 : decode cX4_begin 26 = .ok (.aload_n 0, 1) := by decide +kernel
theorem dX4_begin_27 : decode cX4_begin 27 = .ok (.getfield 51, 3) := by decide +kernel
theorem dX4_begin_30 : decode cX4_begin 30 = .ok (.iload_n 3, 1) := by decide +kernel
theorem dX4_begin_31 : decode cX4_begin 31 = .ok (.aload_n 0, 1) := by decide +kernel
theorem dX4_begin_32 : decode cX4_begin 32 = .ok (.getfield 55, 3) := by decide +kernel
theorem dX4_begin_35 : decode cX4_begin 35 = .ok (.invokevirtual 81, 3) := by decide +kernel
theorem dX4_begin_38 : decode cX4_begin 38 = .ok (.iastore, 1) := by decide +kernel
theorem dX4_begin_39 : decode cX4_begin 39 = .ok (.aload_n 0, 1) := by decide +kernel
theorem dX4_begin_40 : decode cX4_begin 40 = .ok (.getfield 22, 3) := by decide +kernel
theorem dX4_begin_43 : decode cX4_begin 43 = .ok (.iload_n 3, 1) := by decide +kernel
theorem dX4_begin_44 : decode cX4_begin 44 = .ok (.iconst 0, 1) := by decide +kernel
theorem dX4_begin_45 : decode cX4_begin 45 = .ok (.iastore, 1) := by decide +kernel
theorem dX4_begin_46 : decode cX4_begin 46 = .ok (.iinc 3 1, 3) := by decide +kernel
theorem dX4_begin_49 : decode cX4_begin 49 = .ok (.goto (-42), 3) := by decide +kernel
theorem dX4_begin_52 : decode cX4_begin 52 = .ok (.iconst 0, 1) := by decide +kernel
theorem dX4_begin_53 : decode cX4_begin 53 = .ok (.istore_n 3, 1) := by decide +kernel
theorem dX4_begin_54 : decode cX4_begin 54 = .ok (.iload_n 3, 1) := by decide +kernel
theorem dX4_begin_55 : decode cX4_begin 55 = .ok (.aload_n 0, 1) := by decide +kernel
theorem dX4_begin_56 : decode cX4_begin 56 = .ok (.getfield 51, 3) := by decide +kernel
theorem dX4_begin_59 : decode cX4_begin 59 = .ok (.getfield 85, 3) := by decide +kernel
theorem dX4_begin_62 : decode cX4_begin 62 = .ok (.if_icmp .ge 57, 3) := by decide +kernel
theorem dX4_begin_65 : decode cX4_begin 65 = .ok (.aload_n 0, 1) := by decide +kernel
theorem dX4_begin_66 : decode cX4_begin 66 = .ok (.getfield 25, 3) := by decide +kernel
theorem dX4_begin_69 : decode cX4_begin 69 = .ok (.iload_n 3, 1) := by decide +kernel
theorem dX4_begin_70 : decode cX4_begin 70 = .ok (.aload_n 1, 1) := by decide +kernel
theorem dX4_begin_71 : decode cX4_begin 71 = .ok (.iload_n 2, 1) := by decide +kernel
theorem dX4_begin_72 : decode cX4_begin 72 = .ok (.iload_n 3, 1) := by decide +kernel
theorem dX4_begin_73 : decode cX4_begin 73 = .ok (.iadd, 1) := by decide +kernel
theorem dX4_begin_74 : decode cX4_begin 74 = .ok (.iaload, 1) := by decide +kernel
theorem dX4_begin_75 : decode cX4_begin 75 = .ok (.iastore, 1) := by decide +kernel
theorem dX4_begin_76 : decode cX4_begin 76 = .ok (.aload_n 0, 1) := by decide +kernel
theorem dX4_begin_77 : decode cX4_begin 77 = .ok (.getfield 28, 3) := by decide +kernel
theorem dX4_begin_80 : decode cX4_begin 80 = .ok (.iload_n 3, 1) := by decide +kernel
theorem dX4_begin_81 : decode cX4_begin 81 = .ok (.iconst 0, 1) := by decide +kernel
theorem dX4_begin_82 : decode cX4_begin 82 = .ok (.iastore, 1) := by decide +kernel
theorem dX4_begin_83 : decode cX4_begin 83 = .ok (.aload_n 0, 1) := by decide +kernel
theorem dX4_begin_84 : decode cX4_begin 84 = .ok (.getfield 31, 3) := by decide +kernel
theorem dX4_begin_87 : decode cX4_begin 87 = .ok (.iload_n 3, 1) := by decide +kernel
theorem dX4_begin_88 : decode cX4_begin 88 = .ok (.aload_n 0, 1) := by decide +kernel
theorem dX4_begin_89 : decode cX4_begin 89 = .ok (.getfield 51, 3) := by decide +kernel
theorem dX4_begin_92 : decode cX4_begin 92 = .ok (.getfield 88, 3) := by decide +kernel
theorem dX4_begin_95 : decode cX4_begin 95 = .ok (.iload_n 3, 1) := by decide +kernel
theorem dX4_begin_96 : decode cX4_begin 96 = .ok (.iaload, 1) := by decide +kernel
theorem dX4_begin_97 : decode cX4_begin 97 = .ok (.iastore, 1) := by decide +kernel
theorem dX4_begin_98 : decode cX4_begin 98 = .ok (.aload_n 0, 1) := by decide +kernel
theorem dX4_begin_99 : decode cX4_begin 99 = .ok (.getfield 34, 3) := by decide +kernel
theorem dX4_begin_102 : decode cX4_begin 102 = .ok (.iload_n 3, 1) := by decide +kernel
theorem dX4_begin_103 : decode cX4_begin 103 = .ok (.bipush (-2), 2) := by decide +kernel
theorem dX4_begin_105 : decode cX4_begin 105 = .ok (.iastore, 1) := by decide +kernel
theorem dX4_begin_106 : decode cX4_begin 106 = .ok (.aload_n 0, 1) := by decide +kernel
theorem dX4_begin_107 : decode cX4_begin 107 = .ok (.getfield 37, 3) := by decide +kernel
theorem dX4_begin_110 : decode cX4_begin 110 = .ok (.iload_n 3, 1) := by decide +kernel
theorem dX4_begin_111 : decode cX4_begin 111 = .ok (.iconst 0, 1) := by decide +kernel
theorem dX4_begin_112 : decode cX4_begin 112 = .ok (.bastore, 1) := by decide +kernel
theorem dX4_begin_113 : decode cX4_begin 113 = .ok (.iinc 3 1, 3) := by decide +kernel
theorem dX4_begin_116 : decode cX4_begin 116 = .ok (.goto (-62), 3) := by decide +kernel
theorem dX4_begin_119 : decode cX4_begin 119 = .ok (.aload_n 0, 1) := by decide +kernel
theorem dX4_begin_120 : decode cX4_begin 120 = .ok (.getfield 51, 3) := by decide +kernel
theorem dX4_begin_123 : decode cX4_begin 123 = .ok (.getfield 91, 3) := by decide +kernel
theorem dX4_begin_126 : decode cX4_begin 126 = .ok (.iconst 0, 1) := by decide +kernel
theorem dX4_begin_127 : decode cX4_begin 127 = .ok (.aload_n 0, 1) := by decide +kernel
theorem dX4_begin_128 : decode cX4_begin 128 = .ok (.getfield 41, 3) := by decide +kernel
theorem dX4_begin_131 : decode cX4_begin 131 = .ok (.iconst 0, 1) := by decide +kernel
theorem dX4_begin_132 : decode cX4_begin 132 = .ok (.iconst 4, 1) := by decide +kernel
theorem dX4_begin_133 : decode cX4_begin 133 = .ok (.invokestatic 92, 3) := by decide +kernel
theorem dX4_begin_136 : decode cX4_begin 136 = .ok (.aload_n 0, 1) := by decide +kernel
theorem dX4_begin_137 : decode cX4_begin 137 = .ok (.getfield 51, 3) := by decide +kernel
theorem dX4_begin_140 : decode cX4_begin 140 = .ok (.getfield 98, 3) := by decide +kernel
theorem dX4_begin_143 : decode cX4_begin 143 = .ok (.iconst 0, 1) := by decide +kernel
theorem dX4_begin_144 : decode cX4_begin 144 = .ok (.aload_n 0, 1) := by decide +kernel
theorem dX4_begin_145 : decode cX4_begin 145 = .ok (.getfield 44, 3) := by decide +kernel
theorem dX4_begin_148 : decode cX4_begin 148 = .ok (.iconst 0, 1) := by decide +kernel
theorem dX4_begin_149 : decode cX4_begin 149 = .ok (.iconst 4, 1) := by decide +kernel
theorem dX4_begin_150 : decode cX4_begin 150 = .ok (.invokestatic 92, 3) := by decide +kernel
theorem dX4_begin_153 : decode cX4_begin 153 = .ok (.aload_n 0, 1) := by decide +kernel
theorem dX4_begin_154 : decode cX4_begin 154 = .ok (.getfield 47, 3) := by decide +kernel
theorem dX4_begin_157 : decode cX4_begin 157 = .ok (.lconst 0, 1) := by decide +kernel
theorem dX4_begin_158 : decode cX4_begin 158 = .ok (.invokestatic 99, 3) := by decide +kernel
theorem dX4_begin_161 : decode cX4_begin 161 = .ok (.return_, 1) := by decide +kernel
def wX2_ofState (E : EN) (h h_house h_thingIn h_full h_states h_bed h_dreamOf h_listensIn : Nat) (v_minutes : Int32) (v_things : Int32) (v_dreams : Int32) (v_sleepers : Int32) (v_listeners : Int32) (v_states : Nat → Int32) : va_W := [(h, .inr (2, [.ref h_house, .int v_minutes, .int v_things, .ref h_thingIn, .ref h_full, .int v_dreams, .ref h_states, .int v_sleepers, .ref h_bed, .ref h_dreamOf, .int v_listeners, .ref h_listensIn])), (h_states, aI E 64 v_states)]
def fX2_ofState (N : Nat) (p0 : Int32) (p1 : Int32) (p2 : Int32) (v_states : Nat → Int32) : Option Int32 := gd ((((p0 * 4) + p1) * 4) + p2) 64 (some (v_states ((((p0 * 4) + p1) * 4) + p2).toNatClampNeg))
set_option maxHeartbeats 4000000 in
set_option maxRecDepth 100000 in
theorem ctX2_ofState (l : Launch) (E : EN) (h h_house h_thingIn h_full h_states h_bed h_dreamOf h_listensIn : Nat) (v_minutes : Int32) (v_things : Int32) (v_dreams : Int32) (v_sleepers : Int32) (v_listeners : Int32) (v_states : Nat → Int32) (N : Nat) (p0 : Int32) (p1 : Int32) (p2 : Int32) (z : Int32) (hf : fX2_ofState N p0 p1 p2 v_states = some z) : CTi l E yX2_ofState cX2_ofState 4 .int 0 0 [.ref h, .int p0, .int p1, .int p2] (wX2_ofState E h h_house h_thingIn h_full h_states h_bed h_dreamOf h_listensIn v_minutes v_things v_dreams v_sleepers v_listeners v_states) (z) (wX2_ofState E h h_house h_thingIn h_full h_states h_bed h_dreamOf h_listensIn v_minutes v_things v_dreams v_sleepers v_listeners v_states) := by
  intro sz
  refine ct_body (by decide) (Nat.le_of_ble_eq_true rfl) ?_
  intro p e s m args below meth c A ls hAe C hr hin hP hD hS hl
  have C : CX p s m args meth c cX2_ofState RX2 4 E A := C
  have hl : lv_has ls 4 [(0, .ref h), (1, .int p0), (2, .int p1), (3, .int p2)] := hl
  have hx := C.1
  have hb := C.2.1
  rw [hAe]
  clear hAe
  obtain ⟨Q, hQ⟩ : ∃ Q, Q = MQ below (Qi E A (z) (wX2_ofState E h h_house h_thingIn h_full h_states h_bed h_dreamOf h_listensIn v_minutes v_things v_dreams v_sleepers v_listeners v_states)) args s 0 0 A := ⟨_, rfl⟩
  rw [← hQ]
  unfold fX2_ofState at hf
  refine lv_aload_n (pc := 0) hx hb dX2_ofState_0 rfl (lv_at hl 0 rfl) ?_
  refine r_get (pc := 1) C hP 0 rfl fl_X2_26 rfl dX2_ofState_1 ?_
  refine lv_iload_n (pc := 4) hx hb dX2_ofState_4 rfl (lv_at hl 1 rfl) ?_
  refine lv_iconst (pc := 5) (v := 4) hx hb dX2_ofState_5 (by decide) ?_
  refine lv_imul (pc := 6) hx hb dX2_ofState_6 ?_
  refine lv_iload_n (pc := 7) hx hb dX2_ofState_7 rfl (lv_at hl 2 rfl) ?_
  refine lv_iadd (pc := 8) hx hb dX2_ofState_8 ?_
  refine lv_iconst (pc := 9) (v := 4) hx hb dX2_ofState_9 (by decide) ?_
  refine lv_imul (pc := 10) hx hb dX2_ofState_10 ?_
  refine lv_iload_n (pc := 11) hx hb dX2_ofState_11 rfl (lv_at hl 3 rfl) ?_
  refine lv_iadd (pc := 12) hx hb dX2_ofState_12 ?_
  obtain ⟨hi_13, hf⟩ := gd_s hf
  refine r_iald (pc := 13) C hP 1 rfl hi_13 dX2_ofState_13 ?_
  cases hf
  rw [hQ]
  exact r_iret C hr hP hD hS rfl dX2_ofState_14
def wX2_isTold (E : EN) (h h_house h_thingIn h_full h_states h_bed h_dreamOf h_listensIn : Nat) (v_minutes : Int32) (v_things : Int32) (v_dreams : Int32) (v_sleepers : Int32) (v_listeners : Int32) (v_states : Nat → Int32) : va_W := [(h, .inr (2, [.ref h_house, .int v_minutes, .int v_things, .ref h_thingIn, .ref h_full, .int v_dreams, .ref h_states, .int v_sleepers, .ref h_bed, .ref h_dreamOf, .int v_listeners, .ref h_listensIn])), (h_states, aI E 64 v_states)]
def fX2_isTold (N : Nat) (p0 : Int32) (p1 : Int32) (v_states : Nat → Int32) : Option Int32 := (fX2_ofState N p0 p1 0 v_states).bind (un1 fun (r_4 : Int32) => if r_4 = (-1) then (some 0) else (some 1))
set_option maxHeartbeats 4000000 in
set_option maxRecDepth 100000 in
theorem ctX2_isTold (l : Launch) (E : EN) (h h_house h_thingIn h_full h_states h_bed h_dreamOf h_listensIn : Nat) (v_minutes : Int32) (v_things : Int32) (v_dreams : Int32) (v_sleepers : Int32) (v_listeners : Int32) (v_states : Nat → Int32) (N : Nat) (p0 : Int32) (p1 : Int32) (z : Int32) (hf : fX2_isTold N p0 p1 v_states = some z) : CTi l E yX2_isTold cX2_isTold 3 .boolean 1 23 [.ref h, .int p0, .int p1] (wX2_isTold E h h_house h_thingIn h_full h_states h_bed h_dreamOf h_listensIn v_minutes v_things v_dreams v_sleepers v_listeners v_states) (z) (wX2_isTold E h h_house h_thingIn h_full h_states h_bed h_dreamOf h_listensIn v_minutes v_things v_dreams v_sleepers v_listeners v_states) := by
  intro sz
  refine ct_body (by decide) (Nat.le_of_ble_eq_true rfl) ?_
  intro p e s m args below meth c A ls hAe C hr hin hP hD hS hl
  have C : CX p s m args meth c cX2_isTold RX2 3 E A := C
  have hl : lv_has ls 3 [(0, .ref h), (1, .int p0), (2, .int p1)] := hl
  have hx := C.1
  have hb := C.2.1
  rw [hAe]
  clear hAe
  obtain ⟨Q, hQ⟩ : ∃ Q, Q = MQ below (Qi E A (z) (wX2_isTold E h h_house h_thingIn h_full h_states h_bed h_dreamOf h_listensIn v_minutes v_things v_dreams v_sleepers v_listeners v_states)) args s 0 0 A := ⟨_, rfl⟩
  rw [← hQ]
  unfold fX2_isTold at hf
  refine lv_aload_n (pc := 0) hx hb dX2_isTold_0 rfl (lv_at hl 0 rfl) ?_
  refine lv_iload_n (pc := 1) hx hb dX2_isTold_1 rfl (lv_at hl 1 rfl) ?_
  refine lv_iload_n (pc := 2) hx hb dX2_isTold_2 rfl (lv_at hl 2 rfl) ?_
  refine lv_iconst (pc := 3) (v := 0) hx hb dX2_isTold_3 (by decide) ?_
  obtain ⟨r_4, hc_4, hf⟩ := bd1 hf
  refine r_dalVi (pc := 4) (ws' := (wX2_isTold E h h_house h_thingIn h_full h_states h_bed h_dreamOf h_listensIn v_minutes v_things v_dreams v_sleepers v_listeners v_states)) (As := [.int p0, .int p1, .int 0]) (rest := []) C (ctX2_ofState l E h h_house h_thingIn h_full h_states h_bed h_dreamOf h_listensIn v_minutes v_things v_dreams v_sleepers v_listeners v_states N p0 p1 0 r_4 hc_4) ml_X2_66 ⟨Nat.le_of_ble_eq_true rfl, Nat.le_of_ble_eq_true rfl⟩ hP hD hS 0 rfl rfl rfl [0, 1] [2, 3] 2 rfl rfl rfl rfl rfl rfl rfl hl.1 rfl (Nat.le_of_ble_eq_true rfl) ⟨Nat.zero_le _, Nat.zero_le _⟩ dX2_isTold_4 ?_
  clear hP hD hS; intro H locs hP hD hS
  refine lv_iconst (pc := 7) (v := (-1)) hx hb dX2_isTold_7 (by decide) ?_
  refine lv_icmp_eq (pc := 8) (tgt := 15) hx hb dX2_isTold_8 (by decide) (fun c_8 => ?_) (fun c_8 => ?_)
  · replace hf := it_t c_8 hf
    refine lv_iconst (pc := 15) (v := 0) hx hb dX2_isTold_15 (by decide) ?_
    cases hf
    rw [hQ]
    exact r_zret C hr hP hD hS (Or.inl rfl) rfl dX2_isTold_16
  · replace hf := it_f c_8 hf
    refine lv_iconst (pc := 11) (v := 1) hx hb dX2_isTold_11 (by decide) ?_
    refine lv_goto (pc := 12) (tgt := 16) hx hb dX2_isTold_12 (by decide) ?_
    cases hf
    rw [hQ]
    exact r_zret C hr hP hD hS (Or.inr rfl) rfl dX2_isTold_16
def wX6_passNewState (E : EN) (h h_tape h_names h_sorts h_numbers h_inn h_tape_bytes h_inn_house h_inn_thingIn h_inn_full h_inn_states h_inn_bed h_inn_dreamOf h_inn_listensIn : Nat) (v_named : Int32) (v_fault : Int32) (v_number : Int32) (v_tape_length : Int32) (v_tape_end : Int32) (v_tape_at : Int32) (v_tape_start : Int32) (v_tape_kind : Int32) (v_tape_code : Int64) (v_tape_mayName : Int32) (v_tape_value : Int32) (v_inn_minutes : Int32) (v_inn_things : Int32) (v_inn_dreams : Int32) (v_inn_sleepers : Int32) (v_inn_listeners : Int32) (v_inn_states : Nat → Int32) (v_tape_bytes : Nat → Int32) : va_W := [(h, .inr (6, [.ref h_tape, .ref h_names, .ref h_sorts, .ref h_numbers, .int v_named, .ref h_inn, .int v_fault, .int v_number])), (h_tape, .inr (7, [.ref h_tape_bytes, .int v_tape_length, .int v_tape_end, .int v_tape_at, .int v_tape_start, .int v_tape_kind, .long v_tape_code, .int v_tape_mayName, .int v_tape_value])), (h_inn, .inr (2, [.ref h_inn_house, .int v_inn_minutes, .int v_inn_things, .ref h_inn_thingIn, .ref h_inn_full, .int v_inn_dreams, .ref h_inn_states, .int v_inn_sleepers, .ref h_inn_bed, .ref h_inn_dreamOf, .int v_inn_listeners, .ref h_inn_listensIn])), (h_inn_states, aI E 64 v_inn_states), (h_tape_bytes, aB E 900 v_tape_bytes)]
def fX6_passNewState (N : Nat) (p0 : Int32) (v_fault : Int32) (v_number : Int32) (v_tape_end : Int32) (v_tape_at : Int32) (v_tape_start : Int32) (v_tape_kind : Int32) (v_tape_code : Int64) (v_tape_mayName : Int32) (v_tape_value : Int32) (v_inn_states : Nat → Int32) (v_tape_bytes : Nat → Int32) : Option (Int32 × Int32 × Int32 × Int32 × Int32 × Int32 × Int64 × Int32 × Int32) := (fX6_lookAtWhole N 0 3 v_fault v_number v_tape_kind v_tape_value).bind (un3 fun (r_3 : Int32) (v_fault_3 : Int32) (v_number_3 : Int32) => if r_3 = 0 then (some (0, v_fault_3, v_number_3, v_tape_at, v_tape_start, v_tape_kind, v_tape_code, v_tape_mayName, v_tape_value)) else ((fX2_isTold N p0 v_number_3 v_inn_states).bind (un1 fun (r_20 : Int32) => if r_20 = 0 then ((fX7_advance N v_tape_end v_tape_at v_tape_bytes).bind (un6 fun (v_tape_at_36 : Int32) (v_tape_start_36 : Int32) (v_tape_kind_36 : Int32) (v_tape_code_36 : Int64) (v_tape_mayName_36 : Int32) (v_tape_value_36 : Int32) => some (1, v_fault_3, v_number_3, v_tape_at_36, v_tape_start_36, v_tape_kind_36, v_tape_code_36, v_tape_mayName_36, v_tape_value_36))) else ((fX6_fail N 3).bind (un2 fun (r_28 : Int32) (v_fault_28 : Int32) => zg r_28 (some (r_28, v_fault_28, v_number_3, v_tape_at, v_tape_start, v_tape_kind, v_tape_code, v_tape_mayName, v_tape_value)))))))
set_option maxHeartbeats 4000000 in
set_option maxRecDepth 100000 in
theorem ctX6_passNewState (l : Launch) (E : EN) (h h_tape h_names h_sorts h_numbers h_inn h_tape_bytes h_inn_house h_inn_thingIn h_inn_full h_inn_states h_inn_bed h_inn_dreamOf h_inn_listensIn : Nat) (v_named : Int32) (v_fault : Int32) (v_number : Int32) (v_tape_length : Int32) (v_tape_end : Int32) (v_tape_at : Int32) (v_tape_start : Int32) (v_tape_kind : Int32) (v_tape_code : Int64) (v_tape_mayName : Int32) (v_tape_value : Int32) (v_inn_minutes : Int32) (v_inn_things : Int32) (v_inn_dreams : Int32) (v_inn_sleepers : Int32) (v_inn_listeners : Int32) (v_inn_states : Nat → Int32) (v_tape_bytes : Nat → Int32) (N : Nat) (p0 : Int32) (z : Int32 × Int32 × Int32 × Int32 × Int32 × Int32 × Int64 × Int32 × Int32) (hf : fX6_passNewState N p0 v_fault v_number v_tape_end v_tape_at v_tape_start v_tape_kind v_tape_code v_tape_mayName v_tape_value v_inn_states v_tape_bytes = some z) : CTi l E yX6_passNewState cX6_passNewState 2 .boolean 2 45 [.ref h, .int p0] (wX6_passNewState E h h_tape h_names h_sorts h_numbers h_inn h_tape_bytes h_inn_house h_inn_thingIn h_inn_full h_inn_states h_inn_bed h_inn_dreamOf h_inn_listensIn v_named v_fault v_number v_tape_length v_tape_end v_tape_at v_tape_start v_tape_kind v_tape_code v_tape_mayName v_tape_value v_inn_minutes v_inn_things v_inn_dreams v_inn_sleepers v_inn_listeners v_inn_states v_tape_bytes) (z.1) (wX6_passNewState E h h_tape h_names h_sorts h_numbers h_inn h_tape_bytes h_inn_house h_inn_thingIn h_inn_full h_inn_states h_inn_bed h_inn_dreamOf h_inn_listensIn v_named z.2.1 z.2.2.1 v_tape_length v_tape_end z.2.2.2.1 z.2.2.2.2.1 z.2.2.2.2.2.1 z.2.2.2.2.2.2.1 z.2.2.2.2.2.2.2.1 z.2.2.2.2.2.2.2.2 v_inn_minutes v_inn_things v_inn_dreams v_inn_sleepers v_inn_listeners v_inn_states v_tape_bytes) := by
  intro sz
  refine ct_body (by decide) (Nat.le_of_ble_eq_true rfl) ?_
  intro p e s m args below meth c A ls hAe C hr hin hP hD hS hl
  have C : CX p s m args meth c cX6_passNewState RX6 2 E A := C
  have hl : lv_has ls 2 [(0, .ref h), (1, .int p0)] := hl
  have hx := C.1
  have hb := C.2.1
  rw [hAe]
  clear hAe
  obtain ⟨Q, hQ⟩ : ∃ Q, Q = MQ below (Qi E A (z.1) (wX6_passNewState E h h_tape h_names h_sorts h_numbers h_inn h_tape_bytes h_inn_house h_inn_thingIn h_inn_full h_inn_states h_inn_bed h_inn_dreamOf h_inn_listensIn v_named z.2.1 z.2.2.1 v_tape_length v_tape_end z.2.2.2.1 z.2.2.2.2.1 z.2.2.2.2.2.1 z.2.2.2.2.2.2.1 z.2.2.2.2.2.2.2.1 z.2.2.2.2.2.2.2.2 v_inn_minutes v_inn_things v_inn_dreams v_inn_sleepers v_inn_listeners v_inn_states v_tape_bytes)) args s 0 0 A := ⟨_, rfl⟩
  rw [← hQ]
  unfold fX6_passNewState at hf
  refine lv_aload_n (pc := 0) hx hb dX6_passNewState_0 rfl (lv_at hl 0 rfl) ?_
  refine lv_iconst (pc := 1) (v := 0) hx hb dX6_passNewState_1 (by decide) ?_
  refine lv_iconst (pc := 2) (v := 3) hx hb dX6_passNewState_2 (by decide) ?_
  obtain ⟨r_3, v_fault_3, v_number_3, hc_3, hf⟩ := bd3 hf
  refine r_dalVi (pc := 3) (ws' := (wX6_passNewState E h h_tape h_names h_sorts h_numbers h_inn h_tape_bytes h_inn_house h_inn_thingIn h_inn_full h_inn_states h_inn_bed h_inn_dreamOf h_inn_listensIn v_named v_fault_3 v_number_3 v_tape_length v_tape_end v_tape_at v_tape_start v_tape_kind v_tape_code v_tape_mayName v_tape_value v_inn_minutes v_inn_things v_inn_dreams v_inn_sleepers v_inn_listeners v_inn_states v_tape_bytes)) (As := [.int 0, .int 3]) (rest := []) C (ctX6_lookAtWhole l E h h_tape h_names h_sorts h_numbers h_inn h_tape_bytes v_named v_fault v_number v_tape_length v_tape_end v_tape_at v_tape_start v_tape_kind v_tape_code v_tape_mayName v_tape_value N 0 3 (r_3, v_fault_3, v_number_3) hc_3) ml_X6_265 ⟨Nat.le_of_ble_eq_true rfl, Nat.le_of_ble_eq_true rfl⟩ hP hD hS 0 rfl rfl rfl [0, 1] [5, 6, 2, 3, 4] 5 rfl rfl rfl rfl rfl rfl rfl hl.1 rfl (Nat.le_of_ble_eq_true rfl) ⟨Nat.zero_le _, Nat.zero_le _⟩ dX6_passNewState_3 ?_
  clear hP hD hS; intro H locs hP hD hS
  refine lv_if_ne (pc := 6) (tgt := 11) hx hb dX6_passNewState_6 (by decide) (fun c_6 => ?_) (fun c_6 => ?_)
  · replace hf := it_f c_6 hf
    refine lv_aload_n (pc := 11) hx hb dX6_passNewState_11 rfl (lv_at hl 0 rfl) ?_
    refine r_get (pc := 12) C hP 0 rfl fl_X6_32 rfl dX6_passNewState_12 ?_
    refine lv_iload_n (pc := 15) hx hb dX6_passNewState_15 rfl (lv_at hl 1 rfl) ?_
    refine lv_aload_n (pc := 16) hx hb dX6_passNewState_16 rfl (lv_at hl 0 rfl) ?_
    refine r_get (pc := 17) C hP 0 rfl fl_X6_148 rfl dX6_passNewState_17 ?_
    obtain ⟨r_20, hc_20, hf⟩ := bd1 hf
    refine r_dalVi (pc := 20) (ws' := (wX6_passNewState E h h_tape h_names h_sorts h_numbers h_inn h_tape_bytes h_inn_house h_inn_thingIn h_inn_full h_inn_states h_inn_bed h_inn_dreamOf h_inn_listensIn v_named v_fault_3 v_number_3 v_tape_length v_tape_end v_tape_at v_tape_start v_tape_kind v_tape_code v_tape_mayName v_tape_value v_inn_minutes v_inn_things v_inn_dreams v_inn_sleepers v_inn_listeners v_inn_states v_tape_bytes)) (As := [.int p0, .int v_number_3]) (rest := []) C (ctX2_isTold l E h_inn h_inn_house h_inn_thingIn h_inn_full h_inn_states h_inn_bed h_inn_dreamOf h_inn_listensIn v_inn_minutes v_inn_things v_inn_dreams v_inn_sleepers v_inn_listeners v_inn_states N p0 v_number_3 r_20 hc_20) ml_X6_268 ⟨Nat.le_of_ble_eq_true rfl, Nat.le_of_ble_eq_true rfl⟩ hP hD hS 2 rfl rfl rfl [2, 3] [0, 1, 5, 6, 4] 5 rfl rfl rfl rfl rfl rfl rfl hl.1 rfl (Nat.le_of_ble_eq_true rfl) ⟨Nat.zero_le _, Nat.zero_le _⟩ dX6_passNewState_20 ?_
    clear hP hD hS; intro H locs hP hD hS
    refine lv_if_eq (pc := 23) (tgt := 32) hx hb dX6_passNewState_23 (by decide) (fun c_23 => ?_) (fun c_23 => ?_)
    · replace hf := it_t c_23 hf
      refine lv_aload_n (pc := 32) hx hb dX6_passNewState_32 rfl (lv_at hl 0 rfl) ?_
      refine r_get (pc := 33) C hP 0 rfl fl_X6_12 rfl dX6_passNewState_33 ?_
      obtain ⟨v_tape_at_36, v_tape_start_36, v_tape_kind_36, v_tape_code_36, v_tape_mayName_36, v_tape_value_36, hc_36, hf⟩ := bd6 hf
      refine r_dalVv (pc := 36) (ws' := (wX6_passNewState E h h_tape h_names h_sorts h_numbers h_inn h_tape_bytes h_inn_house h_inn_thingIn h_inn_full h_inn_states h_inn_bed h_inn_dreamOf h_inn_listensIn v_named v_fault_3 v_number_3 v_tape_length v_tape_end v_tape_at_36 v_tape_start_36 v_tape_kind_36 v_tape_code_36 v_tape_mayName_36 v_tape_value_36 v_inn_minutes v_inn_things v_inn_dreams v_inn_sleepers v_inn_listeners v_inn_states v_tape_bytes)) (As := []) (rest := []) C (ctX7_advance l E h_tape h_tape_bytes v_tape_length v_tape_end v_tape_at v_tape_start v_tape_kind v_tape_code v_tape_mayName v_tape_value v_tape_bytes N (v_tape_at_36, v_tape_start_36, v_tape_kind_36, v_tape_code_36, v_tape_mayName_36, v_tape_value_36) hc_36) ml_X6_57 ⟨Nat.le_of_ble_eq_true rfl, Nat.le_of_ble_eq_true rfl⟩ hP hD hS 1 rfl rfl rfl [1, 4] [0, 5, 2, 3, 6] 5 rfl rfl rfl rfl rfl rfl rfl hl.1 rfl (Nat.le_of_ble_eq_true rfl) ⟨Nat.zero_le _, Nat.zero_le _⟩ dX6_passNewState_36 ?_
      clear hP hD hS; intro H locs hP hD hS
      refine lv_iconst (pc := 39) (v := 1) hx hb dX6_passNewState_39 (by decide) ?_
      cases hf
      rw [hQ]
      exact r_zret C hr hP hD hS (Or.inr rfl) rfl dX6_passNewState_40
    · replace hf := it_f c_23 hf
      refine lv_aload_n (pc := 26) hx hb dX6_passNewState_26 rfl (lv_at hl 0 rfl) ?_
      refine lv_iconst (pc := 27) (v := 3) hx hb dX6_passNewState_27 (by decide) ?_
      obtain ⟨r_28, v_fault_28, hc_28, hf⟩ := bd2 hf
      refine r_dalVi (pc := 28) (ws' := (wX6_passNewState E h h_tape h_names h_sorts h_numbers h_inn h_tape_bytes h_inn_house h_inn_thingIn h_inn_full h_inn_states h_inn_bed h_inn_dreamOf h_inn_listensIn v_named v_fault_28 v_number_3 v_tape_length v_tape_end v_tape_at v_tape_start v_tape_kind v_tape_code v_tape_mayName v_tape_value v_inn_minutes v_inn_things v_inn_dreams v_inn_sleepers v_inn_listeners v_inn_states v_tape_bytes)) (As := [.int 3]) (rest := []) C (ctX6_fail l E h h_tape h_names h_sorts h_numbers h_inn v_named v_fault_3 v_number_3 N 3 (r_28, v_fault_28) hc_28) ml_X6_60 ⟨Nat.le_of_ble_eq_true rfl, Nat.le_of_ble_eq_true rfl⟩ hP hD hS 0 rfl rfl rfl [0] [5, 1, 2, 3, 4] 5 rfl rfl rfl rfl rfl rfl rfl hl.1 rfl (Nat.le_of_ble_eq_true rfl) ⟨Nat.zero_le _, Nat.zero_le _⟩ dX6_passNewState_28 ?_
      clear hP hD hS; intro H locs hP hD hS
      obtain ⟨hz_31, hf⟩ := zg_s hf
      cases hf
      rw [hQ]
      exact r_zret C hr hP hD hS hz_31 rfl dX6_passNewState_31
  · replace hf := it_t c_6 hf
    refine lv_iconst (pc := 9) (v := 0) hx hb dX6_passNewState_9 (by decide) ?_
    cases hf
    rw [hQ]
    exact r_zret C hr hP hD hS (Or.inl rfl) rfl dX6_passNewState_10
def wX6_nextAct (E : EN) (h h_tape h_names h_sorts h_numbers h_inn h_tape_bytes : Nat) (v_named : Int32) (v_fault : Int32) (v_number : Int32) (v_tape_length : Int32) (v_tape_end : Int32) (v_tape_at : Int32) (v_tape_start : Int32) (v_tape_kind : Int32) (v_tape_code : Int64) (v_tape_mayName : Int32) (v_tape_value : Int32) : va_W := [(h, .inr (6, [.ref h_tape, .ref h_names, .ref h_sorts, .ref h_numbers, .int v_named, .ref h_inn, .int v_fault, .int v_number])), (h_tape, .inr (7, [.ref h_tape_bytes, .int v_tape_length, .int v_tape_end, .int v_tape_at, .int v_tape_start, .int v_tape_kind, .long v_tape_code, .int v_tape_mayName, .int v_tape_value]))]
def fX6_nextAct (N : Nat) (v_tape_kind : Int32) (v_tape_code : Int64) : Option Int32 := (fX7_isAt N 14 v_tape_kind v_tape_code).bind (un1 fun (r_7 : Int32) => if r_7 = 0 then ((fX7_isAt N 15 v_tape_kind v_tape_code).bind (un1 fun (r_22 : Int32) => if r_22 = 0 then ((fX7_isAt N 16 v_tape_kind v_tape_code).bind (un1 fun (r_37 : Int32) => if r_37 = 0 then ((fX7_isAt N 17 v_tape_kind v_tape_code).bind (un1 fun (r_52 : Int32) => if r_52 = 0 then ((fX7_isAt N 18 v_tape_kind v_tape_code).bind (un1 fun (r_67 : Int32) => if r_67 = 0 then ((fX7_isAt N 8 v_tape_kind v_tape_code).bind (un1 fun (r_82 : Int32) => if r_82 = 0 then (some (-1)) else (some 5))) else (some 4))) else (some 3))) else (some 2))) else (some 1))) else (some 0))
set_option maxHeartbeats 4000000 in
set_option maxRecDepth 100000 in
theorem ctX6_nextAct (l : Launch) (E : EN) (h h_tape h_names h_sorts h_numbers h_inn h_tape_bytes : Nat) (v_named : Int32) (v_fault : Int32) (v_number : Int32) (v_tape_length : Int32) (v_tape_end : Int32) (v_tape_at : Int32) (v_tape_start : Int32) (v_tape_kind : Int32) (v_tape_code : Int64) (v_tape_mayName : Int32) (v_tape_value : Int32) (N : Nat) (z : Int32) (hf : fX6_nextAct N v_tape_kind v_tape_code = some z) : CTi l E yX6_nextAct cX6_nextAct 1 .int 1 21 [.ref h] (wX6_nextAct E h h_tape h_names h_sorts h_numbers h_inn h_tape_bytes v_named v_fault v_number v_tape_length v_tape_end v_tape_at v_tape_start v_tape_kind v_tape_code v_tape_mayName v_tape_value) (z) (wX6_nextAct E h h_tape h_names h_sorts h_numbers h_inn h_tape_bytes v_named v_fault v_number v_tape_length v_tape_end v_tape_at v_tape_start v_tape_kind v_tape_code v_tape_mayName v_tape_value) := by
  intro sz
  refine ct_body (by decide) (Nat.le_of_ble_eq_true rfl) ?_
  intro p e s m args below meth c A ls hAe C hr hin hP hD hS hl
  have C : CX p s m args meth c cX6_nextAct RX6 1 E A := C
  have hl : lv_has ls 1 [(0, .ref h)] := hl
  have hx := C.1
  have hb := C.2.1
  rw [hAe]
  clear hAe
  obtain ⟨Q, hQ⟩ : ∃ Q, Q = MQ below (Qi E A (z) (wX6_nextAct E h h_tape h_names h_sorts h_numbers h_inn h_tape_bytes v_named v_fault v_number v_tape_length v_tape_end v_tape_at v_tape_start v_tape_kind v_tape_code v_tape_mayName v_tape_value)) args s 0 0 A := ⟨_, rfl⟩
  rw [← hQ]
  unfold fX6_nextAct at hf
  refine lv_aload_n (pc := 0) hx hb dX6_nextAct_0 rfl (lv_at hl 0 rfl) ?_
  refine r_get (pc := 1) C hP 0 rfl fl_X6_12 rfl dX6_nextAct_1 ?_
  refine r_gets (pc := 4) C (C.kx.1 14 (by decide)).1 hS gs_X6_250 dX6_nextAct_4 ?_
  obtain ⟨r_7, hc_7, hf⟩ := bd1 hf
  refine r_dalVi (pc := 7) (ws' := (wX6_nextAct E h h_tape h_names h_sorts h_numbers h_inn h_tape_bytes v_named v_fault v_number v_tape_length v_tape_end v_tape_at v_tape_start v_tape_kind v_tape_code v_tape_mayName v_tape_value)) (As := [.ref (E.2.2.1 14)]) (rest := []) C (ctX7_isAt l E h_tape h_tape_bytes v_tape_length v_tape_end v_tape_at v_tape_start v_tape_kind v_tape_code v_tape_mayName v_tape_value 14 (by decide) N r_7 hc_7) ml_X6_95 ⟨Nat.le_of_ble_eq_true rfl, Nat.le_of_ble_eq_true rfl⟩ hP hD hS 1 rfl rfl rfl [1] [0, 2] 2 rfl rfl rfl rfl rfl rfl rfl hl.1 rfl (Nat.le_of_ble_eq_true rfl) ⟨Nat.zero_le _, Nat.zero_le _⟩ dX6_nextAct_7 ?_
  clear hP hD hS; intro H locs hP hD hS
  refine lv_if_eq (pc := 10) (tgt := 15) hx hb dX6_nextAct_10 (by decide) (fun c_10 => ?_) (fun c_10 => ?_)
  · replace hf := it_t c_10 hf
    refine lv_aload_n (pc := 15) hx hb dX6_nextAct_15 rfl (lv_at hl 0 rfl) ?_
    refine r_get (pc := 16) C hP 0 rfl fl_X6_12 rfl dX6_nextAct_16 ?_
    refine r_gets (pc := 19) C (C.kx.1 15 (by decide)).1 hS gs_X6_253 dX6_nextAct_19 ?_
    obtain ⟨r_22, hc_22, hf⟩ := bd1 hf
    refine r_dalVi (pc := 22) (ws' := (wX6_nextAct E h h_tape h_names h_sorts h_numbers h_inn h_tape_bytes v_named v_fault v_number v_tape_length v_tape_end v_tape_at v_tape_start v_tape_kind v_tape_code v_tape_mayName v_tape_value)) (As := [.ref (E.2.2.1 15)]) (rest := []) C (ctX7_isAt l E h_tape h_tape_bytes v_tape_length v_tape_end v_tape_at v_tape_start v_tape_kind v_tape_code v_tape_mayName v_tape_value 15 (by decide) N r_22 hc_22) ml_X6_95 ⟨Nat.le_of_ble_eq_true rfl, Nat.le_of_ble_eq_true rfl⟩ hP hD hS 1 rfl rfl rfl [1] [0, 2] 2 rfl rfl rfl rfl rfl rfl rfl hl.1 rfl (Nat.le_of_ble_eq_true rfl) ⟨Nat.zero_le _, Nat.zero_le _⟩ dX6_nextAct_22 ?_
    clear hP hD hS; intro H locs hP hD hS
    refine lv_if_eq (pc := 25) (tgt := 30) hx hb dX6_nextAct_25 (by decide) (fun c_25 => ?_) (fun c_25 => ?_)
    · replace hf := it_t c_25 hf
      refine lv_aload_n (pc := 30) hx hb dX6_nextAct_30 rfl (lv_at hl 0 rfl) ?_
      refine r_get (pc := 31) C hP 0 rfl fl_X6_12 rfl dX6_nextAct_31 ?_
      refine r_gets (pc := 34) C (C.kx.1 16 (by decide)).1 hS gs_X6_256 dX6_nextAct_34 ?_
      obtain ⟨r_37, hc_37, hf⟩ := bd1 hf
      refine r_dalVi (pc := 37) (ws' := (wX6_nextAct E h h_tape h_names h_sorts h_numbers h_inn h_tape_bytes v_named v_fault v_number v_tape_length v_tape_end v_tape_at v_tape_start v_tape_kind v_tape_code v_tape_mayName v_tape_value)) (As := [.ref (E.2.2.1 16)]) (rest := []) C (ctX7_isAt l E h_tape h_tape_bytes v_tape_length v_tape_end v_tape_at v_tape_start v_tape_kind v_tape_code v_tape_mayName v_tape_value 16 (by decide) N r_37 hc_37) ml_X6_95 ⟨Nat.le_of_ble_eq_true rfl, Nat.le_of_ble_eq_true rfl⟩ hP hD hS 1 rfl rfl rfl [1] [0, 2] 2 rfl rfl rfl rfl rfl rfl rfl hl.1 rfl (Nat.le_of_ble_eq_true rfl) ⟨Nat.zero_le _, Nat.zero_le _⟩ dX6_nextAct_37 ?_
      clear hP hD hS; intro H locs hP hD hS
      refine lv_if_eq (pc := 40) (tgt := 45) hx hb dX6_nextAct_40 (by decide) (fun c_40 => ?_) (fun c_40 => ?_)
      · replace hf := it_t c_40 hf
        refine lv_aload_n (pc := 45) hx hb dX6_nextAct_45 rfl (lv_at hl 0 rfl) ?_
        refine r_get (pc := 46) C hP 0 rfl fl_X6_12 rfl dX6_nextAct_46 ?_
        refine r_gets (pc := 49) C (C.kx.1 17 (by decide)).1 hS gs_X6_259 dX6_nextAct_49 ?_
        obtain ⟨r_52, hc_52, hf⟩ := bd1 hf
        refine r_dalVi (pc := 52) (ws' := (wX6_nextAct E h h_tape h_names h_sorts h_numbers h_inn h_tape_bytes v_named v_fault v_number v_tape_length v_tape_end v_tape_at v_tape_start v_tape_kind v_tape_code v_tape_mayName v_tape_value)) (As := [.ref (E.2.2.1 17)]) (rest := []) C (ctX7_isAt l E h_tape h_tape_bytes v_tape_length v_tape_end v_tape_at v_tape_start v_tape_kind v_tape_code v_tape_mayName v_tape_value 17 (by decide) N r_52 hc_52) ml_X6_95 ⟨Nat.le_of_ble_eq_true rfl, Nat.le_of_ble_eq_true rfl⟩ hP hD hS 1 rfl rfl rfl [1] [0, 2] 2 rfl rfl rfl rfl rfl rfl rfl hl.1 rfl (Nat.le_of_ble_eq_true rfl) ⟨Nat.zero_le _, Nat.zero_le _⟩ dX6_nextAct_52 ?_
        clear hP hD hS; intro H locs hP hD hS
        refine lv_if_eq (pc := 55) (tgt := 60) hx hb dX6_nextAct_55 (by decide) (fun c_55 => ?_) (fun c_55 => ?_)
        · replace hf := it_t c_55 hf
          refine lv_aload_n (pc := 60) hx hb dX6_nextAct_60 rfl (lv_at hl 0 rfl) ?_
          refine r_get (pc := 61) C hP 0 rfl fl_X6_12 rfl dX6_nextAct_61 ?_
          refine r_gets (pc := 64) C (C.kx.1 18 (by decide)).1 hS gs_X6_262 dX6_nextAct_64 ?_
          obtain ⟨r_67, hc_67, hf⟩ := bd1 hf
          refine r_dalVi (pc := 67) (ws' := (wX6_nextAct E h h_tape h_names h_sorts h_numbers h_inn h_tape_bytes v_named v_fault v_number v_tape_length v_tape_end v_tape_at v_tape_start v_tape_kind v_tape_code v_tape_mayName v_tape_value)) (As := [.ref (E.2.2.1 18)]) (rest := []) C (ctX7_isAt l E h_tape h_tape_bytes v_tape_length v_tape_end v_tape_at v_tape_start v_tape_kind v_tape_code v_tape_mayName v_tape_value 18 (by decide) N r_67 hc_67) ml_X6_95 ⟨Nat.le_of_ble_eq_true rfl, Nat.le_of_ble_eq_true rfl⟩ hP hD hS 1 rfl rfl rfl [1] [0, 2] 2 rfl rfl rfl rfl rfl rfl rfl hl.1 rfl (Nat.le_of_ble_eq_true rfl) ⟨Nat.zero_le _, Nat.zero_le _⟩ dX6_nextAct_67 ?_
          clear hP hD hS; intro H locs hP hD hS
          refine lv_if_eq (pc := 70) (tgt := 75) hx hb dX6_nextAct_70 (by decide) (fun c_70 => ?_) (fun c_70 => ?_)
          · replace hf := it_t c_70 hf
            refine lv_aload_n (pc := 75) hx hb dX6_nextAct_75 rfl (lv_at hl 0 rfl) ?_
            refine r_get (pc := 76) C hP 0 rfl fl_X6_12 rfl dX6_nextAct_76 ?_
            refine r_gets (pc := 79) C (C.kx.1 8 (by decide)).1 hS gs_X6_179 dX6_nextAct_79 ?_
            obtain ⟨r_82, hc_82, hf⟩ := bd1 hf
            refine r_dalVi (pc := 82) (ws' := (wX6_nextAct E h h_tape h_names h_sorts h_numbers h_inn h_tape_bytes v_named v_fault v_number v_tape_length v_tape_end v_tape_at v_tape_start v_tape_kind v_tape_code v_tape_mayName v_tape_value)) (As := [.ref (E.2.2.1 8)]) (rest := []) C (ctX7_isAt l E h_tape h_tape_bytes v_tape_length v_tape_end v_tape_at v_tape_start v_tape_kind v_tape_code v_tape_mayName v_tape_value 8 (by decide) N r_82 hc_82) ml_X6_95 ⟨Nat.le_of_ble_eq_true rfl, Nat.le_of_ble_eq_true rfl⟩ hP hD hS 1 rfl rfl rfl [1] [0, 2] 2 rfl rfl rfl rfl rfl rfl rfl hl.1 rfl (Nat.le_of_ble_eq_true rfl) ⟨Nat.zero_le _, Nat.zero_le _⟩ dX6_nextAct_82 ?_
            clear hP hD hS; intro H locs hP hD hS
            refine lv_if_eq (pc := 85) (tgt := 92) hx hb dX6_nextAct_85 (by decide) (fun c_85 => ?_) (fun c_85 => ?_)
            · replace hf := it_t c_85 hf
              refine lv_iconst (pc := 92) (v := (-1)) hx hb dX6_nextAct_92 (by decide) ?_
              cases hf
              rw [hQ]
              exact r_iret C hr hP hD hS rfl dX6_nextAct_93
            · replace hf := it_f c_85 hf
              refine lv_iconst (pc := 88) (v := 5) hx hb dX6_nextAct_88 (by decide) ?_
              refine lv_goto (pc := 89) (tgt := 93) hx hb dX6_nextAct_89 (by decide) ?_
              cases hf
              rw [hQ]
              exact r_iret C hr hP hD hS rfl dX6_nextAct_93
          · replace hf := it_f c_70 hf
            refine lv_iconst (pc := 73) (v := 4) hx hb dX6_nextAct_73 (by decide) ?_
            cases hf
            rw [hQ]
            exact r_iret C hr hP hD hS rfl dX6_nextAct_74
        · replace hf := it_f c_55 hf
          refine lv_iconst (pc := 58) (v := 3) hx hb dX6_nextAct_58 (by decide) ?_
          cases hf
          rw [hQ]
          exact r_iret C hr hP hD hS rfl dX6_nextAct_59
      · replace hf := it_f c_40 hf
        refine lv_iconst (pc := 43) (v := 2) hx hb dX6_nextAct_43 (by decide) ?_
        cases hf
        rw [hQ]
        exact r_iret C hr hP hD hS rfl dX6_nextAct_44
    · replace hf := it_f c_25 hf
      refine lv_iconst (pc := 28) (v := 1) hx hb dX6_nextAct_28 (by decide) ?_
      cases hf
      rw [hQ]
      exact r_iret C hr hP hD hS rfl dX6_nextAct_29
  · replace hf := it_f c_10 hf
    refine lv_iconst (pc := 13) (v := 0) hx hb dX6_nextAct_13 (by decide) ?_
    cases hf
    rw [hQ]
    exact r_iret C hr hP hD hS rfl dX6_nextAct_14
def wX6_targetOf (E : EN) : va_W := []
def fX6_targetOf (N : Nat) (p0 : Int32) : Option Int32 := if p0 = 0 then (some 0) else (if p0 = 5 then (some 0) else (jn (un0 (some 1)) (fun j21 => if p0 = 1 then (j21 ()) else (if p0 = 3 then (j21 ()) else (some (-2))))))
set_option maxHeartbeats 4000000 in
set_option maxRecDepth 100000 in
theorem ctX6_targetOf (l : Launch) (E : EN) (N : Nat) (p0 : Int32) (z : Int32) (hf : fX6_targetOf N p0 = some z) : CTi l E yX6_targetOf cX6_targetOf 1 .int 0 0 [.int p0] (wX6_targetOf E) (z) (wX6_targetOf E) := by
  intro sz
  refine ct_body (by decide) (Nat.le_of_ble_eq_true rfl) ?_
  intro p e s m args below meth c A ls hAe C hr hin hP hD hS hl
  have C : CX p s m args meth c cX6_targetOf RX6 1 E A := C
  have hl : lv_has ls 1 [(0, .int p0)] := hl
  have hx := C.1
  have hb := C.2.1
  rw [hAe]
  clear hAe
  obtain ⟨Q, hQ⟩ : ∃ Q, Q = MQ below (Qi E A (z) (wX6_targetOf E)) args s 0 0 A := ⟨_, rfl⟩
  rw [← hQ]
  unfold fX6_targetOf at hf
  refine lv_iload_n (pc := 0) hx hb dX6_targetOf_0 rfl (lv_at hl 0 rfl) ?_
  refine lv_if_eq (pc := 1) (tgt := 9) hx hb dX6_targetOf_1 (by decide) (fun c_1 => ?_) (fun c_1 => ?_)
  · replace hf := it_t c_1 hf
    refine lv_iconst (pc := 9) (v := 0) hx hb dX6_targetOf_9 (by decide) ?_
    cases hf
    rw [hQ]
    exact r_iret C hr hP hD hS rfl dX6_targetOf_10
  · replace hf := it_f c_1 hf
    refine lv_iload_n (pc := 4) hx hb dX6_targetOf_4 rfl (lv_at hl 0 rfl) ?_
    refine lv_iconst (pc := 5) (v := 5) hx hb dX6_targetOf_5 (by decide) ?_
    refine lv_icmp_ne (pc := 6) (tgt := 11) hx hb dX6_targetOf_6 (by decide) (fun c_6 => ?_) (fun c_6 => ?_)
    · replace hf := it_f c_6 hf
      refine lv_iload_n (pc := 11) hx hb dX6_targetOf_11 rfl (lv_at hl 0 rfl) ?_
      refine lv_iconst (pc := 12) (v := 1) hx hb dX6_targetOf_12 (by decide) ?_
      refine jnK hf (fun j21 ej21 hf => ?_)
      have hj21 : j21 () = some z → AT p l e (rmOf 0 0) s m args below meth c E A Q 0 0 1 [] (wX6_targetOf E) 21 [] := by
        intro  hf H locs ls hl hP hD hS
        rw [ej21] at hf
        replace hf := un0_s hf
        refine lv_iconst (pc := 21) (v := 1) hx hb dX6_targetOf_21 (by decide) ?_
        refine lv_goto (pc := 22) (tgt := 27) hx hb dX6_targetOf_22 (by decide) ?_
        cases hf
        rw [hQ]
        exact r_iret C hr hP hD hS rfl dX6_targetOf_27
      clear ej21
      refine lv_icmp_eq (pc := 13) (tgt := 21) hx hb dX6_targetOf_13 (by decide) (fun c_13 => ?_) (fun c_13 => ?_)
      · replace hf := it_t c_13 hf
        exact hj21  hf _ _ _ (lv_sub hl [] rfl) hP hD hS
      · replace hf := it_f c_13 hf
        refine lv_iload_n (pc := 16) hx hb dX6_targetOf_16 rfl (lv_at hl 0 rfl) ?_
        refine lv_iconst (pc := 17) (v := 3) hx hb dX6_targetOf_17 (by decide) ?_
        refine lv_icmp_ne (pc := 18) (tgt := 25) hx hb dX6_targetOf_18 (by decide) (fun c_18 => ?_) (fun c_18 => ?_)
        · replace hf := it_f c_18 hf
          refine lv_bipush (pc := 25) (v := (-2)) hx hb dX6_targetOf_25 (by decide) ?_
          cases hf
          rw [hQ]
          exact r_iret C hr hP hD hS rfl dX6_targetOf_27
        · replace hf := it_t c_18 hf
          exact hj21  hf _ _ _ (lv_sub hl [] rfl) hP hD hS
    · replace hf := it_t c_6 hf
      refine lv_iconst (pc := 9) (v := 0) hx hb dX6_targetOf_9 (by decide) ?_
      cases hf
      rw [hQ]
      exact r_iret C hr hP hD hS rfl dX6_targetOf_10
def wX2_tellState (E : EN) (h h_house h_thingIn h_full h_states h_bed h_dreamOf h_listensIn : Nat) (v_minutes : Int32) (v_things : Int32) (v_dreams : Int32) (v_sleepers : Int32) (v_listeners : Int32) (v_states : Nat → Int32) : va_W := [(h, .inr (2, [.ref h_house, .int v_minutes, .int v_things, .ref h_thingIn, .ref h_full, .int v_dreams, .ref h_states, .int v_sleepers, .ref h_bed, .ref h_dreamOf, .int v_listeners, .ref h_listensIn])), (h_states, aI E 64 v_states)]
def fX2_tellState (N : Nat) (p0 : Int32) (p1 : Int32) (p2 : Int32) (p3 : Int32) (p4 : Int32) (p5 : Int32) (v_states : Nat → Int32) : Option (Nat → Int32) := gd ((((p0 * 4) + p1) * 4) + 0) 64 (gd ((((p0 * 4) + p1) * 4) + 1) 64 (gd ((((p0 * 4) + p1) * 4) + 2) 64 (gd ((((p0 * 4) + p1) * 4) + 3) 64 (some (upd (upd (upd (upd v_states ((((p0 * 4) + p1) * 4) + 0).toNatClampNeg p2) ((((p0 * 4) + p1) * 4) + 1).toNatClampNeg p3) ((((p0 * 4) + p1) * 4) + 2).toNatClampNeg p4) ((((p0 * 4) + p1) * 4) + 3).toNatClampNeg p5)))))
set_option maxHeartbeats 4000000 in
set_option maxRecDepth 100000 in
theorem ctX2_tellState (l : Launch) (E : EN) (h h_house h_thingIn h_full h_states h_bed h_dreamOf h_listensIn : Nat) (v_minutes : Int32) (v_things : Int32) (v_dreams : Int32) (v_sleepers : Int32) (v_listeners : Int32) (v_states : Nat → Int32) (N : Nat) (p0 : Int32) (p1 : Int32) (p2 : Int32) (p3 : Int32) (p4 : Int32) (p5 : Int32) (z : Nat → Int32) (hf : fX2_tellState N p0 p1 p2 p3 p4 p5 v_states = some z) : CTv l E yX2_tellState cX2_tellState 8 0 0 [.ref h, .int p0, .int p1, .int p2, .int p3, .int p4, .int p5] (wX2_tellState E h h_house h_thingIn h_full h_states h_bed h_dreamOf h_listensIn v_minutes v_things v_dreams v_sleepers v_listeners v_states) (wX2_tellState E h h_house h_thingIn h_full h_states h_bed h_dreamOf h_listensIn v_minutes v_things v_dreams v_sleepers v_listeners z) := by
  intro sz
  refine ct_body (by decide) (Nat.le_of_ble_eq_true rfl) ?_
  intro p e s m args below meth c A ls hAe C hr hin hP hD hS hl
  have C : CX p s m args meth c cX2_tellState RX2 8 E A := C
  have hl : lv_has ls 8 [(0, .ref h), (1, .int p0), (2, .int p1), (3, .int p2), (4, .int p3), (5, .int p4), (6, .int p5)] := hl
  have hx := C.1
  have hb := C.2.1
  rw [hAe]
  clear hAe
  obtain ⟨Q, hQ⟩ : ∃ Q, Q = MQ below (Qv E A (wX2_tellState E h h_house h_thingIn h_full h_states h_bed h_dreamOf h_listensIn v_minutes v_things v_dreams v_sleepers v_listeners z)) args s 0 0 A := ⟨_, rfl⟩
  rw [← hQ]
  unfold fX2_tellState at hf
  refine lv_iload_n (pc := 0) hx hb dX2_tellState_0 rfl (lv_at hl 1 rfl) ?_
  refine lv_iconst (pc := 1) (v := 4) hx hb dX2_tellState_1 (by decide) ?_
  refine lv_imul (pc := 2) hx hb dX2_tellState_2 ?_
  refine lv_iload_n (pc := 3) hx hb dX2_tellState_3 rfl (lv_at hl 2 rfl) ?_
  refine lv_iadd (pc := 4) hx hb dX2_tellState_4 ?_
  refine lv_iconst (pc := 5) (v := 4) hx hb dX2_tellState_5 (by decide) ?_
  refine lv_imul (pc := 6) hx hb dX2_tellState_6 ?_
  refine lv_istore (pc := 7) (lv' := [(7, .int (((p0 * 4) + p1) * 4)), (0, .ref h), (1, .int p0), (2, .int p1), (3, .int p2), (4, .int p3), (5, .int p4), (6, .int p5)]) hx hb dX2_tellState_7 hl (by decide) rfl (fun ls hl => ?_)
  refine lv_aload_n (pc := 9) hx hb dX2_tellState_9 rfl (lv_at hl 1 rfl) ?_
  refine r_get (pc := 10) C hP 0 rfl fl_X2_26 rfl dX2_tellState_10 ?_
  refine lv_iload (pc := 13) hx hb dX2_tellState_13 (lv_at hl 0 rfl) ?_
  refine lv_iconst (pc := 15) (v := 0) hx hb dX2_tellState_15 (by decide) ?_
  refine lv_iadd (pc := 16) hx hb dX2_tellState_16 ?_
  refine lv_iload_n (pc := 17) hx hb dX2_tellState_17 rfl (lv_at hl 4 rfl) ?_
  obtain ⟨hi_18, hf⟩ := gd_s hf
  refine r_iast (pc := 18) (ws' := (wX2_tellState E h h_house h_thingIn h_full h_states h_bed h_dreamOf h_listensIn v_minutes v_things v_dreams v_sleepers v_listeners (upd v_states ((((p0 * 4) + p1) * 4) + 0).toNatClampNeg p2))) C hP hD hS 1 rfl hi_18 rfl dX2_tellState_18 ?_
  clear hP hD hS; intro H locs hP hD hS
  refine lv_aload_n (pc := 19) hx hb dX2_tellState_19 rfl (lv_at hl 1 rfl) ?_
  refine r_get (pc := 20) C hP 0 rfl fl_X2_26 rfl dX2_tellState_20 ?_
  refine lv_iload (pc := 23) hx hb dX2_tellState_23 (lv_at hl 0 rfl) ?_
  refine lv_iconst (pc := 25) (v := 1) hx hb dX2_tellState_25 (by decide) ?_
  refine lv_iadd (pc := 26) hx hb dX2_tellState_26 ?_
  refine lv_iload (pc := 27) hx hb dX2_tellState_27 (lv_at hl 5 rfl) ?_
  obtain ⟨hi_29, hf⟩ := gd_s hf
  refine r_iast (pc := 29) (ws' := (wX2_tellState E h h_house h_thingIn h_full h_states h_bed h_dreamOf h_listensIn v_minutes v_things v_dreams v_sleepers v_listeners (upd (upd v_states ((((p0 * 4) + p1) * 4) + 0).toNatClampNeg p2) ((((p0 * 4) + p1) * 4) + 1).toNatClampNeg p3))) C hP hD hS 1 rfl hi_29 rfl dX2_tellState_29 ?_
  clear hP hD hS; intro H locs hP hD hS
  refine lv_aload_n (pc := 30) hx hb dX2_tellState_30 rfl (lv_at hl 1 rfl) ?_
  refine r_get (pc := 31) C hP 0 rfl fl_X2_26 rfl dX2_tellState_31 ?_
  refine lv_iload (pc := 34) hx hb dX2_tellState_34 (lv_at hl 0 rfl) ?_
  refine lv_iconst (pc := 36) (v := 2) hx hb dX2_tellState_36 (by decide) ?_
  refine lv_iadd (pc := 37) hx hb dX2_tellState_37 ?_
  refine lv_iload (pc := 38) hx hb dX2_tellState_38 (lv_at hl 6 rfl) ?_
  obtain ⟨hi_40, hf⟩ := gd_s hf
  refine r_iast (pc := 40) (ws' := (wX2_tellState E h h_house h_thingIn h_full h_states h_bed h_dreamOf h_listensIn v_minutes v_things v_dreams v_sleepers v_listeners (upd (upd (upd v_states ((((p0 * 4) + p1) * 4) + 0).toNatClampNeg p2) ((((p0 * 4) + p1) * 4) + 1).toNatClampNeg p3) ((((p0 * 4) + p1) * 4) + 2).toNatClampNeg p4))) C hP hD hS 1 rfl hi_40 rfl dX2_tellState_40 ?_
  clear hP hD hS; intro H locs hP hD hS
  refine lv_aload_n (pc := 41) hx hb dX2_tellState_41 rfl (lv_at hl 1 rfl) ?_
  refine r_get (pc := 42) C hP 0 rfl fl_X2_26 rfl dX2_tellState_42 ?_
  refine lv_iload (pc := 45) hx hb dX2_tellState_45 (lv_at hl 0 rfl) ?_
  refine lv_iconst (pc := 47) (v := 3) hx hb dX2_tellState_47 (by decide) ?_
  refine lv_iadd (pc := 48) hx hb dX2_tellState_48 ?_
  refine lv_iload (pc := 49) hx hb dX2_tellState_49 (lv_at hl 7 rfl) ?_
  obtain ⟨hi_51, hf⟩ := gd_s hf
  refine r_iast (pc := 51) (ws' := (wX2_tellState E h h_house h_thingIn h_full h_states h_bed h_dreamOf h_listensIn v_minutes v_things v_dreams v_sleepers v_listeners (upd (upd (upd (upd v_states ((((p0 * 4) + p1) * 4) + 0).toNatClampNeg p2) ((((p0 * 4) + p1) * 4) + 1).toNatClampNeg p3) ((((p0 * 4) + p1) * 4) + 2).toNatClampNeg p4) ((((p0 * 4) + p1) * 4) + 3).toNatClampNeg p5))) C hP hD hS 1 rfl hi_51 rfl dX2_tellState_51 ?_
  clear hP hD hS; intro H locs hP hD hS
  cases hf
  rw [hQ]
  exact r_vret C hr hP hD hS dX2_tellState_52
def wX6_readDream (E : EN) (h h_tape h_names h_sorts h_numbers h_inn h_tape_bytes h_inn_house h_inn_thingIn h_inn_full h_inn_states h_inn_bed h_inn_dreamOf h_inn_listensIn : Nat) (v_named : Int32) (v_fault : Int32) (v_number : Int32) (v_tape_length : Int32) (v_tape_end : Int32) (v_tape_at : Int32) (v_tape_start : Int32) (v_tape_kind : Int32) (v_tape_code : Int64) (v_tape_mayName : Int32) (v_tape_value : Int32) (v_tape_bytes : Nat → Int32) (v_names : Nat → Int64) (v_inn_minutes : Int32) (v_inn_things : Int32) (v_inn_dreams : Int32) (v_inn_sleepers : Int32) (v_inn_listeners : Int32) (v_sorts : Nat → Int32) (v_numbers : Nat → Int32) (v_inn_states : Nat → Int32) : va_W := [(h, .inr (6, [.ref h_tape, .ref h_names, .ref h_sorts, .ref h_numbers, .int v_named, .ref h_inn, .int v_fault, .int v_number])), (h_tape, .inr (7, [.ref h_tape_bytes, .int v_tape_length, .int v_tape_end, .int v_tape_at, .int v_tape_start, .int v_tape_kind, .long v_tape_code, .int v_tape_mayName, .int v_tape_value])), (h_tape_bytes, aB E 900 v_tape_bytes), (h_names, aJ E 19 v_names), (h_inn, .inr (2, [.ref h_inn_house, .int v_inn_minutes, .int v_inn_things, .ref h_inn_thingIn, .ref h_inn_full, .int v_inn_dreams, .ref h_inn_states, .int v_inn_sleepers, .ref h_inn_bed, .ref h_inn_dreamOf, .int v_inn_listeners, .ref h_inn_listensIn])), (h_sorts, aI E 19 v_sorts), (h_numbers, aI E 19 v_numbers), (h_inn_states, aI E 64 v_inn_states)]
def fX6_readDream (N : Nat) (v_named : Int32) (v_fault : Int32) (v_number : Int32) (v_tape_end : Int32) (v_tape_at : Int32) (v_tape_bytes : Nat → Int32) (v_names : Nat → Int64) (v_inn_dreams : Int32) (v_sorts : Nat → Int32) (v_numbers : Nat → Int32) (v_inn_states : Nat → Int32) : Option (Int32 × Int32 × Int32 × Int32 × Int32 × Int32 × Int32 × Int64 × Int32 × Int32 × (Nat → Int64) × Int32 × (Nat → Int32) × (Nat → Int32) × (Nat → Int32)) := (fX7_advance N v_tape_end v_tape_at v_tape_bytes).bind (un6 fun (v_tape_at_4 : Int32) (v_tape_start_4 : Int32) (v_tape_kind_4 : Int32) (v_tape_code_4 : Int64) (v_tape_mayName_4 : Int32) (v_tape_value_4 : Int32) => (fX6_passDream N v_named v_fault v_number v_tape_end v_tape_at_4 v_tape_start_4 v_tape_kind_4 v_tape_code_4 v_tape_mayName_4 v_tape_value_4 v_names v_inn_dreams v_sorts v_numbers v_tape_bytes).bind (un14 fun (r_8 : Int32) (v_named_8 : Int32) (v_fault_8 : Int32) (v_number_8 : Int32) (v_tape_at_8 : Int32) (v_tape_start_8 : Int32) (v_tape_kind_8 : Int32) (v_tape_code_8 : Int64) (v_tape_mayName_8 : Int32) (v_tape_value_8 : Int32) (v_names_8 : Nat → Int64) (v_inn_dreams_8 : Int32) (v_sorts_8 : Nat → Int32) (v_numbers_8 : Nat → Int32) => if r_8 = 0 then (some (0, v_named_8, v_fault_8, v_number_8, v_tape_at_8, v_tape_start_8, v_tape_kind_8, v_tape_code_8, v_tape_mayName_8, v_tape_value_8, v_names_8, v_inn_dreams_8, v_sorts_8, v_numbers_8, v_inn_states)) else ((fX6_passNewState N v_number_8 v_fault_8 v_number_8 v_tape_end v_tape_at_8 v_tape_start_8 v_tape_kind_8 v_tape_code_8 v_tape_mayName_8 v_tape_value_8 v_inn_states v_tape_bytes).bind (un9 fun (r_23 : Int32) (v_fault_23 : Int32) (v_number_23 : Int32) (v_tape_at_23 : Int32) (v_tape_start_23 : Int32) (v_tape_kind_23 : Int32) (v_tape_code_23 : Int64) (v_tape_mayName_23 : Int32) (v_tape_value_23 : Int32) => if r_23 = 0 then (some (0, v_named_8, v_fault_23, v_number_23, v_tape_at_23, v_tape_start_23, v_tape_kind_23, v_tape_code_23, v_tape_mayName_23, v_tape_value_23, v_names_8, v_inn_dreams_8, v_sorts_8, v_numbers_8, v_inn_states)) else ((fX6_nextAct N v_tape_kind_23 v_tape_code_23).bind (un1 fun (r_37 : Int32) => if r_37 = (-1) then ((fX6_fail N 1).bind (un2 fun (r_48 : Int32) (v_fault_48 : Int32) => zg r_48 (some (r_48, v_named_8, v_fault_48, v_number_23, v_tape_at_23, v_tape_start_23, v_tape_kind_23, v_tape_code_23, v_tape_mayName_23, v_tape_value_23, v_names_8, v_inn_dreams_8, v_sorts_8, v_numbers_8, v_inn_states)))) else ((fX7_advance N v_tape_end v_tape_at_23 v_tape_bytes).bind (un6 fun (v_tape_at_56 : Int32) (v_tape_start_56 : Int32) (v_tape_kind_56 : Int32) (v_tape_code_56 : Int64) (v_tape_mayName_56 : Int32) (v_tape_value_56 : Int32) => (fX6_targetOf N r_37).bind (un1 fun (r_60 : Int32) => jn (un8 fun (x83_fault : Int32) (x83_number : Int32) (x83_tape_at : Int32) (x83_tape_start : Int32) (x83_tape_kind : Int32) (x83_tape_code : Int64) (x83_tape_mayName : Int32) (x83_tape_value : Int32) => jn (un1 fun (x99_s0 : Int32) => (fX6_pass N 12 x83_fault v_tape_end x83_tape_at x83_tape_start x83_tape_kind x83_tape_code x83_tape_mayName x83_tape_value v_tape_bytes).bind (un8 fun (r_105 : Int32) (v_fault_105 : Int32) (v_tape_at_105 : Int32) (v_tape_start_105 : Int32) (v_tape_kind_105 : Int32) (v_tape_code_105 : Int64) (v_tape_mayName_105 : Int32) (v_tape_value_105 : Int32) => if r_105 = 0 then (some (0, v_named_8, v_fault_105, x83_number, v_tape_at_105, v_tape_start_105, v_tape_kind_105, v_tape_code_105, v_tape_mayName_105, v_tape_value_105, v_names_8, v_inn_dreams_8, v_sorts_8, v_numbers_8, v_inn_states)) else ((fX6_passWhole N 0 3 v_fault_105 x83_number v_tape_end v_tape_at_105 v_tape_start_105 v_tape_kind_105 v_tape_code_105 v_tape_mayName_105 v_tape_value_105 v_tape_bytes).bind (un9 fun (r_114 : Int32) (v_fault_114 : Int32) (v_number_114 : Int32) (v_tape_at_114 : Int32) (v_tape_start_114 : Int32) (v_tape_kind_114 : Int32) (v_tape_code_114 : Int64) (v_tape_mayName_114 : Int32) (v_tape_value_114 : Int32) => if r_114 = 0 then (some (0, v_named_8, v_fault_114, v_number_114, v_tape_at_114, v_tape_start_114, v_tape_kind_114, v_tape_code_114, v_tape_mayName_114, v_tape_value_114, v_names_8, v_inn_dreams_8, v_sorts_8, v_numbers_8, v_inn_states)) else ((fX6_passIf N 13 v_tape_end v_tape_at_114 v_tape_start_114 v_tape_kind_114 v_tape_code_114 v_tape_mayName_114 v_tape_value_114 v_tape_bytes).bind (un7 fun (r_132 : Int32) (v_tape_at_132 : Int32) (v_tape_start_132 : Int32) (v_tape_kind_132 : Int32) (v_tape_code_132 : Int64) (v_tape_mayName_132 : Int32) (v_tape_value_132 : Int32) => jn (un8 fun (x153_fault : Int32) (x153_number : Int32) (x153_tape_at : Int32) (x153_tape_start : Int32) (x153_tape_kind : Int32) (x153_tape_code : Int64) (x153_tape_mayName : Int32) (x153_tape_value : Int32) => if r_132 = 0 then ((fX2_tellState N v_number_8 v_number_23 r_37 x99_s0 v_number_114 (-2) v_inn_states).bind (un1 fun (v_inn_states_178 : Nat → Int32) => some (1, v_named_8, x153_fault, x153_number, x153_tape_at, x153_tape_start, x153_tape_kind, x153_tape_code, x153_tape_mayName, x153_tape_value, v_names_8, v_inn_dreams_8, v_sorts_8, v_numbers_8, v_inn_states_178))) else ((fX2_tellState N v_number_8 v_number_23 r_37 x99_s0 v_number_114 x153_number v_inn_states).bind (un1 fun (v_inn_states_178 : Nat → Int32) => some (1, v_named_8, x153_fault, x153_number, x153_tape_at, x153_tape_start, x153_tape_kind, x153_tape_code, x153_tape_mayName, x153_tape_value, v_names_8, v_inn_dreams_8, v_sorts_8, v_numbers_8, v_inn_states_178)))) (fun j153 => if r_132 = 0 then (j153 (v_fault_114, v_number_114, v_tape_at_132, v_tape_start_132, v_tape_kind_132, v_tape_code_132, v_tape_mayName_132, v_tape_value_132)) else ((fX6_passWhole N 0 3 v_fault_114 v_number_114 v_tape_end v_tape_at_132 v_tape_start_132 v_tape_kind_132 v_tape_code_132 v_tape_mayName_132 v_tape_value_132 v_tape_bytes).bind (un9 fun (r_145 : Int32) (v_fault_145 : Int32) (v_number_145 : Int32) (v_tape_at_145 : Int32) (v_tape_start_145 : Int32) (v_tape_kind_145 : Int32) (v_tape_code_145 : Int64) (v_tape_mayName_145 : Int32) (v_tape_value_145 : Int32) => if r_145 = 0 then (some (0, v_named_8, v_fault_145, v_number_145, v_tape_at_145, v_tape_start_145, v_tape_kind_145, v_tape_code_145, v_tape_mayName_145, v_tape_value_145, v_names_8, v_inn_dreams_8, v_sorts_8, v_numbers_8, v_inn_states)) else (j153 (v_fault_145, v_number_145, v_tape_at_145, v_tape_start_145, v_tape_kind_145, v_tape_code_145, v_tape_mayName_145, v_tape_value_145))))))))))) (fun j99 => if r_60 = (-2) then (j99 (-2)) else (j99 x83_number))) (fun j83 => if r_60 = (-2) then (j83 (v_fault_23, v_number_23, v_tape_at_56, v_tape_start_56, v_tape_kind_56, v_tape_code_56, v_tape_mayName_56, v_tape_value_56)) else ((fX6_passName N r_60 v_named_8 v_fault_23 v_number_23 v_tape_end v_tape_at_56 v_tape_start_56 v_tape_kind_56 v_tape_code_56 v_tape_mayName_56 v_tape_value_56 v_names_8 v_sorts_8 v_numbers_8 v_tape_bytes).bind (un9 fun (r_75 : Int32) (v_fault_75 : Int32) (v_number_75 : Int32) (v_tape_at_75 : Int32) (v_tape_start_75 : Int32) (v_tape_kind_75 : Int32) (v_tape_code_75 : Int64) (v_tape_mayName_75 : Int32) (v_tape_value_75 : Int32) => if r_75 = 0 then (some (0, v_named_8, v_fault_75, v_number_75, v_tape_at_75, v_tape_start_75, v_tape_kind_75, v_tape_code_75, v_tape_mayName_75, v_tape_value_75, v_names_8, v_inn_dreams_8, v_sorts_8, v_numbers_8, v_inn_states)) else (j83 (v_fault_75, v_number_75, v_tape_at_75, v_tape_start_75, v_tape_kind_75, v_tape_code_75, v_tape_mayName_75, v_tape_value_75))))))))))))))
set_option maxHeartbeats 4000000 in
set_option maxRecDepth 100000 in
theorem ctX6_readDream (l : Launch) (E : EN) (h h_tape h_names h_sorts h_numbers h_inn h_tape_bytes h_inn_house h_inn_thingIn h_inn_full h_inn_states h_inn_bed h_inn_dreamOf h_inn_listensIn : Nat) (v_named : Int32) (v_fault : Int32) (v_number : Int32) (v_tape_length : Int32) (v_tape_end : Int32) (v_tape_at : Int32) (v_tape_start : Int32) (v_tape_kind : Int32) (v_tape_code : Int64) (v_tape_mayName : Int32) (v_tape_value : Int32) (v_tape_bytes : Nat → Int32) (v_names : Nat → Int64) (v_inn_minutes : Int32) (v_inn_things : Int32) (v_inn_dreams : Int32) (v_inn_sleepers : Int32) (v_inn_listeners : Int32) (v_sorts : Nat → Int32) (v_numbers : Nat → Int32) (v_inn_states : Nat → Int32) (N : Nat) (z : Int32 × Int32 × Int32 × Int32 × Int32 × Int32 × Int32 × Int64 × Int32 × Int32 × (Nat → Int64) × Int32 × (Nat → Int32) × (Nat → Int32) × (Nat → Int32)) (hf : fX6_readDream N v_named v_fault v_number v_tape_end v_tape_at v_tape_bytes v_names v_inn_dreams v_sorts v_numbers v_inn_states = some z) : CTi l E yX6_readDream cX6_readDream 8 .boolean 3 66 [.ref h] (wX6_readDream E h h_tape h_names h_sorts h_numbers h_inn h_tape_bytes h_inn_house h_inn_thingIn h_inn_full h_inn_states h_inn_bed h_inn_dreamOf h_inn_listensIn v_named v_fault v_number v_tape_length v_tape_end v_tape_at v_tape_start v_tape_kind v_tape_code v_tape_mayName v_tape_value v_tape_bytes v_names v_inn_minutes v_inn_things v_inn_dreams v_inn_sleepers v_inn_listeners v_sorts v_numbers v_inn_states) (z.1) (wX6_readDream E h h_tape h_names h_sorts h_numbers h_inn h_tape_bytes h_inn_house h_inn_thingIn h_inn_full h_inn_states h_inn_bed h_inn_dreamOf h_inn_listensIn z.2.1 z.2.2.1 z.2.2.2.1 v_tape_length v_tape_end z.2.2.2.2.1 z.2.2.2.2.2.1 z.2.2.2.2.2.2.1 z.2.2.2.2.2.2.2.1 z.2.2.2.2.2.2.2.2.1 z.2.2.2.2.2.2.2.2.2.1 v_tape_bytes z.2.2.2.2.2.2.2.2.2.2.1 v_inn_minutes v_inn_things z.2.2.2.2.2.2.2.2.2.2.2.1 v_inn_sleepers v_inn_listeners z.2.2.2.2.2.2.2.2.2.2.2.2.1 z.2.2.2.2.2.2.2.2.2.2.2.2.2.1 z.2.2.2.2.2.2.2.2.2.2.2.2.2.2) := by
  intro sz
  refine ct_body (by decide) (Nat.le_of_ble_eq_true rfl) ?_
  intro p e s m args below meth c A ls hAe C hr hin hP hD hS hl
  have C : CX p s m args meth c cX6_readDream RX6 8 E A := C
  have hl : lv_has ls 8 [(0, .ref h)] := hl
  have hx := C.1
  have hb := C.2.1
  rw [hAe]
  clear hAe
  obtain ⟨Q, hQ⟩ : ∃ Q, Q = MQ below (Qi E A (z.1) (wX6_readDream E h h_tape h_names h_sorts h_numbers h_inn h_tape_bytes h_inn_house h_inn_thingIn h_inn_full h_inn_states h_inn_bed h_inn_dreamOf h_inn_listensIn z.2.1 z.2.2.1 z.2.2.2.1 v_tape_length v_tape_end z.2.2.2.2.1 z.2.2.2.2.2.1 z.2.2.2.2.2.2.1 z.2.2.2.2.2.2.2.1 z.2.2.2.2.2.2.2.2.1 z.2.2.2.2.2.2.2.2.2.1 v_tape_bytes z.2.2.2.2.2.2.2.2.2.2.1 v_inn_minutes v_inn_things z.2.2.2.2.2.2.2.2.2.2.2.1 v_inn_sleepers v_inn_listeners z.2.2.2.2.2.2.2.2.2.2.2.2.1 z.2.2.2.2.2.2.2.2.2.2.2.2.2.1 z.2.2.2.2.2.2.2.2.2.2.2.2.2.2)) args s 0 0 A := ⟨_, rfl⟩
  rw [← hQ]
  unfold fX6_readDream at hf
  refine lv_aload_n (pc := 0) hx hb dX6_readDream_0 rfl (lv_at hl 0 rfl) ?_
  refine r_get (pc := 1) C hP 0 rfl fl_X6_12 rfl dX6_readDream_1 ?_
  obtain ⟨v_tape_at_4, v_tape_start_4, v_tape_kind_4, v_tape_code_4, v_tape_mayName_4, v_tape_value_4, hc_4, hf⟩ := bd6 hf
  refine r_dalVv (pc := 4) (ws' := (wX6_readDream E h h_tape h_names h_sorts h_numbers h_inn h_tape_bytes h_inn_house h_inn_thingIn h_inn_full h_inn_states h_inn_bed h_inn_dreamOf h_inn_listensIn v_named v_fault v_number v_tape_length v_tape_end v_tape_at_4 v_tape_start_4 v_tape_kind_4 v_tape_code_4 v_tape_mayName_4 v_tape_value_4 v_tape_bytes v_names v_inn_minutes v_inn_things v_inn_dreams v_inn_sleepers v_inn_listeners v_sorts v_numbers v_inn_states)) (As := []) (rest := []) C (ctX7_advance l E h_tape h_tape_bytes v_tape_length v_tape_end v_tape_at v_tape_start v_tape_kind v_tape_code v_tape_mayName v_tape_value v_tape_bytes N (v_tape_at_4, v_tape_start_4, v_tape_kind_4, v_tape_code_4, v_tape_mayName_4, v_tape_value_4) hc_4) ml_X6_57 ⟨Nat.le_of_ble_eq_true rfl, Nat.le_of_ble_eq_true rfl⟩ hP hD hS 1 rfl rfl rfl [1, 2] [0, 8, 9, 3, 4, 5, 6, 7] 8 rfl rfl rfl rfl rfl rfl rfl hl.1 rfl (Nat.le_of_ble_eq_true rfl) ⟨Nat.zero_le _, Nat.zero_le _⟩ dX6_readDream_4 ?_
  clear hP hD hS; intro H locs hP hD hS
  refine lv_aload_n (pc := 7) hx hb dX6_readDream_7 rfl (lv_at hl 0 rfl) ?_
  obtain ⟨r_8, v_named_8, v_fault_8, v_number_8, v_tape_at_8, v_tape_start_8, v_tape_kind_8, v_tape_code_8, v_tape_mayName_8, v_tape_value_8, v_names_8, v_inn_dreams_8, v_sorts_8, v_numbers_8, hc_8, hf⟩ := bd14 hf
  refine r_dalVi (pc := 8) (ws' := (wX6_readDream E h h_tape h_names h_sorts h_numbers h_inn h_tape_bytes h_inn_house h_inn_thingIn h_inn_full h_inn_states h_inn_bed h_inn_dreamOf h_inn_listensIn v_named_8 v_fault_8 v_number_8 v_tape_length v_tape_end v_tape_at_8 v_tape_start_8 v_tape_kind_8 v_tape_code_8 v_tape_mayName_8 v_tape_value_8 v_tape_bytes v_names_8 v_inn_minutes v_inn_things v_inn_dreams_8 v_inn_sleepers v_inn_listeners v_sorts_8 v_numbers_8 v_inn_states)) (As := []) (rest := []) C (ctX6_passDream l E h h_tape h_names h_sorts h_numbers h_inn h_tape_bytes h_inn_house h_inn_thingIn h_inn_full h_inn_states h_inn_bed h_inn_dreamOf h_inn_listensIn v_named v_fault v_number v_tape_length v_tape_end v_tape_at_4 v_tape_start_4 v_tape_kind_4 v_tape_code_4 v_tape_mayName_4 v_tape_value_4 v_names v_inn_minutes v_inn_things v_inn_dreams v_inn_sleepers v_inn_listeners v_sorts v_numbers v_tape_bytes N (r_8, v_named_8, v_fault_8, v_number_8, v_tape_at_8, v_tape_start_8, v_tape_kind_8, v_tape_code_8, v_tape_mayName_8, v_tape_value_8, v_names_8, v_inn_dreams_8, v_sorts_8, v_numbers_8) hc_8) ml_X6_204 ⟨Nat.le_of_ble_eq_true rfl, Nat.le_of_ble_eq_true rfl⟩ hP hD hS 0 rfl rfl rfl [0, 1, 3, 4, 5, 6, 2] [8, 9, 14, 10, 11, 12, 13, 7] 8 rfl rfl rfl rfl rfl rfl rfl hl.1 rfl (Nat.le_of_ble_eq_true rfl) ⟨Nat.zero_le _, Nat.zero_le _⟩ dX6_readDream_8 ?_
  clear hP hD hS; intro H locs hP hD hS
  refine lv_if_ne (pc := 11) (tgt := 16) hx hb dX6_readDream_11 (by decide) (fun c_11 => ?_) (fun c_11 => ?_)
  · replace hf := it_f c_11 hf
    refine lv_aload_n (pc := 16) hx hb dX6_readDream_16 rfl (lv_at hl 0 rfl) ?_
    refine r_get (pc := 17) C hP 0 rfl fl_X6_148 rfl dX6_readDream_17 ?_
    refine lv_istore_n (pc := 20) (lv' := [(1, .int v_number_8), (0, .ref h)]) hx hb dX6_readDream_20 rfl hl (by decide) rfl (fun ls hl => ?_)
    refine lv_aload_n (pc := 21) hx hb dX6_readDream_21 rfl (lv_at hl 1 rfl) ?_
    refine lv_iload_n (pc := 22) hx hb dX6_readDream_22 rfl (lv_at hl 0 rfl) ?_
    obtain ⟨r_23, v_fault_23, v_number_23, v_tape_at_23, v_tape_start_23, v_tape_kind_23, v_tape_code_23, v_tape_mayName_23, v_tape_value_23, hc_23, hf⟩ := bd9 hf
    refine r_dalVi (pc := 23) (ws' := (wX6_readDream E h h_tape h_names h_sorts h_numbers h_inn h_tape_bytes h_inn_house h_inn_thingIn h_inn_full h_inn_states h_inn_bed h_inn_dreamOf h_inn_listensIn v_named_8 v_fault_23 v_number_23 v_tape_length v_tape_end v_tape_at_23 v_tape_start_23 v_tape_kind_23 v_tape_code_23 v_tape_mayName_23 v_tape_value_23 v_tape_bytes v_names_8 v_inn_minutes v_inn_things v_inn_dreams_8 v_inn_sleepers v_inn_listeners v_sorts_8 v_numbers_8 v_inn_states)) (As := [.int v_number_8]) (rest := []) C (ctX6_passNewState l E h h_tape h_names h_sorts h_numbers h_inn h_tape_bytes h_inn_house h_inn_thingIn h_inn_full h_inn_states h_inn_bed h_inn_dreamOf h_inn_listensIn v_named_8 v_fault_8 v_number_8 v_tape_length v_tape_end v_tape_at_8 v_tape_start_8 v_tape_kind_8 v_tape_code_8 v_tape_mayName_8 v_tape_value_8 v_inn_minutes v_inn_things v_inn_dreams_8 v_inn_sleepers v_inn_listeners v_inn_states v_tape_bytes N v_number_8 (r_23, v_fault_23, v_number_23, v_tape_at_23, v_tape_start_23, v_tape_kind_23, v_tape_code_23, v_tape_mayName_23, v_tape_value_23) hc_23) ml_X6_207 ⟨Nat.le_of_ble_eq_true rfl, Nat.le_of_ble_eq_true rfl⟩ hP hD hS 0 rfl rfl rfl [0, 1, 4, 7, 2] [8, 9, 12, 3, 10, 5, 6, 11] 8 rfl rfl rfl rfl rfl rfl rfl hl.1 rfl (Nat.le_of_ble_eq_true rfl) ⟨Nat.zero_le _, Nat.zero_le _⟩ dX6_readDream_23 ?_
    clear hP hD hS; intro H locs hP hD hS
    refine lv_if_ne (pc := 26) (tgt := 31) hx hb dX6_readDream_26 (by decide) (fun c_26 => ?_) (fun c_26 => ?_)
    · replace hf := it_f c_26 hf
      refine lv_aload_n (pc := 31) hx hb dX6_readDream_31 rfl (lv_at hl 1 rfl) ?_
      refine r_get (pc := 32) C hP 0 rfl fl_X6_148 rfl dX6_readDream_32 ?_
      refine lv_istore_n (pc := 35) (lv' := [(2, .int v_number_23), (1, .int v_number_8), (0, .ref h)]) hx hb dX6_readDream_35 rfl hl (by decide) rfl (fun ls hl => ?_)
      refine lv_aload_n (pc := 36) hx hb dX6_readDream_36 rfl (lv_at hl 2 rfl) ?_
      obtain ⟨r_37, hc_37, hf⟩ := bd1 hf
      refine r_dalVi (pc := 37) (ws' := (wX6_readDream E h h_tape h_names h_sorts h_numbers h_inn h_tape_bytes h_inn_house h_inn_thingIn h_inn_full h_inn_states h_inn_bed h_inn_dreamOf h_inn_listensIn v_named_8 v_fault_23 v_number_23 v_tape_length v_tape_end v_tape_at_23 v_tape_start_23 v_tape_kind_23 v_tape_code_23 v_tape_mayName_23 v_tape_value_23 v_tape_bytes v_names_8 v_inn_minutes v_inn_things v_inn_dreams_8 v_inn_sleepers v_inn_listeners v_sorts_8 v_numbers_8 v_inn_states)) (As := []) (rest := []) C (ctX6_nextAct l E h h_tape h_names h_sorts h_numbers h_inn h_tape_bytes v_named_8 v_fault_23 v_number_23 v_tape_length v_tape_end v_tape_at_23 v_tape_start_23 v_tape_kind_23 v_tape_code_23 v_tape_mayName_23 v_tape_value_23 N r_37 hc_37) ml_X6_210 ⟨Nat.le_of_ble_eq_true rfl, Nat.le_of_ble_eq_true rfl⟩ hP hD hS 0 rfl rfl rfl [0, 1] [8, 9, 2, 3, 4, 5, 6, 7] 8 rfl rfl rfl rfl rfl rfl rfl hl.1 rfl (Nat.le_of_ble_eq_true rfl) ⟨Nat.zero_le _, Nat.zero_le _⟩ dX6_readDream_37 ?_
      clear hP hD hS; intro H locs hP hD hS
      refine lv_istore_n (pc := 40) (lv' := [(3, .int r_37), (2, .int v_number_23), (1, .int v_number_8), (0, .ref h)]) hx hb dX6_readDream_40 rfl hl (by decide) rfl (fun ls hl => ?_)
      refine lv_iload_n (pc := 41) hx hb dX6_readDream_41 rfl (lv_at hl 0 rfl) ?_
      refine lv_iconst (pc := 42) (v := (-1)) hx hb dX6_readDream_42 (by decide) ?_
      refine lv_icmp_ne (pc := 43) (tgt := 52) hx hb dX6_readDream_43 (by decide) (fun c_43 => ?_) (fun c_43 => ?_)
      · replace hf := it_f c_43 hf
        refine lv_aload_n (pc := 52) hx hb dX6_readDream_52 rfl (lv_at hl 3 rfl) ?_
        refine r_get (pc := 53) C hP 0 rfl fl_X6_12 rfl dX6_readDream_53 ?_
        obtain ⟨v_tape_at_56, v_tape_start_56, v_tape_kind_56, v_tape_code_56, v_tape_mayName_56, v_tape_value_56, hc_56, hf⟩ := bd6 hf
        refine r_dalVv (pc := 56) (ws' := (wX6_readDream E h h_tape h_names h_sorts h_numbers h_inn h_tape_bytes h_inn_house h_inn_thingIn h_inn_full h_inn_states h_inn_bed h_inn_dreamOf h_inn_listensIn v_named_8 v_fault_23 v_number_23 v_tape_length v_tape_end v_tape_at_56 v_tape_start_56 v_tape_kind_56 v_tape_code_56 v_tape_mayName_56 v_tape_value_56 v_tape_bytes v_names_8 v_inn_minutes v_inn_things v_inn_dreams_8 v_inn_sleepers v_inn_listeners v_sorts_8 v_numbers_8 v_inn_states)) (As := []) (rest := []) C (ctX7_advance l E h_tape h_tape_bytes v_tape_length v_tape_end v_tape_at_23 v_tape_start_23 v_tape_kind_23 v_tape_code_23 v_tape_mayName_23 v_tape_value_23 v_tape_bytes N (v_tape_at_56, v_tape_start_56, v_tape_kind_56, v_tape_code_56, v_tape_mayName_56, v_tape_value_56) hc_56) ml_X6_57 ⟨Nat.le_of_ble_eq_true rfl, Nat.le_of_ble_eq_true rfl⟩ hP hD hS 1 rfl rfl rfl [1, 2] [0, 8, 9, 3, 4, 5, 6, 7] 8 rfl rfl rfl rfl rfl rfl rfl hl.1 rfl (Nat.le_of_ble_eq_true rfl) ⟨Nat.zero_le _, Nat.zero_le _⟩ dX6_readDream_56 ?_
        clear hP hD hS; intro H locs hP hD hS
        refine lv_iload_n (pc := 59) hx hb dX6_readDream_59 rfl (lv_at hl 0 rfl) ?_
        obtain ⟨r_60, hc_60, hf⟩ := bd1 hf
        refine r_dalSi (pc := 60) (Cn := "") (h := 0) (ws' := (wX6_readDream E h h_tape h_names h_sorts h_numbers h_inn h_tape_bytes h_inn_house h_inn_thingIn h_inn_full h_inn_states h_inn_bed h_inn_dreamOf h_inn_listensIn v_named_8 v_fault_23 v_number_23 v_tape_length v_tape_end v_tape_at_56 v_tape_start_56 v_tape_kind_56 v_tape_code_56 v_tape_mayName_56 v_tape_value_56 v_tape_bytes v_names_8 v_inn_minutes v_inn_things v_inn_dreams_8 v_inn_sleepers v_inn_listeners v_sorts_8 v_numbers_8 v_inn_states)) (As := [.int r_37]) (rest := []) C (ctX6_targetOf l E N r_37 r_60 hc_60) ml_X6_214 ⟨Nat.le_of_ble_eq_true rfl, Nat.le_of_ble_eq_true rfl⟩ hP hD hS [] [0, 1, 2, 3, 4, 5, 6, 7] 8 rfl rfl rfl rfl rfl rfl rfl hl.1 rfl (Nat.le_of_ble_eq_true rfl) ⟨Nat.zero_le _, Nat.zero_le _⟩ dX6_readDream_60 ?_
        clear hP hD hS; intro H locs hP hD hS
        refine lv_istore (pc := 63) (lv' := [(4, .int r_60), (3, .int r_37), (2, .int v_number_23), (1, .int v_number_8), (0, .ref h)]) hx hb dX6_readDream_63 hl (by decide) rfl (fun ls hl => ?_)
        refine lv_iload (pc := 65) hx hb dX6_readDream_65 (lv_at hl 0 rfl) ?_
        refine lv_bipush (pc := 67) (v := (-2)) hx hb dX6_readDream_67 (by decide) ?_
        refine jnK hf (fun j83 ej83 hf => ?_)
        have hj83 : ∀ (x83_fault : Int32) (x83_number : Int32) (x83_tape_at : Int32) (x83_tape_start : Int32) (x83_tape_kind : Int32) (x83_tape_code : Int64) (x83_tape_mayName : Int32) (x83_tape_value : Int32) , j83 (x83_fault, x83_number, x83_tape_at, x83_tape_start, x83_tape_kind, x83_tape_code, x83_tape_mayName, x83_tape_value) = some z → AT p l e (rmOf 3 66) s m args below meth c E A Q 0 0 8 [(0, .ref h), (1, .int v_number_8), (2, .int v_number_23), (3, .int r_37), (4, .int r_60)] (wX6_readDream E h h_tape h_names h_sorts h_numbers h_inn h_tape_bytes h_inn_house h_inn_thingIn h_inn_full h_inn_states h_inn_bed h_inn_dreamOf h_inn_listensIn v_named_8 x83_fault x83_number v_tape_length v_tape_end x83_tape_at x83_tape_start x83_tape_kind x83_tape_code x83_tape_mayName x83_tape_value v_tape_bytes v_names_8 v_inn_minutes v_inn_things v_inn_dreams_8 v_inn_sleepers v_inn_listeners v_sorts_8 v_numbers_8 v_inn_states) 83 [] := by
          intro x83_fault x83_number x83_tape_at x83_tape_start x83_tape_kind x83_tape_code x83_tape_mayName x83_tape_value hf H locs ls hl hP hD hS
          rw [ej83] at hf
          replace hf := un8_s hf
          refine lv_iload (pc := 83) hx hb dX6_readDream_83 (lv_at hl 4 rfl) ?_
          refine lv_bipush (pc := 85) (v := (-2)) hx hb dX6_readDream_85 (by decide) ?_
          refine jnK hf (fun j99 ej99 hf => ?_)
          have hj99 : ∀ (x99_s0 : Int32) , j99 x99_s0 = some z → AT p l e (rmOf 3 66) s m args below meth c E A Q 0 0 8 [(0, .ref h), (1, .int v_number_8), (2, .int v_number_23), (3, .int r_37)] (wX6_readDream E h h_tape h_names h_sorts h_numbers h_inn h_tape_bytes h_inn_house h_inn_thingIn h_inn_full h_inn_states h_inn_bed h_inn_dreamOf h_inn_listensIn v_named_8 x83_fault x83_number v_tape_length v_tape_end x83_tape_at x83_tape_start x83_tape_kind x83_tape_code x83_tape_mayName x83_tape_value v_tape_bytes v_names_8 v_inn_minutes v_inn_things v_inn_dreams_8 v_inn_sleepers v_inn_listeners v_sorts_8 v_numbers_8 v_inn_states) 99 [.int x99_s0] := by
            intro x99_s0 hf H locs ls hl hP hD hS
            rw [ej99] at hf
            replace hf := un1_s hf
            refine lv_istore (pc := 99) (lv' := [(5, .int x99_s0), (0, .ref h), (1, .int v_number_8), (2, .int v_number_23), (3, .int r_37)]) hx hb dX6_readDream_99 hl (by decide) rfl (fun ls hl => ?_)
            refine lv_aload_n (pc := 101) hx hb dX6_readDream_101 rfl (lv_at hl 1 rfl) ?_
            refine r_gets (pc := 102) C (C.kx.1 12 (by decide)).1 hS gs_X6_218 dX6_readDream_102 ?_
            obtain ⟨r_105, v_fault_105, v_tape_at_105, v_tape_start_105, v_tape_kind_105, v_tape_code_105, v_tape_mayName_105, v_tape_value_105, hc_105, hf⟩ := bd8 hf
            refine r_dalVi (pc := 105) (ws' := (wX6_readDream E h h_tape h_names h_sorts h_numbers h_inn h_tape_bytes h_inn_house h_inn_thingIn h_inn_full h_inn_states h_inn_bed h_inn_dreamOf h_inn_listensIn v_named_8 v_fault_105 x83_number v_tape_length v_tape_end v_tape_at_105 v_tape_start_105 v_tape_kind_105 v_tape_code_105 v_tape_mayName_105 v_tape_value_105 v_tape_bytes v_names_8 v_inn_minutes v_inn_things v_inn_dreams_8 v_inn_sleepers v_inn_listeners v_sorts_8 v_numbers_8 v_inn_states)) (As := [.ref (E.2.2.1 12)]) (rest := []) C (ctX6_pass l E h h_tape h_names h_sorts h_numbers h_inn h_tape_bytes v_named_8 x83_fault x83_number v_tape_length v_tape_end x83_tape_at x83_tape_start x83_tape_kind x83_tape_code x83_tape_mayName x83_tape_value v_tape_bytes 12 (by decide) N (r_105, v_fault_105, v_tape_at_105, v_tape_start_105, v_tape_kind_105, v_tape_code_105, v_tape_mayName_105, v_tape_value_105) hc_105) ml_X6_141 ⟨Nat.le_of_ble_eq_true rfl, Nat.le_of_ble_eq_true rfl⟩ hP hD hS 0 rfl rfl rfl [0, 1, 2] [8, 9, 10, 3, 4, 5, 6, 7] 8 rfl rfl rfl rfl rfl rfl rfl hl.1 rfl (Nat.le_of_ble_eq_true rfl) ⟨Nat.zero_le _, Nat.zero_le _⟩ dX6_readDream_105 ?_
            clear hP hD hS; intro H locs hP hD hS
            refine lv_if_eq (pc := 108) (tgt := 120) hx hb dX6_readDream_108 (by decide) (fun c_108 => ?_) (fun c_108 => ?_)
            · replace hf := it_t c_108 hf
              refine lv_iconst (pc := 120) (v := 0) hx hb dX6_readDream_120 (by decide) ?_
              cases hf
              rw [hQ]
              exact r_zret C hr hP hD hS (Or.inl rfl) rfl dX6_readDream_121
            · replace hf := it_f c_108 hf
              refine lv_aload_n (pc := 111) hx hb dX6_readDream_111 rfl (lv_at hl 1 rfl) ?_
              refine lv_iconst (pc := 112) (v := 0) hx hb dX6_readDream_112 (by decide) ?_
              refine lv_iconst (pc := 113) (v := 3) hx hb dX6_readDream_113 (by decide) ?_
              obtain ⟨r_114, v_fault_114, v_number_114, v_tape_at_114, v_tape_start_114, v_tape_kind_114, v_tape_code_114, v_tape_mayName_114, v_tape_value_114, hc_114, hf⟩ := bd9 hf
              refine r_dalVi (pc := 114) (ws' := (wX6_readDream E h h_tape h_names h_sorts h_numbers h_inn h_tape_bytes h_inn_house h_inn_thingIn h_inn_full h_inn_states h_inn_bed h_inn_dreamOf h_inn_listensIn v_named_8 v_fault_114 v_number_114 v_tape_length v_tape_end v_tape_at_114 v_tape_start_114 v_tape_kind_114 v_tape_code_114 v_tape_mayName_114 v_tape_value_114 v_tape_bytes v_names_8 v_inn_minutes v_inn_things v_inn_dreams_8 v_inn_sleepers v_inn_listeners v_sorts_8 v_numbers_8 v_inn_states)) (As := [.int 0, .int 3]) (rest := []) C (ctX6_passWhole l E h h_tape h_names h_sorts h_numbers h_inn h_tape_bytes v_named_8 v_fault_105 x83_number v_tape_length v_tape_end v_tape_at_105 v_tape_start_105 v_tape_kind_105 v_tape_code_105 v_tape_mayName_105 v_tape_value_105 v_tape_bytes N 0 3 (r_114, v_fault_114, v_number_114, v_tape_at_114, v_tape_start_114, v_tape_kind_114, v_tape_code_114, v_tape_mayName_114, v_tape_value_114) hc_114) ml_X6_144 ⟨Nat.le_of_ble_eq_true rfl, Nat.le_of_ble_eq_true rfl⟩ hP hD hS 0 rfl rfl rfl [0, 1, 2] [8, 9, 10, 3, 4, 5, 6, 7] 8 rfl rfl rfl rfl rfl rfl rfl hl.1 rfl (Nat.le_of_ble_eq_true rfl) ⟨Nat.zero_le _, Nat.zero_le _⟩ dX6_readDream_114 ?_
              clear hP hD hS; intro H locs hP hD hS
              refine lv_if_ne (pc := 117) (tgt := 122) hx hb dX6_readDream_117 (by decide) (fun c_117 => ?_) (fun c_117 => ?_)
              · replace hf := it_f c_117 hf
                refine lv_aload_n (pc := 122) hx hb dX6_readDream_122 rfl (lv_at hl 1 rfl) ?_
                refine r_get (pc := 123) C hP 0 rfl fl_X6_148 rfl dX6_readDream_123 ?_
                refine lv_istore (pc := 126) (lv' := [(6, .int v_number_114), (5, .int x99_s0), (0, .ref h), (1, .int v_number_8), (2, .int v_number_23), (3, .int r_37)]) hx hb dX6_readDream_126 hl (by decide) rfl (fun ls hl => ?_)
                refine lv_aload_n (pc := 128) hx hb dX6_readDream_128 rfl (lv_at hl 2 rfl) ?_
                refine r_gets (pc := 129) C (C.kx.1 13 (by decide)).1 hS gs_X6_221 dX6_readDream_129 ?_
                obtain ⟨r_132, v_tape_at_132, v_tape_start_132, v_tape_kind_132, v_tape_code_132, v_tape_mayName_132, v_tape_value_132, hc_132, hf⟩ := bd7 hf
                refine r_dalVi (pc := 132) (ws' := (wX6_readDream E h h_tape h_names h_sorts h_numbers h_inn h_tape_bytes h_inn_house h_inn_thingIn h_inn_full h_inn_states h_inn_bed h_inn_dreamOf h_inn_listensIn v_named_8 v_fault_114 v_number_114 v_tape_length v_tape_end v_tape_at_132 v_tape_start_132 v_tape_kind_132 v_tape_code_132 v_tape_mayName_132 v_tape_value_132 v_tape_bytes v_names_8 v_inn_minutes v_inn_things v_inn_dreams_8 v_inn_sleepers v_inn_listeners v_sorts_8 v_numbers_8 v_inn_states)) (As := [.ref (E.2.2.1 13)]) (rest := []) C (ctX6_passIf l E h h_tape h_names h_sorts h_numbers h_inn h_tape_bytes v_named_8 v_fault_114 v_number_114 v_tape_length v_tape_end v_tape_at_114 v_tape_start_114 v_tape_kind_114 v_tape_code_114 v_tape_mayName_114 v_tape_value_114 v_tape_bytes 13 (by decide) N (r_132, v_tape_at_132, v_tape_start_132, v_tape_kind_132, v_tape_code_132, v_tape_mayName_132, v_tape_value_132) hc_132) ml_X6_160 ⟨Nat.le_of_ble_eq_true rfl, Nat.le_of_ble_eq_true rfl⟩ hP hD hS 0 rfl rfl rfl [0, 1, 2] [8, 9, 10, 3, 4, 5, 6, 7] 8 rfl rfl rfl rfl rfl rfl rfl hl.1 rfl (Nat.le_of_ble_eq_true rfl) ⟨Nat.zero_le _, Nat.zero_le _⟩ dX6_readDream_132 ?_
                clear hP hD hS; intro H locs hP hD hS
                refine lv_istore (pc := 135) (lv' := [(7, .int r_132), (6, .int v_number_114), (5, .int x99_s0), (0, .ref h), (1, .int v_number_8), (2, .int v_number_23), (3, .int r_37)]) hx hb dX6_readDream_135 hl (by decide) rfl (fun ls hl => ?_)
                refine lv_iload (pc := 137) hx hb dX6_readDream_137 (lv_at hl 0 rfl) ?_
                refine jnK hf (fun j153 ej153 hf => ?_)
                have hj153 : ∀ (x153_fault : Int32) (x153_number : Int32) (x153_tape_at : Int32) (x153_tape_start : Int32) (x153_tape_kind : Int32) (x153_tape_code : Int64) (x153_tape_mayName : Int32) (x153_tape_value : Int32) , j153 (x153_fault, x153_number, x153_tape_at, x153_tape_start, x153_tape_kind, x153_tape_code, x153_tape_mayName, x153_tape_value) = some z → AT p l e (rmOf 3 66) s m args below meth c E A Q 0 0 8 [(0, .ref h), (1, .int v_number_8), (2, .int v_number_23), (3, .int r_37), (5, .int x99_s0), (6, .int v_number_114), (7, .int r_132)] (wX6_readDream E h h_tape h_names h_sorts h_numbers h_inn h_tape_bytes h_inn_house h_inn_thingIn h_inn_full h_inn_states h_inn_bed h_inn_dreamOf h_inn_listensIn v_named_8 x153_fault x153_number v_tape_length v_tape_end x153_tape_at x153_tape_start x153_tape_kind x153_tape_code x153_tape_mayName x153_tape_value v_tape_bytes v_names_8 v_inn_minutes v_inn_things v_inn_dreams_8 v_inn_sleepers v_inn_listeners v_sorts_8 v_numbers_8 v_inn_states) 153 [] := by
                  intro x153_fault x153_number x153_tape_at x153_tape_start x153_tape_kind x153_tape_code x153_tape_mayName x153_tape_value hf H locs ls hl hP hD hS
                  rw [ej153] at hf
                  replace hf := un8_s hf
                  refine lv_aload_n (pc := 153) hx hb dX6_readDream_153 rfl (lv_at hl 0 rfl) ?_
                  refine r_get (pc := 154) C hP 0 rfl fl_X6_32 rfl dX6_readDream_154 ?_
                  refine lv_iload_n (pc := 157) hx hb dX6_readDream_157 rfl (lv_at hl 1 rfl) ?_
                  refine lv_iload_n (pc := 158) hx hb dX6_readDream_158 rfl (lv_at hl 2 rfl) ?_
                  refine lv_iload_n (pc := 159) hx hb dX6_readDream_159 rfl (lv_at hl 3 rfl) ?_
                  refine lv_iload (pc := 160) hx hb dX6_readDream_160 (lv_at hl 4 rfl) ?_
                  refine lv_iload (pc := 162) hx hb dX6_readDream_162 (lv_at hl 5 rfl) ?_
                  refine lv_iload (pc := 164) hx hb dX6_readDream_164 (lv_at hl 6 rfl) ?_
                  refine lv_if_eq (pc := 166) (tgt := 176) hx hb dX6_readDream_166 (by decide) (fun c_166 => ?_) (fun c_166 => ?_)
                  · replace hf := it_t c_166 hf
                    refine lv_bipush (pc := 176) (v := (-2)) hx hb dX6_readDream_176 (by decide) ?_
                    obtain ⟨v_inn_states_178, hc_178, hf⟩ := bd1 hf
                    refine r_dalVv (pc := 178) (ws' := (wX6_readDream E h h_tape h_names h_sorts h_numbers h_inn h_tape_bytes h_inn_house h_inn_thingIn h_inn_full h_inn_states h_inn_bed h_inn_dreamOf h_inn_listensIn v_named_8 x153_fault x153_number v_tape_length v_tape_end x153_tape_at x153_tape_start x153_tape_kind x153_tape_code x153_tape_mayName x153_tape_value v_tape_bytes v_names_8 v_inn_minutes v_inn_things v_inn_dreams_8 v_inn_sleepers v_inn_listeners v_sorts_8 v_numbers_8 v_inn_states_178)) (As := [.int v_number_8, .int v_number_23, .int r_37, .int x99_s0, .int v_number_114, .int (-2)]) (rest := []) C (ctX2_tellState l E h_inn h_inn_house h_inn_thingIn h_inn_full h_inn_states h_inn_bed h_inn_dreamOf h_inn_listensIn v_inn_minutes v_inn_things v_inn_dreams_8 v_inn_sleepers v_inn_listeners v_inn_states N v_number_8 v_number_23 r_37 x99_s0 v_number_114 (-2) v_inn_states_178 hc_178) ml_X6_224 ⟨Nat.le_of_ble_eq_true rfl, Nat.le_of_ble_eq_true rfl⟩ hP hD hS 4 rfl rfl rfl [4, 7] [0, 1, 2, 3, 8, 5, 6, 9] 8 rfl rfl rfl rfl rfl rfl rfl hl.1 rfl (Nat.le_of_ble_eq_true rfl) ⟨Nat.zero_le _, Nat.zero_le _⟩ dX6_readDream_178 ?_
                    clear hP hD hS; intro H locs hP hD hS
                    refine lv_iconst (pc := 181) (v := 1) hx hb dX6_readDream_181 (by decide) ?_
                    cases hf
                    rw [hQ]
                    exact r_zret C hr hP hD hS (Or.inr rfl) rfl dX6_readDream_182
                  · replace hf := it_f c_166 hf
                    refine lv_aload_n (pc := 169) hx hb dX6_readDream_169 rfl (lv_at hl 0 rfl) ?_
                    refine r_get (pc := 170) C hP 0 rfl fl_X6_148 rfl dX6_readDream_170 ?_
                    refine lv_goto (pc := 173) (tgt := 178) hx hb dX6_readDream_173 (by decide) ?_
                    obtain ⟨v_inn_states_178, hc_178, hf⟩ := bd1 hf
                    refine r_dalVv (pc := 178) (ws' := (wX6_readDream E h h_tape h_names h_sorts h_numbers h_inn h_tape_bytes h_inn_house h_inn_thingIn h_inn_full h_inn_states h_inn_bed h_inn_dreamOf h_inn_listensIn v_named_8 x153_fault x153_number v_tape_length v_tape_end x153_tape_at x153_tape_start x153_tape_kind x153_tape_code x153_tape_mayName x153_tape_value v_tape_bytes v_names_8 v_inn_minutes v_inn_things v_inn_dreams_8 v_inn_sleepers v_inn_listeners v_sorts_8 v_numbers_8 v_inn_states_178)) (As := [.int v_number_8, .int v_number_23, .int r_37, .int x99_s0, .int v_number_114, .int x153_number]) (rest := []) C (ctX2_tellState l E h_inn h_inn_house h_inn_thingIn h_inn_full h_inn_states h_inn_bed h_inn_dreamOf h_inn_listensIn v_inn_minutes v_inn_things v_inn_dreams_8 v_inn_sleepers v_inn_listeners v_inn_states N v_number_8 v_number_23 r_37 x99_s0 v_number_114 x153_number v_inn_states_178 hc_178) ml_X6_224 ⟨Nat.le_of_ble_eq_true rfl, Nat.le_of_ble_eq_true rfl⟩ hP hD hS 4 rfl rfl rfl [4, 7] [0, 1, 2, 3, 8, 5, 6, 9] 8 rfl rfl rfl rfl rfl rfl rfl hl.1 rfl (Nat.le_of_ble_eq_true rfl) ⟨Nat.zero_le _, Nat.zero_le _⟩ dX6_readDream_178 ?_
                    clear hP hD hS; intro H locs hP hD hS
                    refine lv_iconst (pc := 181) (v := 1) hx hb dX6_readDream_181 (by decide) ?_
                    cases hf
                    rw [hQ]
                    exact r_zret C hr hP hD hS (Or.inr rfl) rfl dX6_readDream_182
                clear ej153
                refine lv_if_eq (pc := 139) (tgt := 153) hx hb dX6_readDream_139 (by decide) (fun c_139 => ?_) (fun c_139 => ?_)
                · replace hf := it_t c_139 hf
                  exact hj153 v_fault_114 v_number_114 v_tape_at_132 v_tape_start_132 v_tape_kind_132 v_tape_code_132 v_tape_mayName_132 v_tape_value_132 hf _ _ _ (lv_sub hl [3, 4, 5, 6, 2, 1, 0] rfl) hP hD hS
                · replace hf := it_f c_139 hf
                  refine lv_aload_n (pc := 142) hx hb dX6_readDream_142 rfl (lv_at hl 3 rfl) ?_
                  refine lv_iconst (pc := 143) (v := 0) hx hb dX6_readDream_143 (by decide) ?_
                  refine lv_iconst (pc := 144) (v := 3) hx hb dX6_readDream_144 (by decide) ?_
                  obtain ⟨r_145, v_fault_145, v_number_145, v_tape_at_145, v_tape_start_145, v_tape_kind_145, v_tape_code_145, v_tape_mayName_145, v_tape_value_145, hc_145, hf⟩ := bd9 hf
                  refine r_dalVi (pc := 145) (ws' := (wX6_readDream E h h_tape h_names h_sorts h_numbers h_inn h_tape_bytes h_inn_house h_inn_thingIn h_inn_full h_inn_states h_inn_bed h_inn_dreamOf h_inn_listensIn v_named_8 v_fault_145 v_number_145 v_tape_length v_tape_end v_tape_at_145 v_tape_start_145 v_tape_kind_145 v_tape_code_145 v_tape_mayName_145 v_tape_value_145 v_tape_bytes v_names_8 v_inn_minutes v_inn_things v_inn_dreams_8 v_inn_sleepers v_inn_listeners v_sorts_8 v_numbers_8 v_inn_states)) (As := [.int 0, .int 3]) (rest := []) C (ctX6_passWhole l E h h_tape h_names h_sorts h_numbers h_inn h_tape_bytes v_named_8 v_fault_114 v_number_114 v_tape_length v_tape_end v_tape_at_132 v_tape_start_132 v_tape_kind_132 v_tape_code_132 v_tape_mayName_132 v_tape_value_132 v_tape_bytes N 0 3 (r_145, v_fault_145, v_number_145, v_tape_at_145, v_tape_start_145, v_tape_kind_145, v_tape_code_145, v_tape_mayName_145, v_tape_value_145) hc_145) ml_X6_144 ⟨Nat.le_of_ble_eq_true rfl, Nat.le_of_ble_eq_true rfl⟩ hP hD hS 0 rfl rfl rfl [0, 1, 2] [8, 9, 10, 3, 4, 5, 6, 7] 8 rfl rfl rfl rfl rfl rfl rfl hl.1 rfl (Nat.le_of_ble_eq_true rfl) ⟨Nat.zero_le _, Nat.zero_le _⟩ dX6_readDream_145 ?_
                  clear hP hD hS; intro H locs hP hD hS
                  refine lv_if_ne (pc := 148) (tgt := 153) hx hb dX6_readDream_148 (by decide) (fun c_148 => ?_) (fun c_148 => ?_)
                  · replace hf := it_f c_148 hf
                    exact hj153 v_fault_145 v_number_145 v_tape_at_145 v_tape_start_145 v_tape_kind_145 v_tape_code_145 v_tape_mayName_145 v_tape_value_145 hf _ _ _ (lv_sub hl [3, 4, 5, 6, 2, 1, 0] rfl) hP hD hS
                  · replace hf := it_t c_148 hf
                    refine lv_iconst (pc := 151) (v := 0) hx hb dX6_readDream_151 (by decide) ?_
                    cases hf
                    rw [hQ]
                    exact r_zret C hr hP hD hS (Or.inl rfl) rfl dX6_readDream_152
              · replace hf := it_t c_117 hf
                refine lv_iconst (pc := 120) (v := 0) hx hb dX6_readDream_120 (by decide) ?_
                cases hf
                rw [hQ]
                exact r_zret C hr hP hD hS (Or.inl rfl) rfl dX6_readDream_121
          clear ej99
          refine lv_icmp_ne (pc := 87) (tgt := 95) hx hb dX6_readDream_87 (by decide) (fun c_87 => ?_) (fun c_87 => ?_)
          · replace hf := it_f c_87 hf
            refine lv_aload_n (pc := 95) hx hb dX6_readDream_95 rfl (lv_at hl 0 rfl) ?_
            refine r_get (pc := 96) C hP 0 rfl fl_X6_148 rfl dX6_readDream_96 ?_
            exact hj99 x83_number hf _ _ _ (lv_sub hl [0, 1, 2, 3] rfl) hP hD hS
          · replace hf := it_t c_87 hf
            refine lv_bipush (pc := 90) (v := (-2)) hx hb dX6_readDream_90 (by decide) ?_
            refine lv_goto (pc := 92) (tgt := 99) hx hb dX6_readDream_92 (by decide) ?_
            exact hj99 (-2) hf _ _ _ (lv_sub hl [0, 1, 2, 3] rfl) hP hD hS
        clear ej83
        refine lv_icmp_eq (pc := 69) (tgt := 83) hx hb dX6_readDream_69 (by decide) (fun c_69 => ?_) (fun c_69 => ?_)
        · replace hf := it_t c_69 hf
          exact hj83 v_fault_23 v_number_23 v_tape_at_56 v_tape_start_56 v_tape_kind_56 v_tape_code_56 v_tape_mayName_56 v_tape_value_56 hf _ _ _ (lv_sub hl [4, 3, 2, 1, 0] rfl) hP hD hS
        · replace hf := it_f c_69 hf
          refine lv_aload_n (pc := 72) hx hb dX6_readDream_72 rfl (lv_at hl 4 rfl) ?_
          refine lv_iload (pc := 73) hx hb dX6_readDream_73 (lv_at hl 0 rfl) ?_
          obtain ⟨r_75, v_fault_75, v_number_75, v_tape_at_75, v_tape_start_75, v_tape_kind_75, v_tape_code_75, v_tape_mayName_75, v_tape_value_75, hc_75, hf⟩ := bd9 hf
          refine r_dalVi (pc := 75) (ws' := (wX6_readDream E h h_tape h_names h_sorts h_numbers h_inn h_tape_bytes h_inn_house h_inn_thingIn h_inn_full h_inn_states h_inn_bed h_inn_dreamOf h_inn_listensIn v_named_8 v_fault_75 v_number_75 v_tape_length v_tape_end v_tape_at_75 v_tape_start_75 v_tape_kind_75 v_tape_code_75 v_tape_mayName_75 v_tape_value_75 v_tape_bytes v_names_8 v_inn_minutes v_inn_things v_inn_dreams_8 v_inn_sleepers v_inn_listeners v_sorts_8 v_numbers_8 v_inn_states)) (As := [.int r_60]) (rest := []) C (ctX6_passName l E h h_tape h_names h_sorts h_numbers h_inn h_tape_bytes v_named_8 v_fault_23 v_number_23 v_tape_length v_tape_end v_tape_at_56 v_tape_start_56 v_tape_kind_56 v_tape_code_56 v_tape_mayName_56 v_tape_value_56 v_names_8 v_sorts_8 v_numbers_8 v_tape_bytes N r_60 (r_75, v_fault_75, v_number_75, v_tape_at_75, v_tape_start_75, v_tape_kind_75, v_tape_code_75, v_tape_mayName_75, v_tape_value_75) hc_75) ml_X6_170 ⟨Nat.le_of_ble_eq_true rfl, Nat.le_of_ble_eq_true rfl⟩ hP hD hS 0 rfl rfl rfl [0, 1, 3, 5, 6, 2] [8, 9, 13, 10, 4, 11, 12, 7] 8 rfl rfl rfl rfl rfl rfl rfl hl.1 rfl (Nat.le_of_ble_eq_true rfl) ⟨Nat.zero_le _, Nat.zero_le _⟩ dX6_readDream_75 ?_
          clear hP hD hS; intro H locs hP hD hS
          refine lv_if_ne (pc := 78) (tgt := 83) hx hb dX6_readDream_78 (by decide) (fun c_78 => ?_) (fun c_78 => ?_)
          · replace hf := it_f c_78 hf
            exact hj83 v_fault_75 v_number_75 v_tape_at_75 v_tape_start_75 v_tape_kind_75 v_tape_code_75 v_tape_mayName_75 v_tape_value_75 hf _ _ _ (lv_sub hl [4, 3, 2, 1, 0] rfl) hP hD hS
          · replace hf := it_t c_78 hf
            refine lv_iconst (pc := 81) (v := 0) hx hb dX6_readDream_81 (by decide) ?_
            cases hf
            rw [hQ]
            exact r_zret C hr hP hD hS (Or.inl rfl) rfl dX6_readDream_82
      · replace hf := it_t c_43 hf
        refine lv_aload_n (pc := 46) hx hb dX6_readDream_46 rfl (lv_at hl 3 rfl) ?_
        refine lv_iconst (pc := 47) (v := 1) hx hb dX6_readDream_47 (by decide) ?_
        obtain ⟨r_48, v_fault_48, hc_48, hf⟩ := bd2 hf
        refine r_dalVi (pc := 48) (ws' := (wX6_readDream E h h_tape h_names h_sorts h_numbers h_inn h_tape_bytes h_inn_house h_inn_thingIn h_inn_full h_inn_states h_inn_bed h_inn_dreamOf h_inn_listensIn v_named_8 v_fault_48 v_number_23 v_tape_length v_tape_end v_tape_at_23 v_tape_start_23 v_tape_kind_23 v_tape_code_23 v_tape_mayName_23 v_tape_value_23 v_tape_bytes v_names_8 v_inn_minutes v_inn_things v_inn_dreams_8 v_inn_sleepers v_inn_listeners v_sorts_8 v_numbers_8 v_inn_states)) (As := [.int 1]) (rest := []) C (ctX6_fail l E h h_tape h_names h_sorts h_numbers h_inn v_named_8 v_fault_23 v_number_23 N 1 (r_48, v_fault_48) hc_48) ml_X6_60 ⟨Nat.le_of_ble_eq_true rfl, Nat.le_of_ble_eq_true rfl⟩ hP hD hS 0 rfl rfl rfl [0] [8, 1, 2, 3, 4, 5, 6, 7] 8 rfl rfl rfl rfl rfl rfl rfl hl.1 rfl (Nat.le_of_ble_eq_true rfl) ⟨Nat.zero_le _, Nat.zero_le _⟩ dX6_readDream_48 ?_
        clear hP hD hS; intro H locs hP hD hS
        obtain ⟨hz_51, hf⟩ := zg_s hf
        cases hf
        rw [hQ]
        exact r_zret C hr hP hD hS hz_51 rfl dX6_readDream_51
    · replace hf := it_t c_26 hf
      refine lv_iconst (pc := 29) (v := 0) hx hb dX6_readDream_29 (by decide) ?_
      cases hf
      rw [hQ]
      exact r_zret C hr hP hD hS (Or.inl rfl) rfl dX6_readDream_30
  · replace hf := it_t c_11 hf
    refine lv_iconst (pc := 14) (v := 0) hx hb dX6_readDream_14 (by decide) ?_
    cases hf
    rw [hQ]
    exact r_zret C hr hP hD hS (Or.inl rfl) rfl dX6_readDream_15
def wX2_addSleeper (E : EN) (h h_house h_thingIn h_full h_states h_bed h_dreamOf h_listensIn : Nat) (v_minutes : Int32) (v_things : Int32) (v_dreams : Int32) (v_sleepers : Int32) (v_listeners : Int32) (v_bed : Nat → Int32) (v_dreamOf : Nat → Int32) : va_W := [(h, .inr (2, [.ref h_house, .int v_minutes, .int v_things, .ref h_thingIn, .ref h_full, .int v_dreams, .ref h_states, .int v_sleepers, .ref h_bed, .ref h_dreamOf, .int v_listeners, .ref h_listensIn])), (h_bed, aI E 3 v_bed), (h_dreamOf, aI E 3 v_dreamOf)]
def fX2_addSleeper (N : Nat) (p0 : Int32) (p1 : Int32) (v_sleepers : Int32) (v_bed : Nat → Int32) (v_dreamOf : Nat → Int32) : Option (Int32 × (Nat → Int32) × (Nat → Int32)) := gd v_sleepers 3 (gd v_sleepers 3 (some (v_sleepers + 1, upd v_bed v_sleepers.toNatClampNeg p0, upd v_dreamOf v_sleepers.toNatClampNeg p1)))
set_option maxHeartbeats 4000000 in
set_option maxRecDepth 100000 in
theorem ctX2_addSleeper (l : Launch) (E : EN) (h h_house h_thingIn h_full h_states h_bed h_dreamOf h_listensIn : Nat) (v_minutes : Int32) (v_things : Int32) (v_dreams : Int32) (v_sleepers : Int32) (v_listeners : Int32) (v_bed : Nat → Int32) (v_dreamOf : Nat → Int32) (N : Nat) (p0 : Int32) (p1 : Int32) (z : Int32 × (Nat → Int32) × (Nat → Int32)) (hf : fX2_addSleeper N p0 p1 v_sleepers v_bed v_dreamOf = some z) : CTv l E yX2_addSleeper cX2_addSleeper 3 0 0 [.ref h, .int p0, .int p1] (wX2_addSleeper E h h_house h_thingIn h_full h_states h_bed h_dreamOf h_listensIn v_minutes v_things v_dreams v_sleepers v_listeners v_bed v_dreamOf) (wX2_addSleeper E h h_house h_thingIn h_full h_states h_bed h_dreamOf h_listensIn v_minutes v_things v_dreams z.1 v_listeners z.2.1 z.2.2) := by
  intro sz
  refine ct_body (by decide) (Nat.le_of_ble_eq_true rfl) ?_
  intro p e s m args below meth c A ls hAe C hr hin hP hD hS hl
  have C : CX p s m args meth c cX2_addSleeper RX2 3 E A := C
  have hl : lv_has ls 3 [(0, .ref h), (1, .int p0), (2, .int p1)] := hl
  have hx := C.1
  have hb := C.2.1
  rw [hAe]
  clear hAe
  obtain ⟨Q, hQ⟩ : ∃ Q, Q = MQ below (Qv E A (wX2_addSleeper E h h_house h_thingIn h_full h_states h_bed h_dreamOf h_listensIn v_minutes v_things v_dreams z.1 v_listeners z.2.1 z.2.2)) args s 0 0 A := ⟨_, rfl⟩
  rw [← hQ]
  unfold fX2_addSleeper at hf
  refine lv_aload_n (pc := 0) hx hb dX2_addSleeper_0 rfl (lv_at hl 0 rfl) ?_
  refine r_get (pc := 1) C hP 0 rfl fl_X2_29 rfl dX2_addSleeper_1 ?_
  refine lv_aload_n (pc := 4) hx hb dX2_addSleeper_4 rfl (lv_at hl 0 rfl) ?_
  refine r_get (pc := 5) C hP 0 rfl fl_X2_60 rfl dX2_addSleeper_5 ?_
  refine lv_iload_n (pc := 8) hx hb dX2_addSleeper_8 rfl (lv_at hl 1 rfl) ?_
  obtain ⟨hi_9, hf⟩ := gd_s hf
  refine r_iast (pc := 9) (ws' := (wX2_addSleeper E h h_house h_thingIn h_full h_states h_bed h_dreamOf h_listensIn v_minutes v_things v_dreams v_sleepers v_listeners (upd v_bed v_sleepers.toNatClampNeg p0) v_dreamOf)) C hP hD hS 1 rfl hi_9 rfl dX2_addSleeper_9 ?_
  clear hP hD hS; intro H locs hP hD hS
  refine lv_aload_n (pc := 10) hx hb dX2_addSleeper_10 rfl (lv_at hl 0 rfl) ?_
  refine r_get (pc := 11) C hP 0 rfl fl_X2_32 rfl dX2_addSleeper_11 ?_
  refine lv_aload_n (pc := 14) hx hb dX2_addSleeper_14 rfl (lv_at hl 0 rfl) ?_
  refine r_get (pc := 15) C hP 0 rfl fl_X2_60 rfl dX2_addSleeper_15 ?_
  refine lv_iload_n (pc := 18) hx hb dX2_addSleeper_18 rfl (lv_at hl 2 rfl) ?_
  obtain ⟨hi_19, hf⟩ := gd_s hf
  refine r_iast (pc := 19) (ws' := (wX2_addSleeper E h h_house h_thingIn h_full h_states h_bed h_dreamOf h_listensIn v_minutes v_things v_dreams v_sleepers v_listeners (upd v_bed v_sleepers.toNatClampNeg p0) (upd v_dreamOf v_sleepers.toNatClampNeg p1))) C hP hD hS 2 rfl hi_19 rfl dX2_addSleeper_19 ?_
  clear hP hD hS; intro H locs hP hD hS
  refine lv_aload_n (pc := 20) hx hb dX2_addSleeper_20 rfl (lv_at hl 0 rfl) ?_
  refine lv_dup (pc := 21) hx hb dX2_addSleeper_21 rfl ?_
  refine r_get (pc := 22) C hP 0 rfl fl_X2_60 rfl dX2_addSleeper_22 ?_
  refine lv_iconst (pc := 25) (v := 1) hx hb dX2_addSleeper_25 (by decide) ?_
  refine lv_iadd (pc := 26) hx hb dX2_addSleeper_26 ?_
  refine r_put (pc := 27) (ws' := (wX2_addSleeper E h h_house h_thingIn h_full h_states h_bed h_dreamOf h_listensIn v_minutes v_things v_dreams (v_sleepers + 1) v_listeners (upd v_bed v_sleepers.toNatClampNeg p0) (upd v_dreamOf v_sleepers.toNatClampNeg p1))) C hP hD hS 0 rfl fl_X2_60 rfl rfl (Nat.le_of_ble_eq_true rfl) rfl dX2_addSleeper_27 ?_
  clear hP hD hS; intro H locs hP hD hS
  cases hf
  rw [hQ]
  exact r_vret C hr hP hD hS dX2_addSleeper_30
def wX6_readSleeper (E : EN) (h h_tape h_names h_sorts h_numbers h_inn h_inn_house h_inn_thingIn h_inn_full h_inn_states h_inn_bed h_inn_dreamOf h_inn_listensIn h_tape_bytes : Nat) (v_named : Int32) (v_fault : Int32) (v_number : Int32) (v_inn_minutes : Int32) (v_inn_things : Int32) (v_inn_dreams : Int32) (v_inn_sleepers : Int32) (v_inn_listeners : Int32) (v_tape_length : Int32) (v_tape_end : Int32) (v_tape_at : Int32) (v_tape_start : Int32) (v_tape_kind : Int32) (v_tape_code : Int64) (v_tape_mayName : Int32) (v_tape_value : Int32) (v_tape_bytes : Nat → Int32) (v_names : Nat → Int64) (v_sorts : Nat → Int32) (v_numbers : Nat → Int32) (v_inn_bed : Nat → Int32) (v_inn_dreamOf : Nat → Int32) : va_W := [(h, .inr (6, [.ref h_tape, .ref h_names, .ref h_sorts, .ref h_numbers, .int v_named, .ref h_inn, .int v_fault, .int v_number])), (h_inn, .inr (2, [.ref h_inn_house, .int v_inn_minutes, .int v_inn_things, .ref h_inn_thingIn, .ref h_inn_full, .int v_inn_dreams, .ref h_inn_states, .int v_inn_sleepers, .ref h_inn_bed, .ref h_inn_dreamOf, .int v_inn_listeners, .ref h_inn_listensIn])), (h_tape, .inr (7, [.ref h_tape_bytes, .int v_tape_length, .int v_tape_end, .int v_tape_at, .int v_tape_start, .int v_tape_kind, .long v_tape_code, .int v_tape_mayName, .int v_tape_value])), (h_tape_bytes, aB E 900 v_tape_bytes), (h_names, aJ E 19 v_names), (h_sorts, aI E 19 v_sorts), (h_numbers, aI E 19 v_numbers), (h_inn_bed, aI E 3 v_inn_bed), (h_inn_dreamOf, aI E 3 v_inn_dreamOf)]
def fX6_readSleeper (N : Nat) (v_named : Int32) (v_fault : Int32) (v_number : Int32) (v_inn_sleepers : Int32) (v_tape_end : Int32) (v_tape_at : Int32) (v_tape_start : Int32) (v_tape_kind : Int32) (v_tape_code : Int64) (v_tape_mayName : Int32) (v_tape_value : Int32) (v_tape_bytes : Nat → Int32) (v_names : Nat → Int64) (v_sorts : Nat → Int32) (v_numbers : Nat → Int32) (v_inn_bed : Nat → Int32) (v_inn_dreamOf : Nat → Int32) : Option (Int32 × Int32 × Int32 × Int32 × Int32 × Int32 × Int32 × Int32 × Int64 × Int32 × Int32 × (Nat → Int64) × (Nat → Int32) × (Nat → Int32) × (Nat → Int32) × (Nat → Int32)) := if v_inn_sleepers < 3 then ((fX7_advance N v_tape_end v_tape_at v_tape_bytes).bind (un6 fun (v_tape_at_21 : Int32) (v_tape_start_21 : Int32) (v_tape_kind_21 : Int32) (v_tape_code_21 : Int64) (v_tape_mayName_21 : Int32) (v_tape_value_21 : Int32) => (fX6_passNew N 3 v_inn_sleepers v_named v_fault v_tape_end v_tape_at_21 v_tape_start_21 v_tape_kind_21 v_tape_code_21 v_tape_mayName_21 v_tape_value_21 v_names v_sorts v_numbers v_tape_bytes).bind (un12 fun (r_33 : Int32) (v_named_33 : Int32) (v_fault_33 : Int32) (v_tape_at_33 : Int32) (v_tape_start_33 : Int32) (v_tape_kind_33 : Int32) (v_tape_code_33 : Int64) (v_tape_mayName_33 : Int32) (v_tape_value_33 : Int32) (v_names_33 : Nat → Int64) (v_sorts_33 : Nat → Int32) (v_numbers_33 : Nat → Int32) => if r_33 = 0 then (some (0, v_named_33, v_fault_33, v_number, v_inn_sleepers, v_tape_at_33, v_tape_start_33, v_tape_kind_33, v_tape_code_33, v_tape_mayName_33, v_tape_value_33, v_names_33, v_sorts_33, v_numbers_33, v_inn_bed, v_inn_dreamOf)) else ((fX6_pass N 22 v_fault_33 v_tape_end v_tape_at_33 v_tape_start_33 v_tape_kind_33 v_tape_code_33 v_tape_mayName_33 v_tape_value_33 v_tape_bytes).bind (un8 fun (r_43 : Int32) (v_fault_43 : Int32) (v_tape_at_43 : Int32) (v_tape_start_43 : Int32) (v_tape_kind_43 : Int32) (v_tape_code_43 : Int64) (v_tape_mayName_43 : Int32) (v_tape_value_43 : Int32) => if r_43 = 0 then (some (0, v_named_33, v_fault_43, v_number, v_inn_sleepers, v_tape_at_43, v_tape_start_43, v_tape_kind_43, v_tape_code_43, v_tape_mayName_43, v_tape_value_43, v_names_33, v_sorts_33, v_numbers_33, v_inn_bed, v_inn_dreamOf)) else ((fX6_passName N 0 v_named_33 v_fault_43 v_number v_tape_end v_tape_at_43 v_tape_start_43 v_tape_kind_43 v_tape_code_43 v_tape_mayName_43 v_tape_value_43 v_names_33 v_sorts_33 v_numbers_33 v_tape_bytes).bind (un9 fun (r_51 : Int32) (v_fault_51 : Int32) (v_number_51 : Int32) (v_tape_at_51 : Int32) (v_tape_start_51 : Int32) (v_tape_kind_51 : Int32) (v_tape_code_51 : Int64) (v_tape_mayName_51 : Int32) (v_tape_value_51 : Int32) => if r_51 = 0 then (some (0, v_named_33, v_fault_51, v_number_51, v_inn_sleepers, v_tape_at_51, v_tape_start_51, v_tape_kind_51, v_tape_code_51, v_tape_mayName_51, v_tape_value_51, v_names_33, v_sorts_33, v_numbers_33, v_inn_bed, v_inn_dreamOf)) else ((fX6_pass N 23 v_fault_51 v_tape_end v_tape_at_51 v_tape_start_51 v_tape_kind_51 v_tape_code_51 v_tape_mayName_51 v_tape_value_51 v_tape_bytes).bind (un8 fun (r_68 : Int32) (v_fault_68 : Int32) (v_tape_at_68 : Int32) (v_tape_start_68 : Int32) (v_tape_kind_68 : Int32) (v_tape_code_68 : Int64) (v_tape_mayName_68 : Int32) (v_tape_value_68 : Int32) => if r_68 = 0 then (some (0, v_named_33, v_fault_68, v_number_51, v_inn_sleepers, v_tape_at_68, v_tape_start_68, v_tape_kind_68, v_tape_code_68, v_tape_mayName_68, v_tape_value_68, v_names_33, v_sorts_33, v_numbers_33, v_inn_bed, v_inn_dreamOf)) else ((fX6_passName N 2 v_named_33 v_fault_68 v_number_51 v_tape_end v_tape_at_68 v_tape_start_68 v_tape_kind_68 v_tape_code_68 v_tape_mayName_68 v_tape_value_68 v_names_33 v_sorts_33 v_numbers_33 v_tape_bytes).bind (un9 fun (r_76 : Int32) (v_fault_76 : Int32) (v_number_76 : Int32) (v_tape_at_76 : Int32) (v_tape_start_76 : Int32) (v_tape_kind_76 : Int32) (v_tape_code_76 : Int64) (v_tape_mayName_76 : Int32) (v_tape_value_76 : Int32) => if r_76 = 0 then (some (0, v_named_33, v_fault_76, v_number_76, v_inn_sleepers, v_tape_at_76, v_tape_start_76, v_tape_kind_76, v_tape_code_76, v_tape_mayName_76, v_tape_value_76, v_names_33, v_sorts_33, v_numbers_33, v_inn_bed, v_inn_dreamOf)) else ((fX2_addSleeper N v_number_51 v_number_76 v_inn_sleepers v_inn_bed v_inn_dreamOf).bind (un3 fun (v_inn_sleepers_93 : Int32) (v_inn_bed_93 : Nat → Int32) (v_inn_dreamOf_93 : Nat → Int32) => some (1, v_named_33, v_fault_76, v_number_76, v_inn_sleepers_93, v_tape_at_76, v_tape_start_76, v_tape_kind_76, v_tape_code_76, v_tape_mayName_76, v_tape_value_76, v_names_33, v_sorts_33, v_numbers_33, v_inn_bed_93, v_inn_dreamOf_93)))))))))))))) else ((fX6_fail N 5).bind (un2 fun (r_13 : Int32) (v_fault_13 : Int32) => zg r_13 (some (r_13, v_named, v_fault_13, v_number, v_inn_sleepers, v_tape_at, v_tape_start, v_tape_kind, v_tape_code, v_tape_mayName, v_tape_value, v_names, v_sorts, v_numbers, v_inn_bed, v_inn_dreamOf))))
set_option maxHeartbeats 4000000 in
set_option maxRecDepth 100000 in
theorem ctX6_readSleeper (l : Launch) (E : EN) (h h_tape h_names h_sorts h_numbers h_inn h_inn_house h_inn_thingIn h_inn_full h_inn_states h_inn_bed h_inn_dreamOf h_inn_listensIn h_tape_bytes : Nat) (v_named : Int32) (v_fault : Int32) (v_number : Int32) (v_inn_minutes : Int32) (v_inn_things : Int32) (v_inn_dreams : Int32) (v_inn_sleepers : Int32) (v_inn_listeners : Int32) (v_tape_length : Int32) (v_tape_end : Int32) (v_tape_at : Int32) (v_tape_start : Int32) (v_tape_kind : Int32) (v_tape_code : Int64) (v_tape_mayName : Int32) (v_tape_value : Int32) (v_tape_bytes : Nat → Int32) (v_names : Nat → Int64) (v_sorts : Nat → Int32) (v_numbers : Nat → Int32) (v_inn_bed : Nat → Int32) (v_inn_dreamOf : Nat → Int32) (N : Nat) (z : Int32 × Int32 × Int32 × Int32 × Int32 × Int32 × Int32 × Int32 × Int64 × Int32 × Int32 × (Nat → Int64) × (Nat → Int32) × (Nat → Int32) × (Nat → Int32) × (Nat → Int32)) (hf : fX6_readSleeper N v_named v_fault v_number v_inn_sleepers v_tape_end v_tape_at v_tape_start v_tape_kind v_tape_code v_tape_mayName v_tape_value v_tape_bytes v_names v_sorts v_numbers v_inn_bed v_inn_dreamOf = some z) : CTi l E yX6_readSleeper cX6_readSleeper 2 .boolean 3 66 [.ref h] (wX6_readSleeper E h h_tape h_names h_sorts h_numbers h_inn h_inn_house h_inn_thingIn h_inn_full h_inn_states h_inn_bed h_inn_dreamOf h_inn_listensIn h_tape_bytes v_named v_fault v_number v_inn_minutes v_inn_things v_inn_dreams v_inn_sleepers v_inn_listeners v_tape_length v_tape_end v_tape_at v_tape_start v_tape_kind v_tape_code v_tape_mayName v_tape_value v_tape_bytes v_names v_sorts v_numbers v_inn_bed v_inn_dreamOf) (z.1) (wX6_readSleeper E h h_tape h_names h_sorts h_numbers h_inn h_inn_house h_inn_thingIn h_inn_full h_inn_states h_inn_bed h_inn_dreamOf h_inn_listensIn h_tape_bytes z.2.1 z.2.2.1 z.2.2.2.1 v_inn_minutes v_inn_things v_inn_dreams z.2.2.2.2.1 v_inn_listeners v_tape_length v_tape_end z.2.2.2.2.2.1 z.2.2.2.2.2.2.1 z.2.2.2.2.2.2.2.1 z.2.2.2.2.2.2.2.2.1 z.2.2.2.2.2.2.2.2.2.1 z.2.2.2.2.2.2.2.2.2.2.1 v_tape_bytes z.2.2.2.2.2.2.2.2.2.2.2.1 z.2.2.2.2.2.2.2.2.2.2.2.2.1 z.2.2.2.2.2.2.2.2.2.2.2.2.2.1 z.2.2.2.2.2.2.2.2.2.2.2.2.2.2.1 z.2.2.2.2.2.2.2.2.2.2.2.2.2.2.2) := by
  intro sz
  refine ct_body (by decide) (Nat.le_of_ble_eq_true rfl) ?_
  intro p e s m args below meth c A ls hAe C hr hin hP hD hS hl
  have C : CX p s m args meth c cX6_readSleeper RX6 2 E A := C
  have hl : lv_has ls 2 [(0, .ref h)] := hl
  have hx := C.1
  have hb := C.2.1
  rw [hAe]
  clear hAe
  obtain ⟨Q, hQ⟩ : ∃ Q, Q = MQ below (Qi E A (z.1) (wX6_readSleeper E h h_tape h_names h_sorts h_numbers h_inn h_inn_house h_inn_thingIn h_inn_full h_inn_states h_inn_bed h_inn_dreamOf h_inn_listensIn h_tape_bytes z.2.1 z.2.2.1 z.2.2.2.1 v_inn_minutes v_inn_things v_inn_dreams z.2.2.2.2.1 v_inn_listeners v_tape_length v_tape_end z.2.2.2.2.2.1 z.2.2.2.2.2.2.1 z.2.2.2.2.2.2.2.1 z.2.2.2.2.2.2.2.2.1 z.2.2.2.2.2.2.2.2.2.1 z.2.2.2.2.2.2.2.2.2.2.1 v_tape_bytes z.2.2.2.2.2.2.2.2.2.2.2.1 z.2.2.2.2.2.2.2.2.2.2.2.2.1 z.2.2.2.2.2.2.2.2.2.2.2.2.2.1 z.2.2.2.2.2.2.2.2.2.2.2.2.2.2.1 z.2.2.2.2.2.2.2.2.2.2.2.2.2.2.2)) args s 0 0 A := ⟨_, rfl⟩
  rw [← hQ]
  unfold fX6_readSleeper at hf
  refine lv_aload_n (pc := 0) hx hb dX6_readSleeper_0 rfl (lv_at hl 0 rfl) ?_
  refine r_get (pc := 1) C hP 0 rfl fl_X6_32 rfl dX6_readSleeper_1 ?_
  refine r_get (pc := 4) C hP 1 rfl fl_X6_76 rfl dX6_readSleeper_4 ?_
  refine lv_iconst (pc := 7) (v := 3) hx hb dX6_readSleeper_7 (by decide) ?_
  refine lv_icmp_lt (pc := 8) (tgt := 17) hx hb dX6_readSleeper_8 (by decide) (fun c_8 => ?_) (fun c_8 => ?_)
  · replace hf := it_t c_8 hf
    refine lv_aload_n (pc := 17) hx hb dX6_readSleeper_17 rfl (lv_at hl 0 rfl) ?_
    refine r_get (pc := 18) C hP 0 rfl fl_X6_12 rfl dX6_readSleeper_18 ?_
    obtain ⟨v_tape_at_21, v_tape_start_21, v_tape_kind_21, v_tape_code_21, v_tape_mayName_21, v_tape_value_21, hc_21, hf⟩ := bd6 hf
    refine r_dalVv (pc := 21) (ws' := (wX6_readSleeper E h h_tape h_names h_sorts h_numbers h_inn h_inn_house h_inn_thingIn h_inn_full h_inn_states h_inn_bed h_inn_dreamOf h_inn_listensIn h_tape_bytes v_named v_fault v_number v_inn_minutes v_inn_things v_inn_dreams v_inn_sleepers v_inn_listeners v_tape_length v_tape_end v_tape_at_21 v_tape_start_21 v_tape_kind_21 v_tape_code_21 v_tape_mayName_21 v_tape_value_21 v_tape_bytes v_names v_sorts v_numbers v_inn_bed v_inn_dreamOf)) (As := []) (rest := []) C (ctX7_advance l E h_tape h_tape_bytes v_tape_length v_tape_end v_tape_at v_tape_start v_tape_kind v_tape_code v_tape_mayName v_tape_value v_tape_bytes N (v_tape_at_21, v_tape_start_21, v_tape_kind_21, v_tape_code_21, v_tape_mayName_21, v_tape_value_21) hc_21) ml_X6_57 ⟨Nat.le_of_ble_eq_true rfl, Nat.le_of_ble_eq_true rfl⟩ hP hD hS 2 rfl rfl rfl [2, 3] [0, 1, 9, 10, 4, 5, 6, 7, 8] 9 rfl rfl rfl rfl rfl rfl rfl hl.1 rfl (Nat.le_of_ble_eq_true rfl) ⟨Nat.zero_le _, Nat.zero_le _⟩ dX6_readSleeper_21 ?_
    clear hP hD hS; intro H locs hP hD hS
    refine lv_aload_n (pc := 24) hx hb dX6_readSleeper_24 rfl (lv_at hl 0 rfl) ?_
    refine lv_iconst (pc := 25) (v := 3) hx hb dX6_readSleeper_25 (by decide) ?_
    refine lv_aload_n (pc := 26) hx hb dX6_readSleeper_26 rfl (lv_at hl 0 rfl) ?_
    refine r_get (pc := 27) C hP 0 rfl fl_X6_32 rfl dX6_readSleeper_27 ?_
    refine r_get (pc := 30) C hP 1 rfl fl_X6_76 rfl dX6_readSleeper_30 ?_
    obtain ⟨r_33, v_named_33, v_fault_33, v_tape_at_33, v_tape_start_33, v_tape_kind_33, v_tape_code_33, v_tape_mayName_33, v_tape_value_33, v_names_33, v_sorts_33, v_numbers_33, hc_33, hf⟩ := bd12 hf
    refine r_dalVi (pc := 33) (ws' := (wX6_readSleeper E h h_tape h_names h_sorts h_numbers h_inn h_inn_house h_inn_thingIn h_inn_full h_inn_states h_inn_bed h_inn_dreamOf h_inn_listensIn h_tape_bytes v_named_33 v_fault_33 v_number v_inn_minutes v_inn_things v_inn_dreams v_inn_sleepers v_inn_listeners v_tape_length v_tape_end v_tape_at_33 v_tape_start_33 v_tape_kind_33 v_tape_code_33 v_tape_mayName_33 v_tape_value_33 v_tape_bytes v_names_33 v_sorts_33 v_numbers_33 v_inn_bed v_inn_dreamOf)) (As := [.int 3, .int v_inn_sleepers]) (rest := []) C (ctX6_passNew l E h h_tape h_names h_sorts h_numbers h_inn h_tape_bytes v_named v_fault v_number v_tape_length v_tape_end v_tape_at_21 v_tape_start_21 v_tape_kind_21 v_tape_code_21 v_tape_mayName_21 v_tape_value_21 v_names v_sorts v_numbers v_tape_bytes N 3 v_inn_sleepers (r_33, v_named_33, v_fault_33, v_tape_at_33, v_tape_start_33, v_tape_kind_33, v_tape_code_33, v_tape_mayName_33, v_tape_value_33, v_names_33, v_sorts_33, v_numbers_33) hc_33) ml_X6_151 ⟨Nat.le_of_ble_eq_true rfl, Nat.le_of_ble_eq_true rfl⟩ hP hD hS 0 rfl rfl rfl [0, 2, 4, 5, 6, 3] [9, 1, 10, 14, 11, 12, 13, 7, 8] 9 rfl rfl rfl rfl rfl rfl rfl hl.1 rfl (Nat.le_of_ble_eq_true rfl) ⟨Nat.zero_le _, Nat.zero_le _⟩ dX6_readSleeper_33 ?_
    clear hP hD hS; intro H locs hP hD hS
    refine lv_if_eq (pc := 36) (tgt := 57) hx hb dX6_readSleeper_36 (by decide) (fun c_36 => ?_) (fun c_36 => ?_)
    · replace hf := it_t c_36 hf
      refine lv_iconst (pc := 57) (v := 0) hx hb dX6_readSleeper_57 (by decide) ?_
      cases hf
      rw [hQ]
      exact r_zret C hr hP hD hS (Or.inl rfl) rfl dX6_readSleeper_58
    · replace hf := it_f c_36 hf
      refine lv_aload_n (pc := 39) hx hb dX6_readSleeper_39 rfl (lv_at hl 0 rfl) ?_
      refine r_gets (pc := 40) C (C.kx.1 22 (by decide)).1 hS gs_X6_228 dX6_readSleeper_40 ?_
      obtain ⟨r_43, v_fault_43, v_tape_at_43, v_tape_start_43, v_tape_kind_43, v_tape_code_43, v_tape_mayName_43, v_tape_value_43, hc_43, hf⟩ := bd8 hf
      refine r_dalVi (pc := 43) (ws' := (wX6_readSleeper E h h_tape h_names h_sorts h_numbers h_inn h_inn_house h_inn_thingIn h_inn_full h_inn_states h_inn_bed h_inn_dreamOf h_inn_listensIn h_tape_bytes v_named_33 v_fault_43 v_number v_inn_minutes v_inn_things v_inn_dreams v_inn_sleepers v_inn_listeners v_tape_length v_tape_end v_tape_at_43 v_tape_start_43 v_tape_kind_43 v_tape_code_43 v_tape_mayName_43 v_tape_value_43 v_tape_bytes v_names_33 v_sorts_33 v_numbers_33 v_inn_bed v_inn_dreamOf)) (As := [.ref (E.2.2.1 22)]) (rest := []) C (ctX6_pass l E h h_tape h_names h_sorts h_numbers h_inn h_tape_bytes v_named_33 v_fault_33 v_number v_tape_length v_tape_end v_tape_at_33 v_tape_start_33 v_tape_kind_33 v_tape_code_33 v_tape_mayName_33 v_tape_value_33 v_tape_bytes 22 (by decide) N (r_43, v_fault_43, v_tape_at_43, v_tape_start_43, v_tape_kind_43, v_tape_code_43, v_tape_mayName_43, v_tape_value_43) hc_43) ml_X6_141 ⟨Nat.le_of_ble_eq_true rfl, Nat.le_of_ble_eq_true rfl⟩ hP hD hS 0 rfl rfl rfl [0, 2, 3] [9, 1, 10, 11, 4, 5, 6, 7, 8] 9 rfl rfl rfl rfl rfl rfl rfl hl.1 rfl (Nat.le_of_ble_eq_true rfl) ⟨Nat.zero_le _, Nat.zero_le _⟩ dX6_readSleeper_43 ?_
      clear hP hD hS; intro H locs hP hD hS
      refine lv_if_eq (pc := 46) (tgt := 57) hx hb dX6_readSleeper_46 (by decide) (fun c_46 => ?_) (fun c_46 => ?_)
      · replace hf := it_t c_46 hf
        refine lv_iconst (pc := 57) (v := 0) hx hb dX6_readSleeper_57 (by decide) ?_
        cases hf
        rw [hQ]
        exact r_zret C hr hP hD hS (Or.inl rfl) rfl dX6_readSleeper_58
      · replace hf := it_f c_46 hf
        refine lv_aload_n (pc := 49) hx hb dX6_readSleeper_49 rfl (lv_at hl 0 rfl) ?_
        refine lv_iconst (pc := 50) (v := 0) hx hb dX6_readSleeper_50 (by decide) ?_
        obtain ⟨r_51, v_fault_51, v_number_51, v_tape_at_51, v_tape_start_51, v_tape_kind_51, v_tape_code_51, v_tape_mayName_51, v_tape_value_51, hc_51, hf⟩ := bd9 hf
        refine r_dalVi (pc := 51) (ws' := (wX6_readSleeper E h h_tape h_names h_sorts h_numbers h_inn h_inn_house h_inn_thingIn h_inn_full h_inn_states h_inn_bed h_inn_dreamOf h_inn_listensIn h_tape_bytes v_named_33 v_fault_51 v_number_51 v_inn_minutes v_inn_things v_inn_dreams v_inn_sleepers v_inn_listeners v_tape_length v_tape_end v_tape_at_51 v_tape_start_51 v_tape_kind_51 v_tape_code_51 v_tape_mayName_51 v_tape_value_51 v_tape_bytes v_names_33 v_sorts_33 v_numbers_33 v_inn_bed v_inn_dreamOf)) (As := [.int 0]) (rest := []) C (ctX6_passName l E h h_tape h_names h_sorts h_numbers h_inn h_tape_bytes v_named_33 v_fault_43 v_number v_tape_length v_tape_end v_tape_at_43 v_tape_start_43 v_tape_kind_43 v_tape_code_43 v_tape_mayName_43 v_tape_value_43 v_names_33 v_sorts_33 v_numbers_33 v_tape_bytes N 0 (r_51, v_fault_51, v_number_51, v_tape_at_51, v_tape_start_51, v_tape_kind_51, v_tape_code_51, v_tape_mayName_51, v_tape_value_51) hc_51) ml_X6_170 ⟨Nat.le_of_ble_eq_true rfl, Nat.le_of_ble_eq_true rfl⟩ hP hD hS 0 rfl rfl rfl [0, 2, 4, 5, 6, 3] [9, 1, 10, 14, 11, 12, 13, 7, 8] 9 rfl rfl rfl rfl rfl rfl rfl hl.1 rfl (Nat.le_of_ble_eq_true rfl) ⟨Nat.zero_le _, Nat.zero_le _⟩ dX6_readSleeper_51 ?_
        clear hP hD hS; intro H locs hP hD hS
        refine lv_if_ne (pc := 54) (tgt := 59) hx hb dX6_readSleeper_54 (by decide) (fun c_54 => ?_) (fun c_54 => ?_)
        · replace hf := it_f c_54 hf
          refine lv_aload_n (pc := 59) hx hb dX6_readSleeper_59 rfl (lv_at hl 0 rfl) ?_
          refine r_get (pc := 60) C hP 0 rfl fl_X6_148 rfl dX6_readSleeper_60 ?_
          refine lv_istore_n (pc := 63) (lv' := [(1, .int v_number_51), (0, .ref h)]) hx hb dX6_readSleeper_63 rfl hl (by decide) rfl (fun ls hl => ?_)
          refine lv_aload_n (pc := 64) hx hb dX6_readSleeper_64 rfl (lv_at hl 1 rfl) ?_
          refine r_gets (pc := 65) C (C.kx.1 23 (by decide)).1 hS gs_X6_231 dX6_readSleeper_65 ?_
          obtain ⟨r_68, v_fault_68, v_tape_at_68, v_tape_start_68, v_tape_kind_68, v_tape_code_68, v_tape_mayName_68, v_tape_value_68, hc_68, hf⟩ := bd8 hf
          refine r_dalVi (pc := 68) (ws' := (wX6_readSleeper E h h_tape h_names h_sorts h_numbers h_inn h_inn_house h_inn_thingIn h_inn_full h_inn_states h_inn_bed h_inn_dreamOf h_inn_listensIn h_tape_bytes v_named_33 v_fault_68 v_number_51 v_inn_minutes v_inn_things v_inn_dreams v_inn_sleepers v_inn_listeners v_tape_length v_tape_end v_tape_at_68 v_tape_start_68 v_tape_kind_68 v_tape_code_68 v_tape_mayName_68 v_tape_value_68 v_tape_bytes v_names_33 v_sorts_33 v_numbers_33 v_inn_bed v_inn_dreamOf)) (As := [.ref (E.2.2.1 23)]) (rest := []) C (ctX6_pass l E h h_tape h_names h_sorts h_numbers h_inn h_tape_bytes v_named_33 v_fault_51 v_number_51 v_tape_length v_tape_end v_tape_at_51 v_tape_start_51 v_tape_kind_51 v_tape_code_51 v_tape_mayName_51 v_tape_value_51 v_tape_bytes 23 (by decide) N (r_68, v_fault_68, v_tape_at_68, v_tape_start_68, v_tape_kind_68, v_tape_code_68, v_tape_mayName_68, v_tape_value_68) hc_68) ml_X6_141 ⟨Nat.le_of_ble_eq_true rfl, Nat.le_of_ble_eq_true rfl⟩ hP hD hS 0 rfl rfl rfl [0, 2, 3] [9, 1, 10, 11, 4, 5, 6, 7, 8] 9 rfl rfl rfl rfl rfl rfl rfl hl.1 rfl (Nat.le_of_ble_eq_true rfl) ⟨Nat.zero_le _, Nat.zero_le _⟩ dX6_readSleeper_68 ?_
          clear hP hD hS; intro H locs hP hD hS
          refine lv_if_eq (pc := 71) (tgt := 82) hx hb dX6_readSleeper_71 (by decide) (fun c_71 => ?_) (fun c_71 => ?_)
          · replace hf := it_t c_71 hf
            refine lv_iconst (pc := 82) (v := 0) hx hb dX6_readSleeper_82 (by decide) ?_
            cases hf
            rw [hQ]
            exact r_zret C hr hP hD hS (Or.inl rfl) rfl dX6_readSleeper_83
          · replace hf := it_f c_71 hf
            refine lv_aload_n (pc := 74) hx hb dX6_readSleeper_74 rfl (lv_at hl 1 rfl) ?_
            refine lv_iconst (pc := 75) (v := 2) hx hb dX6_readSleeper_75 (by decide) ?_
            obtain ⟨r_76, v_fault_76, v_number_76, v_tape_at_76, v_tape_start_76, v_tape_kind_76, v_tape_code_76, v_tape_mayName_76, v_tape_value_76, hc_76, hf⟩ := bd9 hf
            refine r_dalVi (pc := 76) (ws' := (wX6_readSleeper E h h_tape h_names h_sorts h_numbers h_inn h_inn_house h_inn_thingIn h_inn_full h_inn_states h_inn_bed h_inn_dreamOf h_inn_listensIn h_tape_bytes v_named_33 v_fault_76 v_number_76 v_inn_minutes v_inn_things v_inn_dreams v_inn_sleepers v_inn_listeners v_tape_length v_tape_end v_tape_at_76 v_tape_start_76 v_tape_kind_76 v_tape_code_76 v_tape_mayName_76 v_tape_value_76 v_tape_bytes v_names_33 v_sorts_33 v_numbers_33 v_inn_bed v_inn_dreamOf)) (As := [.int 2]) (rest := []) C (ctX6_passName l E h h_tape h_names h_sorts h_numbers h_inn h_tape_bytes v_named_33 v_fault_68 v_number_51 v_tape_length v_tape_end v_tape_at_68 v_tape_start_68 v_tape_kind_68 v_tape_code_68 v_tape_mayName_68 v_tape_value_68 v_names_33 v_sorts_33 v_numbers_33 v_tape_bytes N 2 (r_76, v_fault_76, v_number_76, v_tape_at_76, v_tape_start_76, v_tape_kind_76, v_tape_code_76, v_tape_mayName_76, v_tape_value_76) hc_76) ml_X6_170 ⟨Nat.le_of_ble_eq_true rfl, Nat.le_of_ble_eq_true rfl⟩ hP hD hS 0 rfl rfl rfl [0, 2, 4, 5, 6, 3] [9, 1, 10, 14, 11, 12, 13, 7, 8] 9 rfl rfl rfl rfl rfl rfl rfl hl.1 rfl (Nat.le_of_ble_eq_true rfl) ⟨Nat.zero_le _, Nat.zero_le _⟩ dX6_readSleeper_76 ?_
            clear hP hD hS; intro H locs hP hD hS
            refine lv_if_ne (pc := 79) (tgt := 84) hx hb dX6_readSleeper_79 (by decide) (fun c_79 => ?_) (fun c_79 => ?_)
            · replace hf := it_f c_79 hf
              refine lv_aload_n (pc := 84) hx hb dX6_readSleeper_84 rfl (lv_at hl 1 rfl) ?_
              refine r_get (pc := 85) C hP 0 rfl fl_X6_32 rfl dX6_readSleeper_85 ?_
              refine lv_iload_n (pc := 88) hx hb dX6_readSleeper_88 rfl (lv_at hl 0 rfl) ?_
              refine lv_aload_n (pc := 89) hx hb dX6_readSleeper_89 rfl (lv_at hl 1 rfl) ?_
              refine r_get (pc := 90) C hP 0 rfl fl_X6_148 rfl dX6_readSleeper_90 ?_
              obtain ⟨v_inn_sleepers_93, v_inn_bed_93, v_inn_dreamOf_93, hc_93, hf⟩ := bd3 hf
              refine r_dalVv (pc := 93) (ws' := (wX6_readSleeper E h h_tape h_names h_sorts h_numbers h_inn h_inn_house h_inn_thingIn h_inn_full h_inn_states h_inn_bed h_inn_dreamOf h_inn_listensIn h_tape_bytes v_named_33 v_fault_76 v_number_76 v_inn_minutes v_inn_things v_inn_dreams v_inn_sleepers_93 v_inn_listeners v_tape_length v_tape_end v_tape_at_76 v_tape_start_76 v_tape_kind_76 v_tape_code_76 v_tape_mayName_76 v_tape_value_76 v_tape_bytes v_names_33 v_sorts_33 v_numbers_33 v_inn_bed_93 v_inn_dreamOf_93)) (As := [.int v_number_51, .int v_number_76]) (rest := []) C (ctX2_addSleeper l E h_inn h_inn_house h_inn_thingIn h_inn_full h_inn_states h_inn_bed h_inn_dreamOf h_inn_listensIn v_inn_minutes v_inn_things v_inn_dreams v_inn_sleepers v_inn_listeners v_inn_bed v_inn_dreamOf N v_number_51 v_number_76 (v_inn_sleepers_93, v_inn_bed_93, v_inn_dreamOf_93) hc_93) ml_X6_234 ⟨Nat.le_of_ble_eq_true rfl, Nat.le_of_ble_eq_true rfl⟩ hP hD hS 1 rfl rfl rfl [1, 7, 8] [0, 9, 2, 3, 4, 5, 6, 10, 11] 9 rfl rfl rfl rfl rfl rfl rfl hl.1 rfl (Nat.le_of_ble_eq_true rfl) ⟨Nat.zero_le _, Nat.zero_le _⟩ dX6_readSleeper_93 ?_
              clear hP hD hS; intro H locs hP hD hS
              refine lv_iconst (pc := 96) (v := 1) hx hb dX6_readSleeper_96 (by decide) ?_
              cases hf
              rw [hQ]
              exact r_zret C hr hP hD hS (Or.inr rfl) rfl dX6_readSleeper_97
            · replace hf := it_t c_79 hf
              refine lv_iconst (pc := 82) (v := 0) hx hb dX6_readSleeper_82 (by decide) ?_
              cases hf
              rw [hQ]
              exact r_zret C hr hP hD hS (Or.inl rfl) rfl dX6_readSleeper_83
        · replace hf := it_t c_54 hf
          refine lv_iconst (pc := 57) (v := 0) hx hb dX6_readSleeper_57 (by decide) ?_
          cases hf
          rw [hQ]
          exact r_zret C hr hP hD hS (Or.inl rfl) rfl dX6_readSleeper_58
  · replace hf := it_f c_8 hf
    refine lv_aload_n (pc := 11) hx hb dX6_readSleeper_11 rfl (lv_at hl 0 rfl) ?_
    refine lv_iconst (pc := 12) (v := 5) hx hb dX6_readSleeper_12 (by decide) ?_
    obtain ⟨r_13, v_fault_13, hc_13, hf⟩ := bd2 hf
    refine r_dalVi (pc := 13) (ws' := (wX6_readSleeper E h h_tape h_names h_sorts h_numbers h_inn h_inn_house h_inn_thingIn h_inn_full h_inn_states h_inn_bed h_inn_dreamOf h_inn_listensIn h_tape_bytes v_named v_fault_13 v_number v_inn_minutes v_inn_things v_inn_dreams v_inn_sleepers v_inn_listeners v_tape_length v_tape_end v_tape_at v_tape_start v_tape_kind v_tape_code v_tape_mayName v_tape_value v_tape_bytes v_names v_sorts v_numbers v_inn_bed v_inn_dreamOf)) (As := [.int 5]) (rest := []) C (ctX6_fail l E h h_tape h_names h_sorts h_numbers h_inn v_named v_fault v_number N 5 (r_13, v_fault_13) hc_13) ml_X6_60 ⟨Nat.le_of_ble_eq_true rfl, Nat.le_of_ble_eq_true rfl⟩ hP hD hS 0 rfl rfl rfl [0] [9, 1, 2, 3, 4, 5, 6, 7, 8] 9 rfl rfl rfl rfl rfl rfl rfl hl.1 rfl (Nat.le_of_ble_eq_true rfl) ⟨Nat.zero_le _, Nat.zero_le _⟩ dX6_readSleeper_13 ?_
    clear hP hD hS; intro H locs hP hD hS
    obtain ⟨hz_16, hf⟩ := zg_s hf
    cases hf
    rw [hQ]
    exact r_zret C hr hP hD hS hz_16 rfl dX6_readSleeper_16
def wX2_isListening (E : EN) (h h_house h_thingIn h_full h_states h_bed h_dreamOf h_listensIn : Nat) (v_minutes : Int32) (v_things : Int32) (v_dreams : Int32) (v_sleepers : Int32) (v_listeners : Int32) (v_listensIn : Nat → Int32) : va_W := [(h, .inr (2, [.ref h_house, .int v_minutes, .int v_things, .ref h_thingIn, .ref h_full, .int v_dreams, .ref h_states, .int v_sleepers, .ref h_bed, .ref h_dreamOf, .int v_listeners, .ref h_listensIn])), (h_listensIn, aI E 3 v_listensIn)]
def BX2_isListening_2 (v_listeners : Int32) (v_listensIn : Nat → Int32) (p0 : Int32) (rec2 : (Int32) → Option Int32) : (Int32) → Option Int32 := un1 fun (x2_2 : Int32) => if v_listeners ≤ x2_2 then (some 0) else (gd x2_2 3 (if (v_listensIn x2_2.toNatClampNeg) = p0 then (some 1) else (rec2 (x2_2 + 1))))
def fX2_isListening (N : Nat) (p0 : Int32) (v_listeners : Int32) (v_listensIn : Nat → Int32) : Option Int32 := lp (BX2_isListening_2 v_listeners v_listensIn p0) N 0
set_option maxHeartbeats 4000000 in
set_option maxRecDepth 100000 in
theorem ctX2_isListening (l : Launch) (E : EN) (h h_house h_thingIn h_full h_states h_bed h_dreamOf h_listensIn : Nat) (v_minutes : Int32) (v_things : Int32) (v_dreams : Int32) (v_sleepers : Int32) (v_listeners : Int32) (v_listensIn : Nat → Int32) (N : Nat) (p0 : Int32) (z : Int32) (hf : fX2_isListening N p0 v_listeners v_listensIn = some z) : CTi l E yX2_isListening cX2_isListening 3 .boolean 0 0 [.ref h, .int p0] (wX2_isListening E h h_house h_thingIn h_full h_states h_bed h_dreamOf h_listensIn v_minutes v_things v_dreams v_sleepers v_listeners v_listensIn) (z) (wX2_isListening E h h_house h_thingIn h_full h_states h_bed h_dreamOf h_listensIn v_minutes v_things v_dreams v_sleepers v_listeners v_listensIn) := by
  intro sz
  refine ct_body (by decide) (Nat.le_of_ble_eq_true rfl) ?_
  intro p e s m args below meth c A ls hAe C hr hin hP hD hS hl
  have C : CX p s m args meth c cX2_isListening RX2 3 E A := C
  have hl : lv_has ls 3 [(0, .ref h), (1, .int p0)] := hl
  have hx := C.1
  have hb := C.2.1
  rw [hAe]
  clear hAe
  obtain ⟨Q, hQ⟩ : ∃ Q, Q = MQ below (Qi E A (z) (wX2_isListening E h h_house h_thingIn h_full h_states h_bed h_dreamOf h_listensIn v_minutes v_things v_dreams v_sleepers v_listeners v_listensIn)) args s 0 0 A := ⟨_, rfl⟩
  rw [← hQ]
  unfold fX2_isListening at hf
  refine lv_iconst (pc := 0) (v := 0) hx hb dX2_isListening_0 (by decide) ?_
  refine lv_istore_n (pc := 1) (lv' := [(2, .int 0), (0, .ref h), (1, .int p0)]) hx hb dX2_isListening_1 rfl hl (by decide) rfl (fun ls hl => ?_)
  have key2 : ∀ (n : Nat) (x2_2 : Int32) , lp (BX2_isListening_2 v_listeners v_listensIn p0) n x2_2 = some z → AT p l e (rmOf 0 0) s m args below meth c E A Q 0 0 3 [(0, .ref h), (1, .int p0), (2, .int x2_2)] (wX2_isListening E h h_house h_thingIn h_full h_states h_bed h_dreamOf h_listensIn v_minutes v_things v_dreams v_sleepers v_listeners v_listensIn) 2 [] := by
    intro n
    induction n with
    | zero => intro x2_2 hf; exact (lp_0 hf).elim
    | succ n ih2 =>
      intro x2_2 hf H locs ls hl hP hD hS
      replace hf := lp_s hf
      generalize lp (BX2_isListening_2 v_listeners v_listensIn p0) n = rec2 at ih2 hf
      unfold BX2_isListening_2 at hf
      replace hf := un1_s hf
      refine lv_iload_n (pc := 2) hx hb dX2_isListening_2 rfl (lv_at hl 2 rfl) ?_
      refine lv_aload_n (pc := 3) hx hb dX2_isListening_3 rfl (lv_at hl 0 rfl) ?_
      refine r_get (pc := 4) C hP 0 rfl fl_X2_63 rfl dX2_isListening_4 ?_
      refine lv_icmp_ge (pc := 7) (tgt := 28) hx hb dX2_isListening_7 (by decide) (fun c_7 => ?_) (fun c_7 => ?_)
      · replace hf := it_t c_7 hf
        refine lv_iconst (pc := 28) (v := 0) hx hb dX2_isListening_28 (by decide) ?_
        cases hf
        rw [hQ]
        exact r_zret C hr hP hD hS (Or.inl rfl) rfl dX2_isListening_29
      · replace hf := it_f c_7 hf
        refine lv_aload_n (pc := 10) hx hb dX2_isListening_10 rfl (lv_at hl 0 rfl) ?_
        refine r_get (pc := 11) C hP 0 rfl fl_X2_35 rfl dX2_isListening_11 ?_
        refine lv_iload_n (pc := 14) hx hb dX2_isListening_14 rfl (lv_at hl 2 rfl) ?_
        obtain ⟨hi_15, hf⟩ := gd_s hf
        refine r_iald (pc := 15) C hP 1 rfl hi_15 dX2_isListening_15 ?_
        refine lv_iload_n (pc := 16) hx hb dX2_isListening_16 rfl (lv_at hl 1 rfl) ?_
        refine lv_icmp_ne (pc := 17) (tgt := 22) hx hb dX2_isListening_17 (by decide) (fun c_17 => ?_) (fun c_17 => ?_)
        · replace hf := it_f c_17 hf
          refine lv_iinc (pc := 22) (v := x2_2 + 1) (lv' := [(2, .int (x2_2 + 1)), (0, .ref h), (1, .int p0)]) hx hb dX2_isListening_22 hl (k := 2) rfl rfl (by decide) rfl (fun ls hl => ?_)
          refine lv_goto (pc := 25) (tgt := 2) hx hb dX2_isListening_25 (by decide) ?_
          exact ih2 (x2_2 + 1) hf _ _ _ (lv_sub hl [1, 2, 0] rfl) hP hD hS
        · replace hf := it_t c_17 hf
          refine lv_iconst (pc := 20) (v := 1) hx hb dX2_isListening_20 (by decide) ?_
          cases hf
          rw [hQ]
          exact r_zret C hr hP hD hS (Or.inr rfl) rfl dX2_isListening_21
  exact key2 _ 0 hf _ _ _ (lv_sub hl [1, 2, 0] rfl) hP hD hS
def wX2_addListener (E : EN) (h h_house h_thingIn h_full h_states h_bed h_dreamOf h_listensIn : Nat) (v_minutes : Int32) (v_things : Int32) (v_dreams : Int32) (v_sleepers : Int32) (v_listeners : Int32) (v_listensIn : Nat → Int32) : va_W := [(h, .inr (2, [.ref h_house, .int v_minutes, .int v_things, .ref h_thingIn, .ref h_full, .int v_dreams, .ref h_states, .int v_sleepers, .ref h_bed, .ref h_dreamOf, .int v_listeners, .ref h_listensIn])), (h_listensIn, aI E 3 v_listensIn)]
def fX2_addListener (N : Nat) (p0 : Int32) (v_listeners : Int32) (v_listensIn : Nat → Int32) : Option (Int32 × (Nat → Int32)) := gd v_listeners 3 (some (v_listeners + 1, upd v_listensIn v_listeners.toNatClampNeg p0))
set_option maxHeartbeats 4000000 in
set_option maxRecDepth 100000 in
theorem ctX2_addListener (l : Launch) (E : EN) (h h_house h_thingIn h_full h_states h_bed h_dreamOf h_listensIn : Nat) (v_minutes : Int32) (v_things : Int32) (v_dreams : Int32) (v_sleepers : Int32) (v_listeners : Int32) (v_listensIn : Nat → Int32) (N : Nat) (p0 : Int32) (z : Int32 × (Nat → Int32)) (hf : fX2_addListener N p0 v_listeners v_listensIn = some z) : CTv l E yX2_addListener cX2_addListener 2 0 0 [.ref h, .int p0] (wX2_addListener E h h_house h_thingIn h_full h_states h_bed h_dreamOf h_listensIn v_minutes v_things v_dreams v_sleepers v_listeners v_listensIn) (wX2_addListener E h h_house h_thingIn h_full h_states h_bed h_dreamOf h_listensIn v_minutes v_things v_dreams v_sleepers z.1 z.2) := by
  intro sz
  refine ct_body (by decide) (Nat.le_of_ble_eq_true rfl) ?_
  intro p e s m args below meth c A ls hAe C hr hin hP hD hS hl
  have C : CX p s m args meth c cX2_addListener RX2 2 E A := C
  have hl : lv_has ls 2 [(0, .ref h), (1, .int p0)] := hl
  have hx := C.1
  have hb := C.2.1
  rw [hAe]
  clear hAe
  obtain ⟨Q, hQ⟩ : ∃ Q, Q = MQ below (Qv E A (wX2_addListener E h h_house h_thingIn h_full h_states h_bed h_dreamOf h_listensIn v_minutes v_things v_dreams v_sleepers z.1 z.2)) args s 0 0 A := ⟨_, rfl⟩
  rw [← hQ]
  unfold fX2_addListener at hf
  refine lv_aload_n (pc := 0) hx hb dX2_addListener_0 rfl (lv_at hl 0 rfl) ?_
  refine r_get (pc := 1) C hP 0 rfl fl_X2_35 rfl dX2_addListener_1 ?_
  refine lv_aload_n (pc := 4) hx hb dX2_addListener_4 rfl (lv_at hl 0 rfl) ?_
  refine r_get (pc := 5) C hP 0 rfl fl_X2_63 rfl dX2_addListener_5 ?_
  refine lv_iload_n (pc := 8) hx hb dX2_addListener_8 rfl (lv_at hl 1 rfl) ?_
  obtain ⟨hi_9, hf⟩ := gd_s hf
  refine r_iast (pc := 9) (ws' := (wX2_addListener E h h_house h_thingIn h_full h_states h_bed h_dreamOf h_listensIn v_minutes v_things v_dreams v_sleepers v_listeners (upd v_listensIn v_listeners.toNatClampNeg p0))) C hP hD hS 1 rfl hi_9 rfl dX2_addListener_9 ?_
  clear hP hD hS; intro H locs hP hD hS
  refine lv_aload_n (pc := 10) hx hb dX2_addListener_10 rfl (lv_at hl 0 rfl) ?_
  refine lv_dup (pc := 11) hx hb dX2_addListener_11 rfl ?_
  refine r_get (pc := 12) C hP 0 rfl fl_X2_63 rfl dX2_addListener_12 ?_
  refine lv_iconst (pc := 15) (v := 1) hx hb dX2_addListener_15 (by decide) ?_
  refine lv_iadd (pc := 16) hx hb dX2_addListener_16 ?_
  refine r_put (pc := 17) (ws' := (wX2_addListener E h h_house h_thingIn h_full h_states h_bed h_dreamOf h_listensIn v_minutes v_things v_dreams v_sleepers (v_listeners + 1) (upd v_listensIn v_listeners.toNatClampNeg p0))) C hP hD hS 0 rfl fl_X2_63 rfl rfl (Nat.le_of_ble_eq_true rfl) rfl dX2_addListener_17 ?_
  clear hP hD hS; intro H locs hP hD hS
  cases hf
  rw [hQ]
  exact r_vret C hr hP hD hS dX2_addListener_20
def wX6_readListener (E : EN) (h h_tape h_names h_sorts h_numbers h_inn h_inn_house h_inn_thingIn h_inn_full h_inn_states h_inn_bed h_inn_dreamOf h_inn_listensIn h_tape_bytes : Nat) (v_named : Int32) (v_fault : Int32) (v_number : Int32) (v_inn_minutes : Int32) (v_inn_things : Int32) (v_inn_dreams : Int32) (v_inn_sleepers : Int32) (v_inn_listeners : Int32) (v_tape_length : Int32) (v_tape_end : Int32) (v_tape_at : Int32) (v_tape_start : Int32) (v_tape_kind : Int32) (v_tape_code : Int64) (v_tape_mayName : Int32) (v_tape_value : Int32) (v_tape_bytes : Nat → Int32) (v_names : Nat → Int64) (v_sorts : Nat → Int32) (v_numbers : Nat → Int32) (v_inn_listensIn : Nat → Int32) : va_W := [(h, .inr (6, [.ref h_tape, .ref h_names, .ref h_sorts, .ref h_numbers, .int v_named, .ref h_inn, .int v_fault, .int v_number])), (h_inn, .inr (2, [.ref h_inn_house, .int v_inn_minutes, .int v_inn_things, .ref h_inn_thingIn, .ref h_inn_full, .int v_inn_dreams, .ref h_inn_states, .int v_inn_sleepers, .ref h_inn_bed, .ref h_inn_dreamOf, .int v_inn_listeners, .ref h_inn_listensIn])), (h_tape, .inr (7, [.ref h_tape_bytes, .int v_tape_length, .int v_tape_end, .int v_tape_at, .int v_tape_start, .int v_tape_kind, .long v_tape_code, .int v_tape_mayName, .int v_tape_value])), (h_tape_bytes, aB E 900 v_tape_bytes), (h_names, aJ E 19 v_names), (h_sorts, aI E 19 v_sorts), (h_numbers, aI E 19 v_numbers), (h_inn_listensIn, aI E 3 v_inn_listensIn)]
def fX6_readListener (N : Nat) (v_named : Int32) (v_fault : Int32) (v_number : Int32) (v_inn_listeners : Int32) (v_tape_end : Int32) (v_tape_at : Int32) (v_tape_start : Int32) (v_tape_kind : Int32) (v_tape_code : Int64) (v_tape_mayName : Int32) (v_tape_value : Int32) (v_tape_bytes : Nat → Int32) (v_names : Nat → Int64) (v_sorts : Nat → Int32) (v_numbers : Nat → Int32) (v_inn_listensIn : Nat → Int32) : Option (Int32 × Int32 × Int32 × Int32 × Int32 × Int32 × Int32 × Int64 × Int32 × Int32 × (Nat → Int32)) := if v_inn_listeners < 3 then ((fX7_advance N v_tape_end v_tape_at v_tape_bytes).bind (un6 fun (v_tape_at_21 : Int32) (v_tape_start_21 : Int32) (v_tape_kind_21 : Int32) (v_tape_code_21 : Int64) (v_tape_mayName_21 : Int32) (v_tape_value_21 : Int32) => (fX6_lookUp N 0 v_named v_fault v_number v_tape_code_21 v_tape_mayName_21 v_names v_sorts v_numbers).bind (un3 fun (r_26 : Int32) (v_fault_26 : Int32) (v_number_26 : Int32) => if r_26 = 0 then (some (0, v_fault_26, v_number_26, v_inn_listeners, v_tape_at_21, v_tape_start_21, v_tape_kind_21, v_tape_code_21, v_tape_mayName_21, v_tape_value_21, v_inn_listensIn)) else ((fX2_isListening N v_number_26 v_inn_listeners v_inn_listensIn).bind (un1 fun (r_42 : Int32) => if r_42 = 0 then ((fX7_advance N v_tape_end v_tape_at_21 v_tape_bytes).bind (un6 fun (v_tape_at_58 : Int32) (v_tape_start_58 : Int32) (v_tape_kind_58 : Int32) (v_tape_code_58 : Int64) (v_tape_mayName_58 : Int32) (v_tape_value_58 : Int32) => (fX2_addListener N v_number_26 v_inn_listeners v_inn_listensIn).bind (un2 fun (v_inn_listeners_69 : Int32) (v_inn_listensIn_69 : Nat → Int32) => some (1, v_fault_26, v_number_26, v_inn_listeners_69, v_tape_at_58, v_tape_start_58, v_tape_kind_58, v_tape_code_58, v_tape_mayName_58, v_tape_value_58, v_inn_listensIn_69)))) else ((fX6_fail N 3).bind (un2 fun (r_50 : Int32) (v_fault_50 : Int32) => zg r_50 (some (r_50, v_fault_50, v_number_26, v_inn_listeners, v_tape_at_21, v_tape_start_21, v_tape_kind_21, v_tape_code_21, v_tape_mayName_21, v_tape_value_21, v_inn_listensIn))))))))) else ((fX6_fail N 5).bind (un2 fun (r_13 : Int32) (v_fault_13 : Int32) => zg r_13 (some (r_13, v_fault_13, v_number, v_inn_listeners, v_tape_at, v_tape_start, v_tape_kind, v_tape_code, v_tape_mayName, v_tape_value, v_inn_listensIn))))
set_option maxHeartbeats 4000000 in
set_option maxRecDepth 100000 in
theorem ctX6_readListener (l : Launch) (E : EN) (h h_tape h_names h_sorts h_numbers h_inn h_inn_house h_inn_thingIn h_inn_full h_inn_states h_inn_bed h_inn_dreamOf h_inn_listensIn h_tape_bytes : Nat) (v_named : Int32) (v_fault : Int32) (v_number : Int32) (v_inn_minutes : Int32) (v_inn_things : Int32) (v_inn_dreams : Int32) (v_inn_sleepers : Int32) (v_inn_listeners : Int32) (v_tape_length : Int32) (v_tape_end : Int32) (v_tape_at : Int32) (v_tape_start : Int32) (v_tape_kind : Int32) (v_tape_code : Int64) (v_tape_mayName : Int32) (v_tape_value : Int32) (v_tape_bytes : Nat → Int32) (v_names : Nat → Int64) (v_sorts : Nat → Int32) (v_numbers : Nat → Int32) (v_inn_listensIn : Nat → Int32) (N : Nat) (z : Int32 × Int32 × Int32 × Int32 × Int32 × Int32 × Int32 × Int64 × Int32 × Int32 × (Nat → Int32)) (hf : fX6_readListener N v_named v_fault v_number v_inn_listeners v_tape_end v_tape_at v_tape_start v_tape_kind v_tape_code v_tape_mayName v_tape_value v_tape_bytes v_names v_sorts v_numbers v_inn_listensIn = some z) : CTi l E yX6_readListener cX6_readListener 1 .boolean 2 44 [.ref h] (wX6_readListener E h h_tape h_names h_sorts h_numbers h_inn h_inn_house h_inn_thingIn h_inn_full h_inn_states h_inn_bed h_inn_dreamOf h_inn_listensIn h_tape_bytes v_named v_fault v_number v_inn_minutes v_inn_things v_inn_dreams v_inn_sleepers v_inn_listeners v_tape_length v_tape_end v_tape_at v_tape_start v_tape_kind v_tape_code v_tape_mayName v_tape_value v_tape_bytes v_names v_sorts v_numbers v_inn_listensIn) (z.1) (wX6_readListener E h h_tape h_names h_sorts h_numbers h_inn h_inn_house h_inn_thingIn h_inn_full h_inn_states h_inn_bed h_inn_dreamOf h_inn_listensIn h_tape_bytes v_named z.2.1 z.2.2.1 v_inn_minutes v_inn_things v_inn_dreams v_inn_sleepers z.2.2.2.1 v_tape_length v_tape_end z.2.2.2.2.1 z.2.2.2.2.2.1 z.2.2.2.2.2.2.1 z.2.2.2.2.2.2.2.1 z.2.2.2.2.2.2.2.2.1 z.2.2.2.2.2.2.2.2.2.1 v_tape_bytes v_names v_sorts v_numbers z.2.2.2.2.2.2.2.2.2.2) := by
  intro sz
  refine ct_body (by decide) (Nat.le_of_ble_eq_true rfl) ?_
  intro p e s m args below meth c A ls hAe C hr hin hP hD hS hl
  have C : CX p s m args meth c cX6_readListener RX6 1 E A := C
  have hl : lv_has ls 1 [(0, .ref h)] := hl
  have hx := C.1
  have hb := C.2.1
  rw [hAe]
  clear hAe
  obtain ⟨Q, hQ⟩ : ∃ Q, Q = MQ below (Qi E A (z.1) (wX6_readListener E h h_tape h_names h_sorts h_numbers h_inn h_inn_house h_inn_thingIn h_inn_full h_inn_states h_inn_bed h_inn_dreamOf h_inn_listensIn h_tape_bytes v_named z.2.1 z.2.2.1 v_inn_minutes v_inn_things v_inn_dreams v_inn_sleepers z.2.2.2.1 v_tape_length v_tape_end z.2.2.2.2.1 z.2.2.2.2.2.1 z.2.2.2.2.2.2.1 z.2.2.2.2.2.2.2.1 z.2.2.2.2.2.2.2.2.1 z.2.2.2.2.2.2.2.2.2.1 v_tape_bytes v_names v_sorts v_numbers z.2.2.2.2.2.2.2.2.2.2)) args s 0 0 A := ⟨_, rfl⟩
  rw [← hQ]
  unfold fX6_readListener at hf
  refine lv_aload_n (pc := 0) hx hb dX6_readListener_0 rfl (lv_at hl 0 rfl) ?_
  refine r_get (pc := 1) C hP 0 rfl fl_X6_32 rfl dX6_readListener_1 ?_
  refine r_get (pc := 4) C hP 1 rfl fl_X6_238 rfl dX6_readListener_4 ?_
  refine lv_iconst (pc := 7) (v := 3) hx hb dX6_readListener_7 (by decide) ?_
  refine lv_icmp_lt (pc := 8) (tgt := 17) hx hb dX6_readListener_8 (by decide) (fun c_8 => ?_) (fun c_8 => ?_)
  · replace hf := it_t c_8 hf
    refine lv_aload_n (pc := 17) hx hb dX6_readListener_17 rfl (lv_at hl 0 rfl) ?_
    refine r_get (pc := 18) C hP 0 rfl fl_X6_12 rfl dX6_readListener_18 ?_
    obtain ⟨v_tape_at_21, v_tape_start_21, v_tape_kind_21, v_tape_code_21, v_tape_mayName_21, v_tape_value_21, hc_21, hf⟩ := bd6 hf
    refine r_dalVv (pc := 21) (ws' := (wX6_readListener E h h_tape h_names h_sorts h_numbers h_inn h_inn_house h_inn_thingIn h_inn_full h_inn_states h_inn_bed h_inn_dreamOf h_inn_listensIn h_tape_bytes v_named v_fault v_number v_inn_minutes v_inn_things v_inn_dreams v_inn_sleepers v_inn_listeners v_tape_length v_tape_end v_tape_at_21 v_tape_start_21 v_tape_kind_21 v_tape_code_21 v_tape_mayName_21 v_tape_value_21 v_tape_bytes v_names v_sorts v_numbers v_inn_listensIn)) (As := []) (rest := []) C (ctX7_advance l E h_tape h_tape_bytes v_tape_length v_tape_end v_tape_at v_tape_start v_tape_kind v_tape_code v_tape_mayName v_tape_value v_tape_bytes N (v_tape_at_21, v_tape_start_21, v_tape_kind_21, v_tape_code_21, v_tape_mayName_21, v_tape_value_21) hc_21) ml_X6_57 ⟨Nat.le_of_ble_eq_true rfl, Nat.le_of_ble_eq_true rfl⟩ hP hD hS 2 rfl rfl rfl [2, 3] [0, 1, 8, 9, 4, 5, 6, 7] 8 rfl rfl rfl rfl rfl rfl rfl hl.1 rfl (Nat.le_of_ble_eq_true rfl) ⟨Nat.zero_le _, Nat.zero_le _⟩ dX6_readListener_21 ?_
    clear hP hD hS; intro H locs hP hD hS
    refine lv_aload_n (pc := 24) hx hb dX6_readListener_24 rfl (lv_at hl 0 rfl) ?_
    refine lv_iconst (pc := 25) (v := 0) hx hb dX6_readListener_25 (by decide) ?_
    obtain ⟨r_26, v_fault_26, v_number_26, hc_26, hf⟩ := bd3 hf
    refine r_dalVi (pc := 26) (ws' := (wX6_readListener E h h_tape h_names h_sorts h_numbers h_inn h_inn_house h_inn_thingIn h_inn_full h_inn_states h_inn_bed h_inn_dreamOf h_inn_listensIn h_tape_bytes v_named v_fault_26 v_number_26 v_inn_minutes v_inn_things v_inn_dreams v_inn_sleepers v_inn_listeners v_tape_length v_tape_end v_tape_at_21 v_tape_start_21 v_tape_kind_21 v_tape_code_21 v_tape_mayName_21 v_tape_value_21 v_tape_bytes v_names v_sorts v_numbers v_inn_listensIn)) (As := [.int 0]) (rest := []) C (ctX6_lookUp l E h h_tape h_names h_sorts h_numbers h_inn h_tape_bytes v_named v_fault v_number v_tape_length v_tape_end v_tape_at_21 v_tape_start_21 v_tape_kind_21 v_tape_code_21 v_tape_mayName_21 v_tape_value_21 v_names v_sorts v_numbers N 0 (r_26, v_fault_26, v_number_26) hc_26) ml_X6_241 ⟨Nat.le_of_ble_eq_true rfl, Nat.le_of_ble_eq_true rfl⟩ hP hD hS 0 rfl rfl rfl [0, 2, 4, 5, 6] [8, 1, 9, 3, 10, 11, 12, 7] 8 rfl rfl rfl rfl rfl rfl rfl hl.1 rfl (Nat.le_of_ble_eq_true rfl) ⟨Nat.zero_le _, Nat.zero_le _⟩ dX6_readListener_26 ?_
    clear hP hD hS; intro H locs hP hD hS
    refine lv_if_ne (pc := 29) (tgt := 34) hx hb dX6_readListener_29 (by decide) (fun c_29 => ?_) (fun c_29 => ?_)
    · replace hf := it_f c_29 hf
      refine lv_aload_n (pc := 34) hx hb dX6_readListener_34 rfl (lv_at hl 0 rfl) ?_
      refine r_get (pc := 35) C hP 0 rfl fl_X6_32 rfl dX6_readListener_35 ?_
      refine lv_aload_n (pc := 38) hx hb dX6_readListener_38 rfl (lv_at hl 0 rfl) ?_
      refine r_get (pc := 39) C hP 0 rfl fl_X6_148 rfl dX6_readListener_39 ?_
      obtain ⟨r_42, hc_42, hf⟩ := bd1 hf
      refine r_dalVi (pc := 42) (ws' := (wX6_readListener E h h_tape h_names h_sorts h_numbers h_inn h_inn_house h_inn_thingIn h_inn_full h_inn_states h_inn_bed h_inn_dreamOf h_inn_listensIn h_tape_bytes v_named v_fault_26 v_number_26 v_inn_minutes v_inn_things v_inn_dreams v_inn_sleepers v_inn_listeners v_tape_length v_tape_end v_tape_at_21 v_tape_start_21 v_tape_kind_21 v_tape_code_21 v_tape_mayName_21 v_tape_value_21 v_tape_bytes v_names v_sorts v_numbers v_inn_listensIn)) (As := [.int v_number_26]) (rest := []) C (ctX2_isListening l E h_inn h_inn_house h_inn_thingIn h_inn_full h_inn_states h_inn_bed h_inn_dreamOf h_inn_listensIn v_inn_minutes v_inn_things v_inn_dreams v_inn_sleepers v_inn_listeners v_inn_listensIn N v_number_26 r_42 hc_42) ml_X6_244 ⟨Nat.le_of_ble_eq_true rfl, Nat.le_of_ble_eq_true rfl⟩ hP hD hS 1 rfl rfl rfl [1, 7] [0, 8, 2, 3, 4, 5, 6, 9] 8 rfl rfl rfl rfl rfl rfl rfl hl.1 rfl (Nat.le_of_ble_eq_true rfl) ⟨Nat.zero_le _, Nat.zero_le _⟩ dX6_readListener_42 ?_
      clear hP hD hS; intro H locs hP hD hS
      refine lv_if_eq (pc := 45) (tgt := 54) hx hb dX6_readListener_45 (by decide) (fun c_45 => ?_) (fun c_45 => ?_)
      · replace hf := it_t c_45 hf
        refine lv_aload_n (pc := 54) hx hb dX6_readListener_54 rfl (lv_at hl 0 rfl) ?_
        refine r_get (pc := 55) C hP 0 rfl fl_X6_12 rfl dX6_readListener_55 ?_
        obtain ⟨v_tape_at_58, v_tape_start_58, v_tape_kind_58, v_tape_code_58, v_tape_mayName_58, v_tape_value_58, hc_58, hf⟩ := bd6 hf
        refine r_dalVv (pc := 58) (ws' := (wX6_readListener E h h_tape h_names h_sorts h_numbers h_inn h_inn_house h_inn_thingIn h_inn_full h_inn_states h_inn_bed h_inn_dreamOf h_inn_listensIn h_tape_bytes v_named v_fault_26 v_number_26 v_inn_minutes v_inn_things v_inn_dreams v_inn_sleepers v_inn_listeners v_tape_length v_tape_end v_tape_at_58 v_tape_start_58 v_tape_kind_58 v_tape_code_58 v_tape_mayName_58 v_tape_value_58 v_tape_bytes v_names v_sorts v_numbers v_inn_listensIn)) (As := []) (rest := []) C (ctX7_advance l E h_tape h_tape_bytes v_tape_length v_tape_end v_tape_at_21 v_tape_start_21 v_tape_kind_21 v_tape_code_21 v_tape_mayName_21 v_tape_value_21 v_tape_bytes N (v_tape_at_58, v_tape_start_58, v_tape_kind_58, v_tape_code_58, v_tape_mayName_58, v_tape_value_58) hc_58) ml_X6_57 ⟨Nat.le_of_ble_eq_true rfl, Nat.le_of_ble_eq_true rfl⟩ hP hD hS 2 rfl rfl rfl [2, 3] [0, 1, 8, 9, 4, 5, 6, 7] 8 rfl rfl rfl rfl rfl rfl rfl hl.1 rfl (Nat.le_of_ble_eq_true rfl) ⟨Nat.zero_le _, Nat.zero_le _⟩ dX6_readListener_58 ?_
        clear hP hD hS; intro H locs hP hD hS
        refine lv_aload_n (pc := 61) hx hb dX6_readListener_61 rfl (lv_at hl 0 rfl) ?_
        refine r_get (pc := 62) C hP 0 rfl fl_X6_32 rfl dX6_readListener_62 ?_
        refine lv_aload_n (pc := 65) hx hb dX6_readListener_65 rfl (lv_at hl 0 rfl) ?_
        refine r_get (pc := 66) C hP 0 rfl fl_X6_148 rfl dX6_readListener_66 ?_
        obtain ⟨v_inn_listeners_69, v_inn_listensIn_69, hc_69, hf⟩ := bd2 hf
        refine r_dalVv (pc := 69) (ws' := (wX6_readListener E h h_tape h_names h_sorts h_numbers h_inn h_inn_house h_inn_thingIn h_inn_full h_inn_states h_inn_bed h_inn_dreamOf h_inn_listensIn h_tape_bytes v_named v_fault_26 v_number_26 v_inn_minutes v_inn_things v_inn_dreams v_inn_sleepers v_inn_listeners_69 v_tape_length v_tape_end v_tape_at_58 v_tape_start_58 v_tape_kind_58 v_tape_code_58 v_tape_mayName_58 v_tape_value_58 v_tape_bytes v_names v_sorts v_numbers v_inn_listensIn_69)) (As := [.int v_number_26]) (rest := []) C (ctX2_addListener l E h_inn h_inn_house h_inn_thingIn h_inn_full h_inn_states h_inn_bed h_inn_dreamOf h_inn_listensIn v_inn_minutes v_inn_things v_inn_dreams v_inn_sleepers v_inn_listeners v_inn_listensIn N v_number_26 (v_inn_listeners_69, v_inn_listensIn_69) hc_69) ml_X6_247 ⟨Nat.le_of_ble_eq_true rfl, Nat.le_of_ble_eq_true rfl⟩ hP hD hS 1 rfl rfl rfl [1, 7] [0, 8, 2, 3, 4, 5, 6, 9] 8 rfl rfl rfl rfl rfl rfl rfl hl.1 rfl (Nat.le_of_ble_eq_true rfl) ⟨Nat.zero_le _, Nat.zero_le _⟩ dX6_readListener_69 ?_
        clear hP hD hS; intro H locs hP hD hS
        refine lv_iconst (pc := 72) (v := 1) hx hb dX6_readListener_72 (by decide) ?_
        cases hf
        rw [hQ]
        exact r_zret C hr hP hD hS (Or.inr rfl) rfl dX6_readListener_73
      · replace hf := it_f c_45 hf
        refine lv_aload_n (pc := 48) hx hb dX6_readListener_48 rfl (lv_at hl 0 rfl) ?_
        refine lv_iconst (pc := 49) (v := 3) hx hb dX6_readListener_49 (by decide) ?_
        obtain ⟨r_50, v_fault_50, hc_50, hf⟩ := bd2 hf
        refine r_dalVi (pc := 50) (ws' := (wX6_readListener E h h_tape h_names h_sorts h_numbers h_inn h_inn_house h_inn_thingIn h_inn_full h_inn_states h_inn_bed h_inn_dreamOf h_inn_listensIn h_tape_bytes v_named v_fault_50 v_number_26 v_inn_minutes v_inn_things v_inn_dreams v_inn_sleepers v_inn_listeners v_tape_length v_tape_end v_tape_at_21 v_tape_start_21 v_tape_kind_21 v_tape_code_21 v_tape_mayName_21 v_tape_value_21 v_tape_bytes v_names v_sorts v_numbers v_inn_listensIn)) (As := [.int 3]) (rest := []) C (ctX6_fail l E h h_tape h_names h_sorts h_numbers h_inn v_named v_fault_26 v_number_26 N 3 (r_50, v_fault_50) hc_50) ml_X6_60 ⟨Nat.le_of_ble_eq_true rfl, Nat.le_of_ble_eq_true rfl⟩ hP hD hS 0 rfl rfl rfl [0] [8, 1, 2, 3, 4, 5, 6, 7] 8 rfl rfl rfl rfl rfl rfl rfl hl.1 rfl (Nat.le_of_ble_eq_true rfl) ⟨Nat.zero_le _, Nat.zero_le _⟩ dX6_readListener_50 ?_
        clear hP hD hS; intro H locs hP hD hS
        obtain ⟨hz_53, hf⟩ := zg_s hf
        cases hf
        rw [hQ]
        exact r_zret C hr hP hD hS hz_53 rfl dX6_readListener_53
    · replace hf := it_t c_29 hf
      refine lv_iconst (pc := 32) (v := 0) hx hb dX6_readListener_32 (by decide) ?_
      cases hf
      rw [hQ]
      exact r_zret C hr hP hD hS (Or.inl rfl) rfl dX6_readListener_33
  · replace hf := it_f c_8 hf
    refine lv_aload_n (pc := 11) hx hb dX6_readListener_11 rfl (lv_at hl 0 rfl) ?_
    refine lv_iconst (pc := 12) (v := 5) hx hb dX6_readListener_12 (by decide) ?_
    obtain ⟨r_13, v_fault_13, hc_13, hf⟩ := bd2 hf
    refine r_dalVi (pc := 13) (ws' := (wX6_readListener E h h_tape h_names h_sorts h_numbers h_inn h_inn_house h_inn_thingIn h_inn_full h_inn_states h_inn_bed h_inn_dreamOf h_inn_listensIn h_tape_bytes v_named v_fault_13 v_number v_inn_minutes v_inn_things v_inn_dreams v_inn_sleepers v_inn_listeners v_tape_length v_tape_end v_tape_at v_tape_start v_tape_kind v_tape_code v_tape_mayName v_tape_value v_tape_bytes v_names v_sorts v_numbers v_inn_listensIn)) (As := [.int 5]) (rest := []) C (ctX6_fail l E h h_tape h_names h_sorts h_numbers h_inn v_named v_fault v_number N 5 (r_13, v_fault_13) hc_13) ml_X6_60 ⟨Nat.le_of_ble_eq_true rfl, Nat.le_of_ble_eq_true rfl⟩ hP hD hS 0 rfl rfl rfl [0] [8, 1, 2, 3, 4, 5, 6, 7] 8 rfl rfl rfl rfl rfl rfl rfl hl.1 rfl (Nat.le_of_ble_eq_true rfl) ⟨Nat.zero_le _, Nat.zero_le _⟩ dX6_readListener_13 ?_
    clear hP hD hS; intro H locs hP hD hS
    obtain ⟨hz_16, hf⟩ := zg_s hf
    cases hf
    rw [hQ]
    exact r_zret C hr hP hD hS hz_16 rfl dX6_readListener_16
def wX6_readLine (E : EN) (h h_tape h_names h_sorts h_numbers h_inn h_tape_bytes h_inn_house h_inn_thingIn h_inn_full h_inn_states h_inn_bed h_inn_dreamOf h_inn_listensIn h_inn_house_creak h_inn_house_cold h_inn_house_one h_inn_house_other h_inn_house_how h_inn_house_falls h_inn_house_ways : Nat) (v_named : Int32) (v_fault : Int32) (v_number : Int32) (v_tape_length : Int32) (v_tape_end : Int32) (v_tape_at : Int32) (v_tape_start : Int32) (v_tape_kind : Int32) (v_tape_code : Int64) (v_tape_mayName : Int32) (v_tape_value : Int32) (v_inn_minutes : Int32) (v_inn_things : Int32) (v_inn_dreams : Int32) (v_inn_sleepers : Int32) (v_inn_listeners : Int32) (v_tape_bytes : Nat → Int32) (v_names : Nat → Int64) (v_sorts : Nat → Int32) (v_numbers : Nat → Int32) (v_inn_listensIn : Nat → Int32) (v_inn_bed : Nat → Int32) (v_inn_dreamOf : Nat → Int32) (v_inn_states : Nat → Int32) (v_inn_thingIn : Nat → Int32) (v_inn_full : Nat → Int32) (v_inn_house_rooms : Int32) (v_inn_house_doors : Int32) (v_inn_house_one : Nat → Int32) (v_inn_house_other : Nat → Int32) (v_inn_house_how : Nat → Int32) (v_inn_house_falls : Nat → Int32) (v_inn_house_creak : Nat → Int32) (v_inn_house_cold : Nat → Int32) : va_W := [(h, .inr (6, [.ref h_tape, .ref h_names, .ref h_sorts, .ref h_numbers, .int v_named, .ref h_inn, .int v_fault, .int v_number])), (h_tape, .inr (7, [.ref h_tape_bytes, .int v_tape_length, .int v_tape_end, .int v_tape_at, .int v_tape_start, .int v_tape_kind, .long v_tape_code, .int v_tape_mayName, .int v_tape_value])), (h_inn, .inr (2, [.ref h_inn_house, .int v_inn_minutes, .int v_inn_things, .ref h_inn_thingIn, .ref h_inn_full, .int v_inn_dreams, .ref h_inn_states, .int v_inn_sleepers, .ref h_inn_bed, .ref h_inn_dreamOf, .int v_inn_listeners, .ref h_inn_listensIn])), (h_tape_bytes, aB E 900 v_tape_bytes), (h_names, aJ E 19 v_names), (h_sorts, aI E 19 v_sorts), (h_numbers, aI E 19 v_numbers), (h_inn_listensIn, aI E 3 v_inn_listensIn), (h_inn_bed, aI E 3 v_inn_bed), (h_inn_dreamOf, aI E 3 v_inn_dreamOf), (h_inn_states, aI E 64 v_inn_states), (h_inn_thingIn, aI E 4 v_inn_thingIn), (h_inn_full, aZ E 4 v_inn_full), (h_inn_house, .inr (1, [.int v_inn_house_rooms, .ref h_inn_house_creak, .ref h_inn_house_cold, .int v_inn_house_doors, .ref h_inn_house_one, .ref h_inn_house_other, .ref h_inn_house_how, .ref h_inn_house_falls, .ref h_inn_house_ways])), (h_inn_house_one, aI E 10 v_inn_house_one), (h_inn_house_other, aI E 10 v_inn_house_other), (h_inn_house_how, aI E 10 v_inn_house_how), (h_inn_house_falls, aZ E 10 v_inn_house_falls), (h_inn_house_creak, aI E 8 v_inn_house_creak), (h_inn_house_cold, aZ E 8 v_inn_house_cold)]
def fX6_readLine (N : Nat) (v_named : Int32) (v_fault : Int32) (v_number : Int32) (v_tape_end : Int32) (v_tape_at : Int32) (v_tape_start : Int32) (v_tape_kind : Int32) (v_tape_code : Int64) (v_tape_mayName : Int32) (v_tape_value : Int32) (v_inn_minutes : Int32) (v_inn_things : Int32) (v_inn_dreams : Int32) (v_inn_sleepers : Int32) (v_inn_listeners : Int32) (v_tape_bytes : Nat → Int32) (v_names : Nat → Int64) (v_sorts : Nat → Int32) (v_numbers : Nat → Int32) (v_inn_listensIn : Nat → Int32) (v_inn_bed : Nat → Int32) (v_inn_dreamOf : Nat → Int32) (v_inn_states : Nat → Int32) (v_inn_thingIn : Nat → Int32) (v_inn_full : Nat → Int32) (v_inn_house_rooms : Int32) (v_inn_house_doors : Int32) (v_inn_house_one : Nat → Int32) (v_inn_house_other : Nat → Int32) (v_inn_house_how : Nat → Int32) (v_inn_house_falls : Nat → Int32) (v_inn_house_creak : Nat → Int32) (v_inn_house_cold : Nat → Int32) : Option (Int32 × Int32 × Int32 × Int32 × Int32 × Int32 × Int32 × Int64 × Int32 × Int32 × Int32 × Int32 × Int32 × Int32 × Int32 × (Nat → Int64) × (Nat → Int32) × (Nat → Int32) × (Nat → Int32) × (Nat → Int32) × (Nat → Int32) × (Nat → Int32) × (Nat → Int32) × (Nat → Int32) × Int32 × Int32 × (Nat → Int32) × (Nat → Int32) × (Nat → Int32) × (Nat → Int32) × (Nat → Int32) × (Nat → Int32)) := (fX7_isAt N 0 v_tape_kind v_tape_code).bind (un1 fun (r_7 : Int32) => if r_7 = 0 then ((fX7_isAt N 1 v_tape_kind v_tape_code).bind (un1 fun (r_25 : Int32) => if r_25 = 0 then ((fX7_isAt N 2 v_tape_kind v_tape_code).bind (un1 fun (r_43 : Int32) => if r_43 = 0 then ((fX7_isAt N 3 v_tape_kind v_tape_code).bind (un1 fun (r_61 : Int32) => if r_61 = 0 then ((fX7_isAt N 4 v_tape_kind v_tape_code).bind (un1 fun (r_79 : Int32) => if r_79 = 0 then ((fX7_isAt N 5 v_tape_kind v_tape_code).bind (un1 fun (r_97 : Int32) => if r_97 = 0 then ((fX7_isAt N 6 v_tape_kind v_tape_code).bind (un1 fun (r_115 : Int32) => if r_115 = 0 then ((fX6_fail N 1).bind (un2 fun (r_128 : Int32) (v_fault_128 : Int32) => zg r_128 (some (r_128, v_named, v_fault_128, v_number, v_tape_at, v_tape_start, v_tape_kind, v_tape_code, v_tape_mayName, v_tape_value, v_inn_minutes, v_inn_things, v_inn_dreams, v_inn_sleepers, v_inn_listeners, v_names, v_sorts, v_numbers, v_inn_listensIn, v_inn_bed, v_inn_dreamOf, v_inn_states, v_inn_thingIn, v_inn_full, v_inn_house_rooms, v_inn_house_doors, v_inn_house_one, v_inn_house_other, v_inn_house_how, v_inn_house_falls, v_inn_house_creak, v_inn_house_cold)))) else ((fX6_readListener N v_named v_fault v_number v_inn_listeners v_tape_end v_tape_at v_tape_start v_tape_kind v_tape_code v_tape_mayName v_tape_value v_tape_bytes v_names v_sorts v_numbers v_inn_listensIn).bind (un11 fun (r_122 : Int32) (v_fault_122 : Int32) (v_number_122 : Int32) (v_inn_listeners_122 : Int32) (v_tape_at_122 : Int32) (v_tape_start_122 : Int32) (v_tape_kind_122 : Int32) (v_tape_code_122 : Int64) (v_tape_mayName_122 : Int32) (v_tape_value_122 : Int32) (v_inn_listensIn_122 : Nat → Int32) => zg r_122 (some (r_122, v_named, v_fault_122, v_number_122, v_tape_at_122, v_tape_start_122, v_tape_kind_122, v_tape_code_122, v_tape_mayName_122, v_tape_value_122, v_inn_minutes, v_inn_things, v_inn_dreams, v_inn_sleepers, v_inn_listeners_122, v_names, v_sorts, v_numbers, v_inn_listensIn_122, v_inn_bed, v_inn_dreamOf, v_inn_states, v_inn_thingIn, v_inn_full, v_inn_house_rooms, v_inn_house_doors, v_inn_house_one, v_inn_house_other, v_inn_house_how, v_inn_house_falls, v_inn_house_creak, v_inn_house_cold)))))) else ((fX6_readSleeper N v_named v_fault v_number v_inn_sleepers v_tape_end v_tape_at v_tape_start v_tape_kind v_tape_code v_tape_mayName v_tape_value v_tape_bytes v_names v_sorts v_numbers v_inn_bed v_inn_dreamOf).bind (un16 fun (r_104 : Int32) (v_named_104 : Int32) (v_fault_104 : Int32) (v_number_104 : Int32) (v_inn_sleepers_104 : Int32) (v_tape_at_104 : Int32) (v_tape_start_104 : Int32) (v_tape_kind_104 : Int32) (v_tape_code_104 : Int64) (v_tape_mayName_104 : Int32) (v_tape_value_104 : Int32) (v_names_104 : Nat → Int64) (v_sorts_104 : Nat → Int32) (v_numbers_104 : Nat → Int32) (v_inn_bed_104 : Nat → Int32) (v_inn_dreamOf_104 : Nat → Int32) => zg r_104 (some (r_104, v_named_104, v_fault_104, v_number_104, v_tape_at_104, v_tape_start_104, v_tape_kind_104, v_tape_code_104, v_tape_mayName_104, v_tape_value_104, v_inn_minutes, v_inn_things, v_inn_dreams, v_inn_sleepers_104, v_inn_listeners, v_names_104, v_sorts_104, v_numbers_104, v_inn_listensIn, v_inn_bed_104, v_inn_dreamOf_104, v_inn_states, v_inn_thingIn, v_inn_full, v_inn_house_rooms, v_inn_house_doors, v_inn_house_one, v_inn_house_other, v_inn_house_how, v_inn_house_falls, v_inn_house_creak, v_inn_house_cold)))))) else ((fX6_readDream N v_named v_fault v_number v_tape_end v_tape_at v_tape_bytes v_names v_inn_dreams v_sorts v_numbers v_inn_states).bind (un15 fun (r_86 : Int32) (v_named_86 : Int32) (v_fault_86 : Int32) (v_number_86 : Int32) (v_tape_at_86 : Int32) (v_tape_start_86 : Int32) (v_tape_kind_86 : Int32) (v_tape_code_86 : Int64) (v_tape_mayName_86 : Int32) (v_tape_value_86 : Int32) (v_names_86 : Nat → Int64) (v_inn_dreams_86 : Int32) (v_sorts_86 : Nat → Int32) (v_numbers_86 : Nat → Int32) (v_inn_states_86 : Nat → Int32) => zg r_86 (some (r_86, v_named_86, v_fault_86, v_number_86, v_tape_at_86, v_tape_start_86, v_tape_kind_86, v_tape_code_86, v_tape_mayName_86, v_tape_value_86, v_inn_minutes, v_inn_things, v_inn_dreams_86, v_inn_sleepers, v_inn_listeners, v_names_86, v_sorts_86, v_numbers_86, v_inn_listensIn, v_inn_bed, v_inn_dreamOf, v_inn_states_86, v_inn_thingIn, v_inn_full, v_inn_house_rooms, v_inn_house_doors, v_inn_house_one, v_inn_house_other, v_inn_house_how, v_inn_house_falls, v_inn_house_creak, v_inn_house_cold)))))) else ((fX6_readThing N v_named v_fault v_number v_inn_things v_tape_end v_tape_at v_tape_start v_tape_kind v_tape_code v_tape_mayName v_tape_value v_tape_bytes v_names v_sorts v_numbers v_inn_thingIn v_inn_full).bind (un16 fun (r_68 : Int32) (v_named_68 : Int32) (v_fault_68 : Int32) (v_number_68 : Int32) (v_inn_things_68 : Int32) (v_tape_at_68 : Int32) (v_tape_start_68 : Int32) (v_tape_kind_68 : Int32) (v_tape_code_68 : Int64) (v_tape_mayName_68 : Int32) (v_tape_value_68 : Int32) (v_names_68 : Nat → Int64) (v_sorts_68 : Nat → Int32) (v_numbers_68 : Nat → Int32) (v_inn_thingIn_68 : Nat → Int32) (v_inn_full_68 : Nat → Int32) => zg r_68 (some (r_68, v_named_68, v_fault_68, v_number_68, v_tape_at_68, v_tape_start_68, v_tape_kind_68, v_tape_code_68, v_tape_mayName_68, v_tape_value_68, v_inn_minutes, v_inn_things_68, v_inn_dreams, v_inn_sleepers, v_inn_listeners, v_names_68, v_sorts_68, v_numbers_68, v_inn_listensIn, v_inn_bed, v_inn_dreamOf, v_inn_states, v_inn_thingIn_68, v_inn_full_68, v_inn_house_rooms, v_inn_house_doors, v_inn_house_one, v_inn_house_other, v_inn_house_how, v_inn_house_falls, v_inn_house_creak, v_inn_house_cold)))))) else ((fX6_readDoor N v_named v_fault v_number v_inn_house_doors v_tape_end v_tape_at v_tape_start v_tape_kind v_tape_code v_tape_mayName v_tape_value v_tape_bytes v_names v_sorts v_numbers v_inn_house_one v_inn_house_other v_inn_house_how v_inn_house_falls).bind (un14 fun (r_50 : Int32) (v_fault_50 : Int32) (v_number_50 : Int32) (v_inn_house_doors_50 : Int32) (v_tape_at_50 : Int32) (v_tape_start_50 : Int32) (v_tape_kind_50 : Int32) (v_tape_code_50 : Int64) (v_tape_mayName_50 : Int32) (v_tape_value_50 : Int32) (v_inn_house_one_50 : Nat → Int32) (v_inn_house_other_50 : Nat → Int32) (v_inn_house_how_50 : Nat → Int32) (v_inn_house_falls_50 : Nat → Int32) => zg r_50 (some (r_50, v_named, v_fault_50, v_number_50, v_tape_at_50, v_tape_start_50, v_tape_kind_50, v_tape_code_50, v_tape_mayName_50, v_tape_value_50, v_inn_minutes, v_inn_things, v_inn_dreams, v_inn_sleepers, v_inn_listeners, v_names, v_sorts, v_numbers, v_inn_listensIn, v_inn_bed, v_inn_dreamOf, v_inn_states, v_inn_thingIn, v_inn_full, v_inn_house_rooms, v_inn_house_doors_50, v_inn_house_one_50, v_inn_house_other_50, v_inn_house_how_50, v_inn_house_falls_50, v_inn_house_creak, v_inn_house_cold)))))) else ((fX6_readRoom N v_named v_fault v_number v_inn_house_rooms v_tape_end v_tape_at v_tape_start v_tape_kind v_tape_code v_tape_mayName v_tape_value v_tape_bytes v_names v_sorts v_numbers v_inn_house_creak v_inn_house_cold).bind (un16 fun (r_32 : Int32) (v_named_32 : Int32) (v_fault_32 : Int32) (v_number_32 : Int32) (v_inn_house_rooms_32 : Int32) (v_tape_at_32 : Int32) (v_tape_start_32 : Int32) (v_tape_kind_32 : Int32) (v_tape_code_32 : Int64) (v_tape_mayName_32 : Int32) (v_tape_value_32 : Int32) (v_names_32 : Nat → Int64) (v_sorts_32 : Nat → Int32) (v_numbers_32 : Nat → Int32) (v_inn_house_creak_32 : Nat → Int32) (v_inn_house_cold_32 : Nat → Int32) => zg r_32 (some (r_32, v_named_32, v_fault_32, v_number_32, v_tape_at_32, v_tape_start_32, v_tape_kind_32, v_tape_code_32, v_tape_mayName_32, v_tape_value_32, v_inn_minutes, v_inn_things, v_inn_dreams, v_inn_sleepers, v_inn_listeners, v_names_32, v_sorts_32, v_numbers_32, v_inn_listensIn, v_inn_bed, v_inn_dreamOf, v_inn_states, v_inn_thingIn, v_inn_full, v_inn_house_rooms_32, v_inn_house_doors, v_inn_house_one, v_inn_house_other, v_inn_house_how, v_inn_house_falls, v_inn_house_creak_32, v_inn_house_cold_32)))))) else ((fX6_readInn N v_fault v_number v_inn_minutes v_tape_end v_tape_at v_tape_start v_tape_kind v_tape_code v_tape_mayName v_tape_value v_tape_bytes).bind (un10 fun (r_14 : Int32) (v_fault_14 : Int32) (v_number_14 : Int32) (v_inn_minutes_14 : Int32) (v_tape_at_14 : Int32) (v_tape_start_14 : Int32) (v_tape_kind_14 : Int32) (v_tape_code_14 : Int64) (v_tape_mayName_14 : Int32) (v_tape_value_14 : Int32) => zg r_14 (some (r_14, v_named, v_fault_14, v_number_14, v_tape_at_14, v_tape_start_14, v_tape_kind_14, v_tape_code_14, v_tape_mayName_14, v_tape_value_14, v_inn_minutes_14, v_inn_things, v_inn_dreams, v_inn_sleepers, v_inn_listeners, v_names, v_sorts, v_numbers, v_inn_listensIn, v_inn_bed, v_inn_dreamOf, v_inn_states, v_inn_thingIn, v_inn_full, v_inn_house_rooms, v_inn_house_doors, v_inn_house_one, v_inn_house_other, v_inn_house_how, v_inn_house_falls, v_inn_house_creak, v_inn_house_cold)))))
set_option maxHeartbeats 4000000 in
set_option maxRecDepth 100000 in
theorem ctX6_readLine (l : Launch) (E : EN) (h h_tape h_names h_sorts h_numbers h_inn h_tape_bytes h_inn_house h_inn_thingIn h_inn_full h_inn_states h_inn_bed h_inn_dreamOf h_inn_listensIn h_inn_house_creak h_inn_house_cold h_inn_house_one h_inn_house_other h_inn_house_how h_inn_house_falls h_inn_house_ways : Nat) (v_named : Int32) (v_fault : Int32) (v_number : Int32) (v_tape_length : Int32) (v_tape_end : Int32) (v_tape_at : Int32) (v_tape_start : Int32) (v_tape_kind : Int32) (v_tape_code : Int64) (v_tape_mayName : Int32) (v_tape_value : Int32) (v_inn_minutes : Int32) (v_inn_things : Int32) (v_inn_dreams : Int32) (v_inn_sleepers : Int32) (v_inn_listeners : Int32) (v_tape_bytes : Nat → Int32) (v_names : Nat → Int64) (v_sorts : Nat → Int32) (v_numbers : Nat → Int32) (v_inn_listensIn : Nat → Int32) (v_inn_bed : Nat → Int32) (v_inn_dreamOf : Nat → Int32) (v_inn_states : Nat → Int32) (v_inn_thingIn : Nat → Int32) (v_inn_full : Nat → Int32) (v_inn_house_rooms : Int32) (v_inn_house_doors : Int32) (v_inn_house_one : Nat → Int32) (v_inn_house_other : Nat → Int32) (v_inn_house_how : Nat → Int32) (v_inn_house_falls : Nat → Int32) (v_inn_house_creak : Nat → Int32) (v_inn_house_cold : Nat → Int32) (N : Nat) (z : Int32 × Int32 × Int32 × Int32 × Int32 × Int32 × Int32 × Int64 × Int32 × Int32 × Int32 × Int32 × Int32 × Int32 × Int32 × (Nat → Int64) × (Nat → Int32) × (Nat → Int32) × (Nat → Int32) × (Nat → Int32) × (Nat → Int32) × (Nat → Int32) × (Nat → Int32) × (Nat → Int32) × Int32 × Int32 × (Nat → Int32) × (Nat → Int32) × (Nat → Int32) × (Nat → Int32) × (Nat → Int32) × (Nat → Int32)) (hf : fX6_readLine N v_named v_fault v_number v_tape_end v_tape_at v_tape_start v_tape_kind v_tape_code v_tape_mayName v_tape_value v_inn_minutes v_inn_things v_inn_dreams v_inn_sleepers v_inn_listeners v_tape_bytes v_names v_sorts v_numbers v_inn_listensIn v_inn_bed v_inn_dreamOf v_inn_states v_inn_thingIn v_inn_full v_inn_house_rooms v_inn_house_doors v_inn_house_one v_inn_house_other v_inn_house_how v_inn_house_falls v_inn_house_creak v_inn_house_cold = some z) : CTi l E yX6_readLine cX6_readLine 1 .boolean 4 93 [.ref h] (wX6_readLine E h h_tape h_names h_sorts h_numbers h_inn h_tape_bytes h_inn_house h_inn_thingIn h_inn_full h_inn_states h_inn_bed h_inn_dreamOf h_inn_listensIn h_inn_house_creak h_inn_house_cold h_inn_house_one h_inn_house_other h_inn_house_how h_inn_house_falls h_inn_house_ways v_named v_fault v_number v_tape_length v_tape_end v_tape_at v_tape_start v_tape_kind v_tape_code v_tape_mayName v_tape_value v_inn_minutes v_inn_things v_inn_dreams v_inn_sleepers v_inn_listeners v_tape_bytes v_names v_sorts v_numbers v_inn_listensIn v_inn_bed v_inn_dreamOf v_inn_states v_inn_thingIn v_inn_full v_inn_house_rooms v_inn_house_doors v_inn_house_one v_inn_house_other v_inn_house_how v_inn_house_falls v_inn_house_creak v_inn_house_cold) (z.1) (wX6_readLine E h h_tape h_names h_sorts h_numbers h_inn h_tape_bytes h_inn_house h_inn_thingIn h_inn_full h_inn_states h_inn_bed h_inn_dreamOf h_inn_listensIn h_inn_house_creak h_inn_house_cold h_inn_house_one h_inn_house_other h_inn_house_how h_inn_house_falls h_inn_house_ways z.2.1 z.2.2.1 z.2.2.2.1 v_tape_length v_tape_end z.2.2.2.2.1 z.2.2.2.2.2.1 z.2.2.2.2.2.2.1 z.2.2.2.2.2.2.2.1 z.2.2.2.2.2.2.2.2.1 z.2.2.2.2.2.2.2.2.2.1 z.2.2.2.2.2.2.2.2.2.2.1 z.2.2.2.2.2.2.2.2.2.2.2.1 z.2.2.2.2.2.2.2.2.2.2.2.2.1 z.2.2.2.2.2.2.2.2.2.2.2.2.2.1 z.2.2.2.2.2.2.2.2.2.2.2.2.2.2.1 v_tape_bytes z.2.2.2.2.2.2.2.2.2.2.2.2.2.2.2.1 z.2.2.2.2.2.2.2.2.2.2.2.2.2.2.2.2.1 z.2.2.2.2.2.2.2.2.2.2.2.2.2.2.2.2.2.1 z.2.2.2.2.2.2.2.2.2.2.2.2.2.2.2.2.2.2.1 z.2.2.2.2.2.2.2.2.2.2.2.2.2.2.2.2.2.2.2.1 z.2.2.2.2.2.2.2.2.2.2.2.2.2.2.2.2.2.2.2.2.1 z.2.2.2.2.2.2.2.2.2.2.2.2.2.2.2.2.2.2.2.2.2.1 z.2.2.2.2.2.2.2.2.2.2.2.2.2.2.2.2.2.2.2.2.2.2.1 z.2.2.2.2.2.2.2.2.2.2.2.2.2.2.2.2.2.2.2.2.2.2.2.1 z.2.2.2.2.2.2.2.2.2.2.2.2.2.2.2.2.2.2.2.2.2.2.2.2.1 z.2.2.2.2.2.2.2.2.2.2.2.2.2.2.2.2.2.2.2.2.2.2.2.2.2.1 z.2.2.2.2.2.2.2.2.2.2.2.2.2.2.2.2.2.2.2.2.2.2.2.2.2.2.1 z.2.2.2.2.2.2.2.2.2.2.2.2.2.2.2.2.2.2.2.2.2.2.2.2.2.2.2.1 z.2.2.2.2.2.2.2.2.2.2.2.2.2.2.2.2.2.2.2.2.2.2.2.2.2.2.2.2.1 z.2.2.2.2.2.2.2.2.2.2.2.2.2.2.2.2.2.2.2.2.2.2.2.2.2.2.2.2.2.1 z.2.2.2.2.2.2.2.2.2.2.2.2.2.2.2.2.2.2.2.2.2.2.2.2.2.2.2.2.2.2.1 z.2.2.2.2.2.2.2.2.2.2.2.2.2.2.2.2.2.2.2.2.2.2.2.2.2.2.2.2.2.2.2) := by
  intro sz
  refine ct_body (by decide) (Nat.le_of_ble_eq_true rfl) ?_
  intro p e s m args below meth c A ls hAe C hr hin hP hD hS hl
  have C : CX p s m args meth c cX6_readLine RX6 1 E A := C
  have hl : lv_has ls 1 [(0, .ref h)] := hl
  have hx := C.1
  have hb := C.2.1
  rw [hAe]
  clear hAe
  obtain ⟨Q, hQ⟩ : ∃ Q, Q = MQ below (Qi E A (z.1) (wX6_readLine E h h_tape h_names h_sorts h_numbers h_inn h_tape_bytes h_inn_house h_inn_thingIn h_inn_full h_inn_states h_inn_bed h_inn_dreamOf h_inn_listensIn h_inn_house_creak h_inn_house_cold h_inn_house_one h_inn_house_other h_inn_house_how h_inn_house_falls h_inn_house_ways z.2.1 z.2.2.1 z.2.2.2.1 v_tape_length v_tape_end z.2.2.2.2.1 z.2.2.2.2.2.1 z.2.2.2.2.2.2.1 z.2.2.2.2.2.2.2.1 z.2.2.2.2.2.2.2.2.1 z.2.2.2.2.2.2.2.2.2.1 z.2.2.2.2.2.2.2.2.2.2.1 z.2.2.2.2.2.2.2.2.2.2.2.1 z.2.2.2.2.2.2.2.2.2.2.2.2.1 z.2.2.2.2.2.2.2.2.2.2.2.2.2.1 z.2.2.2.2.2.2.2.2.2.2.2.2.2.2.1 v_tape_bytes z.2.2.2.2.2.2.2.2.2.2.2.2.2.2.2.1 z.2.2.2.2.2.2.2.2.2.2.2.2.2.2.2.2.1 z.2.2.2.2.2.2.2.2.2.2.2.2.2.2.2.2.2.1 z.2.2.2.2.2.2.2.2.2.2.2.2.2.2.2.2.2.2.1 z.2.2.2.2.2.2.2.2.2.2.2.2.2.2.2.2.2.2.2.1 z.2.2.2.2.2.2.2.2.2.2.2.2.2.2.2.2.2.2.2.2.1 z.2.2.2.2.2.2.2.2.2.2.2.2.2.2.2.2.2.2.2.2.2.1 z.2.2.2.2.2.2.2.2.2.2.2.2.2.2.2.2.2.2.2.2.2.2.1 z.2.2.2.2.2.2.2.2.2.2.2.2.2.2.2.2.2.2.2.2.2.2.2.1 z.2.2.2.2.2.2.2.2.2.2.2.2.2.2.2.2.2.2.2.2.2.2.2.2.1 z.2.2.2.2.2.2.2.2.2.2.2.2.2.2.2.2.2.2.2.2.2.2.2.2.2.1 z.2.2.2.2.2.2.2.2.2.2.2.2.2.2.2.2.2.2.2.2.2.2.2.2.2.2.1 z.2.2.2.2.2.2.2.2.2.2.2.2.2.2.2.2.2.2.2.2.2.2.2.2.2.2.2.1 z.2.2.2.2.2.2.2.2.2.2.2.2.2.2.2.2.2.2.2.2.2.2.2.2.2.2.2.2.1 z.2.2.2.2.2.2.2.2.2.2.2.2.2.2.2.2.2.2.2.2.2.2.2.2.2.2.2.2.2.1 z.2.2.2.2.2.2.2.2.2.2.2.2.2.2.2.2.2.2.2.2.2.2.2.2.2.2.2.2.2.2.1 z.2.2.2.2.2.2.2.2.2.2.2.2.2.2.2.2.2.2.2.2.2.2.2.2.2.2.2.2.2.2.2)) args s 0 0 A := ⟨_, rfl⟩
  rw [← hQ]
  unfold fX6_readLine at hf
  refine lv_aload_n (pc := 0) hx hb dX6_readLine_0 rfl (lv_at hl 0 rfl) ?_
  refine r_get (pc := 1) C hP 0 rfl fl_X6_12 rfl dX6_readLine_1 ?_
  refine r_gets (pc := 4) C (C.kx.1 0 (by decide)).1 hS gs_X6_89 dX6_readLine_4 ?_
  obtain ⟨r_7, hc_7, hf⟩ := bd1 hf
  refine r_dalVi (pc := 7) (ws' := (wX6_readLine E h h_tape h_names h_sorts h_numbers h_inn h_tape_bytes h_inn_house h_inn_thingIn h_inn_full h_inn_states h_inn_bed h_inn_dreamOf h_inn_listensIn h_inn_house_creak h_inn_house_cold h_inn_house_one h_inn_house_other h_inn_house_how h_inn_house_falls h_inn_house_ways v_named v_fault v_number v_tape_length v_tape_end v_tape_at v_tape_start v_tape_kind v_tape_code v_tape_mayName v_tape_value v_inn_minutes v_inn_things v_inn_dreams v_inn_sleepers v_inn_listeners v_tape_bytes v_names v_sorts v_numbers v_inn_listensIn v_inn_bed v_inn_dreamOf v_inn_states v_inn_thingIn v_inn_full v_inn_house_rooms v_inn_house_doors v_inn_house_one v_inn_house_other v_inn_house_how v_inn_house_falls v_inn_house_creak v_inn_house_cold)) (As := [.ref (E.2.2.1 0)]) (rest := []) C (ctX7_isAt l E h_tape h_tape_bytes v_tape_length v_tape_end v_tape_at v_tape_start v_tape_kind v_tape_code v_tape_mayName v_tape_value 0 (by decide) N r_7 hc_7) ml_X6_95 ⟨Nat.le_of_ble_eq_true rfl, Nat.le_of_ble_eq_true rfl⟩ hP hD hS 1 rfl rfl rfl [1] [0, 20, 2, 3, 4, 5, 6, 7, 8, 9, 10, 11, 12, 13, 14, 15, 16, 17, 18, 19] 20 rfl rfl rfl rfl rfl rfl rfl hl.1 rfl (Nat.le_of_ble_eq_true rfl) ⟨Nat.zero_le _, Nat.zero_le _⟩ dX6_readLine_7 ?_
  clear hP hD hS; intro H locs hP hD hS
  refine lv_if_eq (pc := 10) (tgt := 18) hx hb dX6_readLine_10 (by decide) (fun c_10 => ?_) (fun c_10 => ?_)
  · replace hf := it_t c_10 hf
    refine lv_aload_n (pc := 18) hx hb dX6_readLine_18 rfl (lv_at hl 0 rfl) ?_
    refine r_get (pc := 19) C hP 0 rfl fl_X6_12 rfl dX6_readLine_19 ?_
    refine r_gets (pc := 22) C (C.kx.1 1 (by decide)).1 hS gs_X6_102 dX6_readLine_22 ?_
    obtain ⟨r_25, hc_25, hf⟩ := bd1 hf
    refine r_dalVi (pc := 25) (ws' := (wX6_readLine E h h_tape h_names h_sorts h_numbers h_inn h_tape_bytes h_inn_house h_inn_thingIn h_inn_full h_inn_states h_inn_bed h_inn_dreamOf h_inn_listensIn h_inn_house_creak h_inn_house_cold h_inn_house_one h_inn_house_other h_inn_house_how h_inn_house_falls h_inn_house_ways v_named v_fault v_number v_tape_length v_tape_end v_tape_at v_tape_start v_tape_kind v_tape_code v_tape_mayName v_tape_value v_inn_minutes v_inn_things v_inn_dreams v_inn_sleepers v_inn_listeners v_tape_bytes v_names v_sorts v_numbers v_inn_listensIn v_inn_bed v_inn_dreamOf v_inn_states v_inn_thingIn v_inn_full v_inn_house_rooms v_inn_house_doors v_inn_house_one v_inn_house_other v_inn_house_how v_inn_house_falls v_inn_house_creak v_inn_house_cold)) (As := [.ref (E.2.2.1 1)]) (rest := []) C (ctX7_isAt l E h_tape h_tape_bytes v_tape_length v_tape_end v_tape_at v_tape_start v_tape_kind v_tape_code v_tape_mayName v_tape_value 1 (by decide) N r_25 hc_25) ml_X6_95 ⟨Nat.le_of_ble_eq_true rfl, Nat.le_of_ble_eq_true rfl⟩ hP hD hS 1 rfl rfl rfl [1] [0, 20, 2, 3, 4, 5, 6, 7, 8, 9, 10, 11, 12, 13, 14, 15, 16, 17, 18, 19] 20 rfl rfl rfl rfl rfl rfl rfl hl.1 rfl (Nat.le_of_ble_eq_true rfl) ⟨Nat.zero_le _, Nat.zero_le _⟩ dX6_readLine_25 ?_
    clear hP hD hS; intro H locs hP hD hS
    refine lv_if_eq (pc := 28) (tgt := 36) hx hb dX6_readLine_28 (by decide) (fun c_28 => ?_) (fun c_28 => ?_)
    · replace hf := it_t c_28 hf
      refine lv_aload_n (pc := 36) hx hb dX6_readLine_36 rfl (lv_at hl 0 rfl) ?_
      refine r_get (pc := 37) C hP 0 rfl fl_X6_12 rfl dX6_readLine_37 ?_
      refine r_gets (pc := 40) C (C.kx.1 2 (by decide)).1 hS gs_X6_108 dX6_readLine_40 ?_
      obtain ⟨r_43, hc_43, hf⟩ := bd1 hf
      refine r_dalVi (pc := 43) (ws' := (wX6_readLine E h h_tape h_names h_sorts h_numbers h_inn h_tape_bytes h_inn_house h_inn_thingIn h_inn_full h_inn_states h_inn_bed h_inn_dreamOf h_inn_listensIn h_inn_house_creak h_inn_house_cold h_inn_house_one h_inn_house_other h_inn_house_how h_inn_house_falls h_inn_house_ways v_named v_fault v_number v_tape_length v_tape_end v_tape_at v_tape_start v_tape_kind v_tape_code v_tape_mayName v_tape_value v_inn_minutes v_inn_things v_inn_dreams v_inn_sleepers v_inn_listeners v_tape_bytes v_names v_sorts v_numbers v_inn_listensIn v_inn_bed v_inn_dreamOf v_inn_states v_inn_thingIn v_inn_full v_inn_house_rooms v_inn_house_doors v_inn_house_one v_inn_house_other v_inn_house_how v_inn_house_falls v_inn_house_creak v_inn_house_cold)) (As := [.ref (E.2.2.1 2)]) (rest := []) C (ctX7_isAt l E h_tape h_tape_bytes v_tape_length v_tape_end v_tape_at v_tape_start v_tape_kind v_tape_code v_tape_mayName v_tape_value 2 (by decide) N r_43 hc_43) ml_X6_95 ⟨Nat.le_of_ble_eq_true rfl, Nat.le_of_ble_eq_true rfl⟩ hP hD hS 1 rfl rfl rfl [1] [0, 20, 2, 3, 4, 5, 6, 7, 8, 9, 10, 11, 12, 13, 14, 15, 16, 17, 18, 19] 20 rfl rfl rfl rfl rfl rfl rfl hl.1 rfl (Nat.le_of_ble_eq_true rfl) ⟨Nat.zero_le _, Nat.zero_le _⟩ dX6_readLine_43 ?_
      clear hP hD hS; intro H locs hP hD hS
      refine lv_if_eq (pc := 46) (tgt := 54) hx hb dX6_readLine_46 (by decide) (fun c_46 => ?_) (fun c_46 => ?_)
      · replace hf := it_t c_46 hf
        refine lv_aload_n (pc := 54) hx hb dX6_readLine_54 rfl (lv_at hl 0 rfl) ?_
        refine r_get (pc := 55) C hP 0 rfl fl_X6_12 rfl dX6_readLine_55 ?_
        refine r_gets (pc := 58) C (C.kx.1 3 (by decide)).1 hS gs_X6_114 dX6_readLine_58 ?_
        obtain ⟨r_61, hc_61, hf⟩ := bd1 hf
        refine r_dalVi (pc := 61) (ws' := (wX6_readLine E h h_tape h_names h_sorts h_numbers h_inn h_tape_bytes h_inn_house h_inn_thingIn h_inn_full h_inn_states h_inn_bed h_inn_dreamOf h_inn_listensIn h_inn_house_creak h_inn_house_cold h_inn_house_one h_inn_house_other h_inn_house_how h_inn_house_falls h_inn_house_ways v_named v_fault v_number v_tape_length v_tape_end v_tape_at v_tape_start v_tape_kind v_tape_code v_tape_mayName v_tape_value v_inn_minutes v_inn_things v_inn_dreams v_inn_sleepers v_inn_listeners v_tape_bytes v_names v_sorts v_numbers v_inn_listensIn v_inn_bed v_inn_dreamOf v_inn_states v_inn_thingIn v_inn_full v_inn_house_rooms v_inn_house_doors v_inn_house_one v_inn_house_other v_inn_house_how v_inn_house_falls v_inn_house_creak v_inn_house_cold)) (As := [.ref (E.2.2.1 3)]) (rest := []) C (ctX7_isAt l E h_tape h_tape_bytes v_tape_length v_tape_end v_tape_at v_tape_start v_tape_kind v_tape_code v_tape_mayName v_tape_value 3 (by decide) N r_61 hc_61) ml_X6_95 ⟨Nat.le_of_ble_eq_true rfl, Nat.le_of_ble_eq_true rfl⟩ hP hD hS 1 rfl rfl rfl [1] [0, 20, 2, 3, 4, 5, 6, 7, 8, 9, 10, 11, 12, 13, 14, 15, 16, 17, 18, 19] 20 rfl rfl rfl rfl rfl rfl rfl hl.1 rfl (Nat.le_of_ble_eq_true rfl) ⟨Nat.zero_le _, Nat.zero_le _⟩ dX6_readLine_61 ?_
        clear hP hD hS; intro H locs hP hD hS
        refine lv_if_eq (pc := 64) (tgt := 72) hx hb dX6_readLine_64 (by decide) (fun c_64 => ?_) (fun c_64 => ?_)
        · replace hf := it_t c_64 hf
          refine lv_aload_n (pc := 72) hx hb dX6_readLine_72 rfl (lv_at hl 0 rfl) ?_
          refine r_get (pc := 73) C hP 0 rfl fl_X6_12 rfl dX6_readLine_73 ?_
          refine r_gets (pc := 76) C (C.kx.1 4 (by decide)).1 hS gs_X6_120 dX6_readLine_76 ?_
          obtain ⟨r_79, hc_79, hf⟩ := bd1 hf
          refine r_dalVi (pc := 79) (ws' := (wX6_readLine E h h_tape h_names h_sorts h_numbers h_inn h_tape_bytes h_inn_house h_inn_thingIn h_inn_full h_inn_states h_inn_bed h_inn_dreamOf h_inn_listensIn h_inn_house_creak h_inn_house_cold h_inn_house_one h_inn_house_other h_inn_house_how h_inn_house_falls h_inn_house_ways v_named v_fault v_number v_tape_length v_tape_end v_tape_at v_tape_start v_tape_kind v_tape_code v_tape_mayName v_tape_value v_inn_minutes v_inn_things v_inn_dreams v_inn_sleepers v_inn_listeners v_tape_bytes v_names v_sorts v_numbers v_inn_listensIn v_inn_bed v_inn_dreamOf v_inn_states v_inn_thingIn v_inn_full v_inn_house_rooms v_inn_house_doors v_inn_house_one v_inn_house_other v_inn_house_how v_inn_house_falls v_inn_house_creak v_inn_house_cold)) (As := [.ref (E.2.2.1 4)]) (rest := []) C (ctX7_isAt l E h_tape h_tape_bytes v_tape_length v_tape_end v_tape_at v_tape_start v_tape_kind v_tape_code v_tape_mayName v_tape_value 4 (by decide) N r_79 hc_79) ml_X6_95 ⟨Nat.le_of_ble_eq_true rfl, Nat.le_of_ble_eq_true rfl⟩ hP hD hS 1 rfl rfl rfl [1] [0, 20, 2, 3, 4, 5, 6, 7, 8, 9, 10, 11, 12, 13, 14, 15, 16, 17, 18, 19] 20 rfl rfl rfl rfl rfl rfl rfl hl.1 rfl (Nat.le_of_ble_eq_true rfl) ⟨Nat.zero_le _, Nat.zero_le _⟩ dX6_readLine_79 ?_
          clear hP hD hS; intro H locs hP hD hS
          refine lv_if_eq (pc := 82) (tgt := 90) hx hb dX6_readLine_82 (by decide) (fun c_82 => ?_) (fun c_82 => ?_)
          · replace hf := it_t c_82 hf
            refine lv_aload_n (pc := 90) hx hb dX6_readLine_90 rfl (lv_at hl 0 rfl) ?_
            refine r_get (pc := 91) C hP 0 rfl fl_X6_12 rfl dX6_readLine_91 ?_
            refine r_gets (pc := 94) C (C.kx.1 5 (by decide)).1 hS gs_X6_126 dX6_readLine_94 ?_
            obtain ⟨r_97, hc_97, hf⟩ := bd1 hf
            refine r_dalVi (pc := 97) (ws' := (wX6_readLine E h h_tape h_names h_sorts h_numbers h_inn h_tape_bytes h_inn_house h_inn_thingIn h_inn_full h_inn_states h_inn_bed h_inn_dreamOf h_inn_listensIn h_inn_house_creak h_inn_house_cold h_inn_house_one h_inn_house_other h_inn_house_how h_inn_house_falls h_inn_house_ways v_named v_fault v_number v_tape_length v_tape_end v_tape_at v_tape_start v_tape_kind v_tape_code v_tape_mayName v_tape_value v_inn_minutes v_inn_things v_inn_dreams v_inn_sleepers v_inn_listeners v_tape_bytes v_names v_sorts v_numbers v_inn_listensIn v_inn_bed v_inn_dreamOf v_inn_states v_inn_thingIn v_inn_full v_inn_house_rooms v_inn_house_doors v_inn_house_one v_inn_house_other v_inn_house_how v_inn_house_falls v_inn_house_creak v_inn_house_cold)) (As := [.ref (E.2.2.1 5)]) (rest := []) C (ctX7_isAt l E h_tape h_tape_bytes v_tape_length v_tape_end v_tape_at v_tape_start v_tape_kind v_tape_code v_tape_mayName v_tape_value 5 (by decide) N r_97 hc_97) ml_X6_95 ⟨Nat.le_of_ble_eq_true rfl, Nat.le_of_ble_eq_true rfl⟩ hP hD hS 1 rfl rfl rfl [1] [0, 20, 2, 3, 4, 5, 6, 7, 8, 9, 10, 11, 12, 13, 14, 15, 16, 17, 18, 19] 20 rfl rfl rfl rfl rfl rfl rfl hl.1 rfl (Nat.le_of_ble_eq_true rfl) ⟨Nat.zero_le _, Nat.zero_le _⟩ dX6_readLine_97 ?_
            clear hP hD hS; intro H locs hP hD hS
            refine lv_if_eq (pc := 100) (tgt := 108) hx hb dX6_readLine_100 (by decide) (fun c_100 => ?_) (fun c_100 => ?_)
            · replace hf := it_t c_100 hf
              refine lv_aload_n (pc := 108) hx hb dX6_readLine_108 rfl (lv_at hl 0 rfl) ?_
              refine r_get (pc := 109) C hP 0 rfl fl_X6_12 rfl dX6_readLine_109 ?_
              refine r_gets (pc := 112) C (C.kx.1 6 (by decide)).1 hS gs_X6_132 dX6_readLine_112 ?_
              obtain ⟨r_115, hc_115, hf⟩ := bd1 hf
              refine r_dalVi (pc := 115) (ws' := (wX6_readLine E h h_tape h_names h_sorts h_numbers h_inn h_tape_bytes h_inn_house h_inn_thingIn h_inn_full h_inn_states h_inn_bed h_inn_dreamOf h_inn_listensIn h_inn_house_creak h_inn_house_cold h_inn_house_one h_inn_house_other h_inn_house_how h_inn_house_falls h_inn_house_ways v_named v_fault v_number v_tape_length v_tape_end v_tape_at v_tape_start v_tape_kind v_tape_code v_tape_mayName v_tape_value v_inn_minutes v_inn_things v_inn_dreams v_inn_sleepers v_inn_listeners v_tape_bytes v_names v_sorts v_numbers v_inn_listensIn v_inn_bed v_inn_dreamOf v_inn_states v_inn_thingIn v_inn_full v_inn_house_rooms v_inn_house_doors v_inn_house_one v_inn_house_other v_inn_house_how v_inn_house_falls v_inn_house_creak v_inn_house_cold)) (As := [.ref (E.2.2.1 6)]) (rest := []) C (ctX7_isAt l E h_tape h_tape_bytes v_tape_length v_tape_end v_tape_at v_tape_start v_tape_kind v_tape_code v_tape_mayName v_tape_value 6 (by decide) N r_115 hc_115) ml_X6_95 ⟨Nat.le_of_ble_eq_true rfl, Nat.le_of_ble_eq_true rfl⟩ hP hD hS 1 rfl rfl rfl [1] [0, 20, 2, 3, 4, 5, 6, 7, 8, 9, 10, 11, 12, 13, 14, 15, 16, 17, 18, 19] 20 rfl rfl rfl rfl rfl rfl rfl hl.1 rfl (Nat.le_of_ble_eq_true rfl) ⟨Nat.zero_le _, Nat.zero_le _⟩ dX6_readLine_115 ?_
              clear hP hD hS; intro H locs hP hD hS
              refine lv_if_eq (pc := 118) (tgt := 126) hx hb dX6_readLine_118 (by decide) (fun c_118 => ?_) (fun c_118 => ?_)
              · replace hf := it_t c_118 hf
                refine lv_aload_n (pc := 126) hx hb dX6_readLine_126 rfl (lv_at hl 0 rfl) ?_
                refine lv_iconst (pc := 127) (v := 1) hx hb dX6_readLine_127 (by decide) ?_
                obtain ⟨r_128, v_fault_128, hc_128, hf⟩ := bd2 hf
                refine r_dalVi (pc := 128) (ws' := (wX6_readLine E h h_tape h_names h_sorts h_numbers h_inn h_tape_bytes h_inn_house h_inn_thingIn h_inn_full h_inn_states h_inn_bed h_inn_dreamOf h_inn_listensIn h_inn_house_creak h_inn_house_cold h_inn_house_one h_inn_house_other h_inn_house_how h_inn_house_falls h_inn_house_ways v_named v_fault_128 v_number v_tape_length v_tape_end v_tape_at v_tape_start v_tape_kind v_tape_code v_tape_mayName v_tape_value v_inn_minutes v_inn_things v_inn_dreams v_inn_sleepers v_inn_listeners v_tape_bytes v_names v_sorts v_numbers v_inn_listensIn v_inn_bed v_inn_dreamOf v_inn_states v_inn_thingIn v_inn_full v_inn_house_rooms v_inn_house_doors v_inn_house_one v_inn_house_other v_inn_house_how v_inn_house_falls v_inn_house_creak v_inn_house_cold)) (As := [.int 1]) (rest := []) C (ctX6_fail l E h h_tape h_names h_sorts h_numbers h_inn v_named v_fault v_number N 1 (r_128, v_fault_128) hc_128) ml_X6_60 ⟨Nat.le_of_ble_eq_true rfl, Nat.le_of_ble_eq_true rfl⟩ hP hD hS 0 rfl rfl rfl [0] [20, 1, 2, 3, 4, 5, 6, 7, 8, 9, 10, 11, 12, 13, 14, 15, 16, 17, 18, 19] 20 rfl rfl rfl rfl rfl rfl rfl hl.1 rfl (Nat.le_of_ble_eq_true rfl) ⟨Nat.zero_le _, Nat.zero_le _⟩ dX6_readLine_128 ?_
                clear hP hD hS; intro H locs hP hD hS
                obtain ⟨hz_131, hf⟩ := zg_s hf
                cases hf
                rw [hQ]
                exact r_zret C hr hP hD hS hz_131 rfl dX6_readLine_131
              · replace hf := it_f c_118 hf
                refine lv_aload_n (pc := 121) hx hb dX6_readLine_121 rfl (lv_at hl 0 rfl) ?_
                obtain ⟨r_122, v_fault_122, v_number_122, v_inn_listeners_122, v_tape_at_122, v_tape_start_122, v_tape_kind_122, v_tape_code_122, v_tape_mayName_122, v_tape_value_122, v_inn_listensIn_122, hc_122, hf⟩ := bd11 hf
                refine r_dalVi (pc := 122) (ws' := (wX6_readLine E h h_tape h_names h_sorts h_numbers h_inn h_tape_bytes h_inn_house h_inn_thingIn h_inn_full h_inn_states h_inn_bed h_inn_dreamOf h_inn_listensIn h_inn_house_creak h_inn_house_cold h_inn_house_one h_inn_house_other h_inn_house_how h_inn_house_falls h_inn_house_ways v_named v_fault_122 v_number_122 v_tape_length v_tape_end v_tape_at_122 v_tape_start_122 v_tape_kind_122 v_tape_code_122 v_tape_mayName_122 v_tape_value_122 v_inn_minutes v_inn_things v_inn_dreams v_inn_sleepers v_inn_listeners_122 v_tape_bytes v_names v_sorts v_numbers v_inn_listensIn_122 v_inn_bed v_inn_dreamOf v_inn_states v_inn_thingIn v_inn_full v_inn_house_rooms v_inn_house_doors v_inn_house_one v_inn_house_other v_inn_house_how v_inn_house_falls v_inn_house_creak v_inn_house_cold)) (As := []) (rest := []) C (ctX6_readListener l E h h_tape h_names h_sorts h_numbers h_inn h_inn_house h_inn_thingIn h_inn_full h_inn_states h_inn_bed h_inn_dreamOf h_inn_listensIn h_tape_bytes v_named v_fault v_number v_inn_minutes v_inn_things v_inn_dreams v_inn_sleepers v_inn_listeners v_tape_length v_tape_end v_tape_at v_tape_start v_tape_kind v_tape_code v_tape_mayName v_tape_value v_tape_bytes v_names v_sorts v_numbers v_inn_listensIn N (r_122, v_fault_122, v_number_122, v_inn_listeners_122, v_tape_at_122, v_tape_start_122, v_tape_kind_122, v_tape_code_122, v_tape_mayName_122, v_tape_value_122, v_inn_listensIn_122) hc_122) ml_X6_135 ⟨Nat.le_of_ble_eq_true rfl, Nat.le_of_ble_eq_true rfl⟩ hP hD hS 0 rfl rfl rfl [0, 2, 1, 3, 4, 5, 6, 7] [20, 22, 21, 23, 24, 25, 26, 27, 8, 9, 10, 11, 12, 13, 14, 15, 16, 17, 18, 19] 20 rfl rfl rfl rfl rfl rfl rfl hl.1 rfl (Nat.le_of_ble_eq_true rfl) ⟨Nat.zero_le _, Nat.zero_le _⟩ dX6_readLine_122 ?_
                clear hP hD hS; intro H locs hP hD hS
                obtain ⟨hz_125, hf⟩ := zg_s hf
                cases hf
                rw [hQ]
                exact r_zret C hr hP hD hS hz_125 rfl dX6_readLine_125
            · replace hf := it_f c_100 hf
              refine lv_aload_n (pc := 103) hx hb dX6_readLine_103 rfl (lv_at hl 0 rfl) ?_
              obtain ⟨r_104, v_named_104, v_fault_104, v_number_104, v_inn_sleepers_104, v_tape_at_104, v_tape_start_104, v_tape_kind_104, v_tape_code_104, v_tape_mayName_104, v_tape_value_104, v_names_104, v_sorts_104, v_numbers_104, v_inn_bed_104, v_inn_dreamOf_104, hc_104, hf⟩ := bd16 hf
              refine r_dalVi (pc := 104) (ws' := (wX6_readLine E h h_tape h_names h_sorts h_numbers h_inn h_tape_bytes h_inn_house h_inn_thingIn h_inn_full h_inn_states h_inn_bed h_inn_dreamOf h_inn_listensIn h_inn_house_creak h_inn_house_cold h_inn_house_one h_inn_house_other h_inn_house_how h_inn_house_falls h_inn_house_ways v_named_104 v_fault_104 v_number_104 v_tape_length v_tape_end v_tape_at_104 v_tape_start_104 v_tape_kind_104 v_tape_code_104 v_tape_mayName_104 v_tape_value_104 v_inn_minutes v_inn_things v_inn_dreams v_inn_sleepers_104 v_inn_listeners v_tape_bytes v_names_104 v_sorts_104 v_numbers_104 v_inn_listensIn v_inn_bed_104 v_inn_dreamOf_104 v_inn_states v_inn_thingIn v_inn_full v_inn_house_rooms v_inn_house_doors v_inn_house_one v_inn_house_other v_inn_house_how v_inn_house_falls v_inn_house_creak v_inn_house_cold)) (As := []) (rest := []) C (ctX6_readSleeper l E h h_tape h_names h_sorts h_numbers h_inn h_inn_house h_inn_thingIn h_inn_full h_inn_states h_inn_bed h_inn_dreamOf h_inn_listensIn h_tape_bytes v_named v_fault v_number v_inn_minutes v_inn_things v_inn_dreams v_inn_sleepers v_inn_listeners v_tape_length v_tape_end v_tape_at v_tape_start v_tape_kind v_tape_code v_tape_mayName v_tape_value v_tape_bytes v_names v_sorts v_numbers v_inn_bed v_inn_dreamOf N (r_104, v_named_104, v_fault_104, v_number_104, v_inn_sleepers_104, v_tape_at_104, v_tape_start_104, v_tape_kind_104, v_tape_code_104, v_tape_mayName_104, v_tape_value_104, v_names_104, v_sorts_104, v_numbers_104, v_inn_bed_104, v_inn_dreamOf_104) hc_104) ml_X6_129 ⟨Nat.le_of_ble_eq_true rfl, Nat.le_of_ble_eq_true rfl⟩ hP hD hS 0 rfl rfl rfl [0, 2, 1, 3, 4, 5, 6, 8, 9] [20, 22, 21, 23, 24, 25, 26, 7, 27, 28, 10, 11, 12, 13, 14, 15, 16, 17, 18, 19] 20 rfl rfl rfl rfl rfl rfl rfl hl.1 rfl (Nat.le_of_ble_eq_true rfl) ⟨Nat.zero_le _, Nat.zero_le _⟩ dX6_readLine_104 ?_
              clear hP hD hS; intro H locs hP hD hS
              obtain ⟨hz_107, hf⟩ := zg_s hf
              cases hf
              rw [hQ]
              exact r_zret C hr hP hD hS hz_107 rfl dX6_readLine_107
          · replace hf := it_f c_82 hf
            refine lv_aload_n (pc := 85) hx hb dX6_readLine_85 rfl (lv_at hl 0 rfl) ?_
            obtain ⟨r_86, v_named_86, v_fault_86, v_number_86, v_tape_at_86, v_tape_start_86, v_tape_kind_86, v_tape_code_86, v_tape_mayName_86, v_tape_value_86, v_names_86, v_inn_dreams_86, v_sorts_86, v_numbers_86, v_inn_states_86, hc_86, hf⟩ := bd15 hf
            refine r_dalVi (pc := 86) (ws' := (wX6_readLine E h h_tape h_names h_sorts h_numbers h_inn h_tape_bytes h_inn_house h_inn_thingIn h_inn_full h_inn_states h_inn_bed h_inn_dreamOf h_inn_listensIn h_inn_house_creak h_inn_house_cold h_inn_house_one h_inn_house_other h_inn_house_how h_inn_house_falls h_inn_house_ways v_named_86 v_fault_86 v_number_86 v_tape_length v_tape_end v_tape_at_86 v_tape_start_86 v_tape_kind_86 v_tape_code_86 v_tape_mayName_86 v_tape_value_86 v_inn_minutes v_inn_things v_inn_dreams_86 v_inn_sleepers v_inn_listeners v_tape_bytes v_names_86 v_sorts_86 v_numbers_86 v_inn_listensIn v_inn_bed v_inn_dreamOf v_inn_states_86 v_inn_thingIn v_inn_full v_inn_house_rooms v_inn_house_doors v_inn_house_one v_inn_house_other v_inn_house_how v_inn_house_falls v_inn_house_creak v_inn_house_cold)) (As := []) (rest := []) C (ctX6_readDream l E h h_tape h_names h_sorts h_numbers h_inn h_tape_bytes h_inn_house h_inn_thingIn h_inn_full h_inn_states h_inn_bed h_inn_dreamOf h_inn_listensIn v_named v_fault v_number v_tape_length v_tape_end v_tape_at v_tape_start v_tape_kind v_tape_code v_tape_mayName v_tape_value v_tape_bytes v_names v_inn_minutes v_inn_things v_inn_dreams v_inn_sleepers v_inn_listeners v_sorts v_numbers v_inn_states N (r_86, v_named_86, v_fault_86, v_number_86, v_tape_at_86, v_tape_start_86, v_tape_kind_86, v_tape_code_86, v_tape_mayName_86, v_tape_value_86, v_names_86, v_inn_dreams_86, v_sorts_86, v_numbers_86, v_inn_states_86) hc_86) ml_X6_123 ⟨Nat.le_of_ble_eq_true rfl, Nat.le_of_ble_eq_true rfl⟩ hP hD hS 0 rfl rfl rfl [0, 1, 3, 4, 2, 5, 6, 10] [20, 21, 24, 22, 23, 25, 26, 7, 8, 9, 27, 11, 12, 13, 14, 15, 16, 17, 18, 19] 20 rfl rfl rfl rfl rfl rfl rfl hl.1 rfl (Nat.le_of_ble_eq_true rfl) ⟨Nat.zero_le _, Nat.zero_le _⟩ dX6_readLine_86 ?_
            clear hP hD hS; intro H locs hP hD hS
            obtain ⟨hz_89, hf⟩ := zg_s hf
            cases hf
            rw [hQ]
            exact r_zret C hr hP hD hS hz_89 rfl dX6_readLine_89
        · replace hf := it_f c_64 hf
          refine lv_aload_n (pc := 67) hx hb dX6_readLine_67 rfl (lv_at hl 0 rfl) ?_
          obtain ⟨r_68, v_named_68, v_fault_68, v_number_68, v_inn_things_68, v_tape_at_68, v_tape_start_68, v_tape_kind_68, v_tape_code_68, v_tape_mayName_68, v_tape_value_68, v_names_68, v_sorts_68, v_numbers_68, v_inn_thingIn_68, v_inn_full_68, hc_68, hf⟩ := bd16 hf
          refine r_dalVi (pc := 68) (ws' := (wX6_readLine E h h_tape h_names h_sorts h_numbers h_inn h_tape_bytes h_inn_house h_inn_thingIn h_inn_full h_inn_states h_inn_bed h_inn_dreamOf h_inn_listensIn h_inn_house_creak h_inn_house_cold h_inn_house_one h_inn_house_other h_inn_house_how h_inn_house_falls h_inn_house_ways v_named_68 v_fault_68 v_number_68 v_tape_length v_tape_end v_tape_at_68 v_tape_start_68 v_tape_kind_68 v_tape_code_68 v_tape_mayName_68 v_tape_value_68 v_inn_minutes v_inn_things_68 v_inn_dreams v_inn_sleepers v_inn_listeners v_tape_bytes v_names_68 v_sorts_68 v_numbers_68 v_inn_listensIn v_inn_bed v_inn_dreamOf v_inn_states v_inn_thingIn_68 v_inn_full_68 v_inn_house_rooms v_inn_house_doors v_inn_house_one v_inn_house_other v_inn_house_how v_inn_house_falls v_inn_house_creak v_inn_house_cold)) (As := []) (rest := []) C (ctX6_readThing l E h h_tape h_names h_sorts h_numbers h_inn h_inn_house h_inn_thingIn h_inn_full h_inn_states h_inn_bed h_inn_dreamOf h_inn_listensIn h_tape_bytes v_named v_fault v_number v_inn_minutes v_inn_things v_inn_dreams v_inn_sleepers v_inn_listeners v_tape_length v_tape_end v_tape_at v_tape_start v_tape_kind v_tape_code v_tape_mayName v_tape_value v_tape_bytes v_names v_sorts v_numbers v_inn_thingIn v_inn_full N (r_68, v_named_68, v_fault_68, v_number_68, v_inn_things_68, v_tape_at_68, v_tape_start_68, v_tape_kind_68, v_tape_code_68, v_tape_mayName_68, v_tape_value_68, v_names_68, v_sorts_68, v_numbers_68, v_inn_thingIn_68, v_inn_full_68) hc_68) ml_X6_117 ⟨Nat.le_of_ble_eq_true rfl, Nat.le_of_ble_eq_true rfl⟩ hP hD hS 0 rfl rfl rfl [0, 2, 1, 3, 4, 5, 6, 11, 12] [20, 22, 21, 23, 24, 25, 26, 7, 8, 9, 10, 27, 28, 13, 14, 15, 16, 17, 18, 19] 20 rfl rfl rfl rfl rfl rfl rfl hl.1 rfl (Nat.le_of_ble_eq_true rfl) ⟨Nat.zero_le _, Nat.zero_le _⟩ dX6_readLine_68 ?_
          clear hP hD hS; intro H locs hP hD hS
          obtain ⟨hz_71, hf⟩ := zg_s hf
          cases hf
          rw [hQ]
          exact r_zret C hr hP hD hS hz_71 rfl dX6_readLine_71
      · replace hf := it_f c_46 hf
        refine lv_aload_n (pc := 49) hx hb dX6_readLine_49 rfl (lv_at hl 0 rfl) ?_
        obtain ⟨r_50, v_fault_50, v_number_50, v_inn_house_doors_50, v_tape_at_50, v_tape_start_50, v_tape_kind_50, v_tape_code_50, v_tape_mayName_50, v_tape_value_50, v_inn_house_one_50, v_inn_house_other_50, v_inn_house_how_50, v_inn_house_falls_50, hc_50, hf⟩ := bd14 hf
        refine r_dalVi (pc := 50) (ws' := (wX6_readLine E h h_tape h_names h_sorts h_numbers h_inn h_tape_bytes h_inn_house h_inn_thingIn h_inn_full h_inn_states h_inn_bed h_inn_dreamOf h_inn_listensIn h_inn_house_creak h_inn_house_cold h_inn_house_one h_inn_house_other h_inn_house_how h_inn_house_falls h_inn_house_ways v_named v_fault_50 v_number_50 v_tape_length v_tape_end v_tape_at_50 v_tape_start_50 v_tape_kind_50 v_tape_code_50 v_tape_mayName_50 v_tape_value_50 v_inn_minutes v_inn_things v_inn_dreams v_inn_sleepers v_inn_listeners v_tape_bytes v_names v_sorts v_numbers v_inn_listensIn v_inn_bed v_inn_dreamOf v_inn_states v_inn_thingIn v_inn_full v_inn_house_rooms v_inn_house_doors_50 v_inn_house_one_50 v_inn_house_other_50 v_inn_house_how_50 v_inn_house_falls_50 v_inn_house_creak v_inn_house_cold)) (As := []) (rest := []) C (ctX6_readDoor l E h h_tape h_names h_sorts h_numbers h_inn h_inn_house h_inn_thingIn h_inn_full h_inn_states h_inn_bed h_inn_dreamOf h_inn_listensIn h_inn_house_creak h_inn_house_cold h_inn_house_one h_inn_house_other h_inn_house_how h_inn_house_falls h_inn_house_ways h_tape_bytes v_named v_fault v_number v_inn_minutes v_inn_things v_inn_dreams v_inn_sleepers v_inn_listeners v_inn_house_rooms v_inn_house_doors v_tape_length v_tape_end v_tape_at v_tape_start v_tape_kind v_tape_code v_tape_mayName v_tape_value v_tape_bytes v_names v_sorts v_numbers v_inn_house_one v_inn_house_other v_inn_house_how v_inn_house_falls N (r_50, v_fault_50, v_number_50, v_inn_house_doors_50, v_tape_at_50, v_tape_start_50, v_tape_kind_50, v_tape_code_50, v_tape_mayName_50, v_tape_value_50, v_inn_house_one_50, v_inn_house_other_50, v_inn_house_how_50, v_inn_house_falls_50) hc_50) ml_X6_111 ⟨Nat.le_of_ble_eq_true rfl, Nat.le_of_ble_eq_true rfl⟩ hP hD hS 0 rfl rfl rfl [0, 2, 13, 1, 3, 4, 5, 6, 14, 15, 16, 17] [20, 23, 21, 24, 25, 26, 27, 7, 8, 9, 10, 11, 12, 22, 28, 29, 30, 31, 18, 19] 20 rfl rfl rfl rfl rfl rfl rfl hl.1 rfl (Nat.le_of_ble_eq_true rfl) ⟨Nat.zero_le _, Nat.zero_le _⟩ dX6_readLine_50 ?_
        clear hP hD hS; intro H locs hP hD hS
        obtain ⟨hz_53, hf⟩ := zg_s hf
        cases hf
        rw [hQ]
        exact r_zret C hr hP hD hS hz_53 rfl dX6_readLine_53
    · replace hf := it_f c_28 hf
      refine lv_aload_n (pc := 31) hx hb dX6_readLine_31 rfl (lv_at hl 0 rfl) ?_
      obtain ⟨r_32, v_named_32, v_fault_32, v_number_32, v_inn_house_rooms_32, v_tape_at_32, v_tape_start_32, v_tape_kind_32, v_tape_code_32, v_tape_mayName_32, v_tape_value_32, v_names_32, v_sorts_32, v_numbers_32, v_inn_house_creak_32, v_inn_house_cold_32, hc_32, hf⟩ := bd16 hf
      refine r_dalVi (pc := 32) (ws' := (wX6_readLine E h h_tape h_names h_sorts h_numbers h_inn h_tape_bytes h_inn_house h_inn_thingIn h_inn_full h_inn_states h_inn_bed h_inn_dreamOf h_inn_listensIn h_inn_house_creak h_inn_house_cold h_inn_house_one h_inn_house_other h_inn_house_how h_inn_house_falls h_inn_house_ways v_named_32 v_fault_32 v_number_32 v_tape_length v_tape_end v_tape_at_32 v_tape_start_32 v_tape_kind_32 v_tape_code_32 v_tape_mayName_32 v_tape_value_32 v_inn_minutes v_inn_things v_inn_dreams v_inn_sleepers v_inn_listeners v_tape_bytes v_names_32 v_sorts_32 v_numbers_32 v_inn_listensIn v_inn_bed v_inn_dreamOf v_inn_states v_inn_thingIn v_inn_full v_inn_house_rooms_32 v_inn_house_doors v_inn_house_one v_inn_house_other v_inn_house_how v_inn_house_falls v_inn_house_creak_32 v_inn_house_cold_32)) (As := []) (rest := []) C (ctX6_readRoom l E h h_tape h_names h_sorts h_numbers h_inn h_inn_house h_inn_thingIn h_inn_full h_inn_states h_inn_bed h_inn_dreamOf h_inn_listensIn h_inn_house_creak h_inn_house_cold h_inn_house_one h_inn_house_other h_inn_house_how h_inn_house_falls h_inn_house_ways h_tape_bytes v_named v_fault v_number v_inn_minutes v_inn_things v_inn_dreams v_inn_sleepers v_inn_listeners v_inn_house_rooms v_inn_house_doors v_tape_length v_tape_end v_tape_at v_tape_start v_tape_kind v_tape_code v_tape_mayName v_tape_value v_tape_bytes v_names v_sorts v_numbers v_inn_house_creak v_inn_house_cold N (r_32, v_named_32, v_fault_32, v_number_32, v_inn_house_rooms_32, v_tape_at_32, v_tape_start_32, v_tape_kind_32, v_tape_code_32, v_tape_mayName_32, v_tape_value_32, v_names_32, v_sorts_32, v_numbers_32, v_inn_house_creak_32, v_inn_house_cold_32) hc_32) ml_X6_105 ⟨Nat.le_of_ble_eq_true rfl, Nat.le_of_ble_eq_true rfl⟩ hP hD hS 0 rfl rfl rfl [0, 2, 13, 1, 3, 4, 5, 6, 18, 19] [20, 23, 21, 24, 25, 26, 27, 7, 8, 9, 10, 11, 12, 22, 14, 15, 16, 17, 28, 29] 20 rfl rfl rfl rfl rfl rfl rfl hl.1 rfl (Nat.le_of_ble_eq_true rfl) ⟨Nat.zero_le _, Nat.zero_le _⟩ dX6_readLine_32 ?_
      clear hP hD hS; intro H locs hP hD hS
      obtain ⟨hz_35, hf⟩ := zg_s hf
      cases hf
      rw [hQ]
      exact r_zret C hr hP hD hS hz_35 rfl dX6_readLine_35
  · replace hf := it_f c_10 hf
    refine lv_aload_n (pc := 13) hx hb dX6_readLine_13 rfl (lv_at hl 0 rfl) ?_
    obtain ⟨r_14, v_fault_14, v_number_14, v_inn_minutes_14, v_tape_at_14, v_tape_start_14, v_tape_kind_14, v_tape_code_14, v_tape_mayName_14, v_tape_value_14, hc_14, hf⟩ := bd10 hf
    refine r_dalVi (pc := 14) (ws' := (wX6_readLine E h h_tape h_names h_sorts h_numbers h_inn h_tape_bytes h_inn_house h_inn_thingIn h_inn_full h_inn_states h_inn_bed h_inn_dreamOf h_inn_listensIn h_inn_house_creak h_inn_house_cold h_inn_house_one h_inn_house_other h_inn_house_how h_inn_house_falls h_inn_house_ways v_named v_fault_14 v_number_14 v_tape_length v_tape_end v_tape_at_14 v_tape_start_14 v_tape_kind_14 v_tape_code_14 v_tape_mayName_14 v_tape_value_14 v_inn_minutes_14 v_inn_things v_inn_dreams v_inn_sleepers v_inn_listeners v_tape_bytes v_names v_sorts v_numbers v_inn_listensIn v_inn_bed v_inn_dreamOf v_inn_states v_inn_thingIn v_inn_full v_inn_house_rooms v_inn_house_doors v_inn_house_one v_inn_house_other v_inn_house_how v_inn_house_falls v_inn_house_creak v_inn_house_cold)) (As := []) (rest := []) C (ctX6_readInn l E h h_tape h_names h_sorts h_numbers h_inn h_inn_house h_inn_thingIn h_inn_full h_inn_states h_inn_bed h_inn_dreamOf h_inn_listensIn h_tape_bytes v_named v_fault v_number v_inn_minutes v_inn_things v_inn_dreams v_inn_sleepers v_inn_listeners v_tape_length v_tape_end v_tape_at v_tape_start v_tape_kind v_tape_code v_tape_mayName v_tape_value v_tape_bytes N (r_14, v_fault_14, v_number_14, v_inn_minutes_14, v_tape_at_14, v_tape_start_14, v_tape_kind_14, v_tape_code_14, v_tape_mayName_14, v_tape_value_14) hc_14) ml_X6_99 ⟨Nat.le_of_ble_eq_true rfl, Nat.le_of_ble_eq_true rfl⟩ hP hD hS 0 rfl rfl rfl [0, 2, 1, 3] [20, 22, 21, 23, 4, 5, 6, 7, 8, 9, 10, 11, 12, 13, 14, 15, 16, 17, 18, 19] 20 rfl rfl rfl rfl rfl rfl rfl hl.1 rfl (Nat.le_of_ble_eq_true rfl) ⟨Nat.zero_le _, Nat.zero_le _⟩ dX6_readLine_14 ?_
    clear hP hD hS; intro H locs hP hD hS
    obtain ⟨hz_17, hf⟩ := zg_s hf
    cases hf
    rw [hQ]
    exact r_zret C hr hP hD hS hz_17 rfl dX6_readLine_17
def wX10_isBitSet (E : EN) : va_W := []
def fX10_isBitSet (N : Nat) (p0 : Int64) (p1 : Int32) : Option Int32 := if (lg_cmp (((p0.toUInt64 >>> (p1.toInt64.toUInt64 &&& Int64.toUInt64 63)).toInt64) &&& 1) 0) = 0 then (some 0) else (some 1)
set_option maxHeartbeats 4000000 in
set_option maxRecDepth 100000 in
theorem ctX10_isBitSet (l : Launch) (E : EN) (N : Nat) (p0 : Int64) (p1 : Int32) (z : Int32) (hf : fX10_isBitSet N p0 p1 = some z) : CTi l E yX10_isBitSet cX10_isBitSet 3 .boolean 0 0 [.long p0, .int p1] (wX10_isBitSet E) (z) (wX10_isBitSet E) := by
  intro sz
  refine ct_body (by decide) (Nat.le_of_ble_eq_true rfl) ?_
  intro p e s m args below meth c A ls hAe C hr hin hP hD hS hl
  have C : CX p s m args meth c cX10_isBitSet RX10 3 E A := C
  have hl : lv_has ls 3 [(0, .long p0), (2, .int p1)] := hl
  have hx := C.1
  have hb := C.2.1
  rw [hAe]
  clear hAe
  obtain ⟨Q, hQ⟩ : ∃ Q, Q = MQ below (Qi E A (z) (wX10_isBitSet E)) args s 0 0 A := ⟨_, rfl⟩
  rw [← hQ]
  unfold fX10_isBitSet at hf
  refine lv_lload_n (pc := 0) hx hb dX10_isBitSet_0 rfl (lv_at hl 0 rfl) ?_
  refine lv_iload_n (pc := 1) hx hb dX10_isBitSet_1 rfl (lv_at hl 1 rfl) ?_
  refine lv_lushr (pc := 2) (v := (p0.toUInt64 >>> (p1.toInt64.toUInt64 &&& Int64.toUInt64 63)).toInt64) hx hb dX10_isBitSet_2 rfl ?_
  refine lv_lconst (pc := 3) (v := 1) hx hb dX10_isBitSet_3 (by decide) ?_
  refine lv_land (pc := 4) hx hb dX10_isBitSet_4 ?_
  refine lv_lconst (pc := 5) (v := 0) hx hb dX10_isBitSet_5 (by decide) ?_
  refine W.lcmp (pc := 6) hx hb dX10_isBitSet_6 ?_
  refine lv_if_eq (pc := 7) (tgt := 14) hx hb dX10_isBitSet_7 (by decide) (fun c_7 => ?_) (fun c_7 => ?_)
  · replace hf := it_t c_7 hf
    refine lv_iconst (pc := 14) (v := 0) hx hb dX10_isBitSet_14 (by decide) ?_
    cases hf
    rw [hQ]
    exact r_zret C hr hP hD hS (Or.inl rfl) rfl dX10_isBitSet_15
  · replace hf := it_f c_7 hf
    refine lv_iconst (pc := 10) (v := 1) hx hb dX10_isBitSet_10 (by decide) ?_
    refine lv_goto (pc := 11) (tgt := 15) hx hb dX10_isBitSet_11 (by decide) ?_
    cases hf
    rw [hQ]
    exact r_zret C hr hP hD hS (Or.inr rfl) rfl dX10_isBitSet_15
def wX8_doorsFrom (E : EN) (h h_steps : Nat) (v_rooms : Int32) (v_steps : Nat → Int32) : va_W := [(h, .inr (8, [.ref h_steps, .int v_rooms])), (h_steps, aI E 64 v_steps)]
def fX8_doorsFrom (N : Nat) (p0 : Int32) (p1 : Int32) (v_steps : Nat → Int32) : Option Int32 := gd ((p0 * 8) + p1) 64 (some (v_steps ((p0 * 8) + p1).toNatClampNeg))
set_option maxHeartbeats 4000000 in
set_option maxRecDepth 100000 in
theorem ctX8_doorsFrom (l : Launch) (E : EN) (h h_steps : Nat) (v_rooms : Int32) (v_steps : Nat → Int32) (N : Nat) (p0 : Int32) (p1 : Int32) (z : Int32) (hf : fX8_doorsFrom N p0 p1 v_steps = some z) : CTi l E yX8_doorsFrom cX8_doorsFrom 3 .int 0 0 [.ref h, .int p0, .int p1] (wX8_doorsFrom E h h_steps v_rooms v_steps) (z) (wX8_doorsFrom E h h_steps v_rooms v_steps) := by
  intro sz
  refine ct_body (by decide) (Nat.le_of_ble_eq_true rfl) ?_
  intro p e s m args below meth c A ls hAe C hr hin hP hD hS hl
  have C : CX p s m args meth c cX8_doorsFrom RX8 3 E A := C
  have hl : lv_has ls 3 [(0, .ref h), (1, .int p0), (2, .int p1)] := hl
  have hx := C.1
  have hb := C.2.1
  rw [hAe]
  clear hAe
  obtain ⟨Q, hQ⟩ : ∃ Q, Q = MQ below (Qi E A (z) (wX8_doorsFrom E h h_steps v_rooms v_steps)) args s 0 0 A := ⟨_, rfl⟩
  rw [← hQ]
  unfold fX8_doorsFrom at hf
  refine lv_aload_n (pc := 0) hx hb dX8_doorsFrom_0 rfl (lv_at hl 0 rfl) ?_
  refine r_get (pc := 1) C hP 0 rfl fl_X8_9 rfl dX8_doorsFrom_1 ?_
  refine lv_iload_n (pc := 4) hx hb dX8_doorsFrom_4 rfl (lv_at hl 1 rfl) ?_
  refine lv_bipush (pc := 5) (v := 8) hx hb dX8_doorsFrom_5 (by decide) ?_
  refine lv_imul (pc := 7) hx hb dX8_doorsFrom_7 ?_
  refine lv_iload_n (pc := 8) hx hb dX8_doorsFrom_8 rfl (lv_at hl 2 rfl) ?_
  refine lv_iadd (pc := 9) hx hb dX8_doorsFrom_9 ?_
  obtain ⟨hi_10, hf⟩ := gd_s hf
  refine r_iald (pc := 10) C hP 1 rfl hi_10 dX8_doorsFrom_10 ?_
  cases hf
  rw [hQ]
  exact r_iret C hr hP hD hS rfl dX8_doorsFrom_11
def wX8_shorten (E : EN) (h h_steps : Nat) (v_rooms : Int32) (v_steps : Nat → Int32) : va_W := [(h, .inr (8, [.ref h_steps, .int v_rooms])), (h_steps, aI E 64 v_steps)]
def BX8_shorten_10 (v_rooms : Int32) (N : Nat) (p1 : Int32) (p0 : Int32) (r_3 : Int32) (rec10 : (Int32 × (Nat → Int32)) → Option (Nat → Int32)) : (Int32 × (Nat → Int32)) → Option (Nat → Int32) := un2 fun (x10_4 : Int32) (x10_steps : Nat → Int32) => if v_rooms ≤ x10_4 then (some x10_steps) else ((fX8_doorsFrom N p1 x10_4 x10_steps).bind (un1 fun (r_24 : Int32) => (fX8_doorsFrom N p0 x10_4 x10_steps).bind (un1 fun (r_36 : Int32) => jn (un1 fun (x56_steps : Nat → Int32) => rec10 (x10_4 + 1, x56_steps)) (fun j56 => if r_36 ≤ (r_3 + r_24) then (j56 x10_steps) else (gd ((p0 * 8) + x10_4) 64 (j56 (upd x10_steps ((p0 * 8) + x10_4).toNatClampNeg (r_3 + r_24))))))))
def fX8_shorten (N : Nat) (p0 : Int32) (p1 : Int32) (v_rooms : Int32) (v_steps : Nat → Int32) : Option (Nat → Int32) := (fX8_doorsFrom N p0 p1 v_steps).bind (un1 fun (r_3 : Int32) => lp (BX8_shorten_10 v_rooms N p1 p0 r_3) N (0, v_steps))
set_option maxHeartbeats 4000000 in
set_option maxRecDepth 100000 in
theorem ctX8_shorten (l : Launch) (E : EN) (h h_steps : Nat) (v_rooms : Int32) (v_steps : Nat → Int32) (N : Nat) (p0 : Int32) (p1 : Int32) (z : Nat → Int32) (hf : fX8_shorten N p0 p1 v_rooms v_steps = some z) : CTv l E yX8_shorten cX8_shorten 6 1 22 [.ref h, .int p0, .int p1] (wX8_shorten E h h_steps v_rooms v_steps) (wX8_shorten E h h_steps v_rooms z) := by
  intro sz
  refine ct_body (by decide) (Nat.le_of_ble_eq_true rfl) ?_
  intro p e s m args below meth c A ls hAe C hr hin hP hD hS hl
  have C : CX p s m args meth c cX8_shorten RX8 6 E A := C
  have hl : lv_has ls 6 [(0, .ref h), (1, .int p0), (2, .int p1)] := hl
  have hx := C.1
  have hb := C.2.1
  rw [hAe]
  clear hAe
  obtain ⟨Q, hQ⟩ : ∃ Q, Q = MQ below (Qv E A (wX8_shorten E h h_steps v_rooms z)) args s 0 0 A := ⟨_, rfl⟩
  rw [← hQ]
  unfold fX8_shorten at hf
  refine lv_aload_n (pc := 0) hx hb dX8_shorten_0 rfl (lv_at hl 0 rfl) ?_
  refine lv_iload_n (pc := 1) hx hb dX8_shorten_1 rfl (lv_at hl 1 rfl) ?_
  refine lv_iload_n (pc := 2) hx hb dX8_shorten_2 rfl (lv_at hl 2 rfl) ?_
  obtain ⟨r_3, hc_3, hf⟩ := bd1 hf
  refine r_dalVi (pc := 3) (ws' := (wX8_shorten E h h_steps v_rooms v_steps)) (As := [.int p0, .int p1]) (rest := []) C (ctX8_doorsFrom l E h h_steps v_rooms v_steps N p0 p1 r_3 hc_3) ml_X8_45 ⟨Nat.le_of_ble_eq_true rfl, Nat.le_of_ble_eq_true rfl⟩ hP hD hS 0 rfl rfl rfl [0, 1] [2, 3] 2 rfl rfl rfl rfl rfl rfl rfl hl.1 rfl (Nat.le_of_ble_eq_true rfl) ⟨Nat.zero_le _, Nat.zero_le _⟩ dX8_shorten_3 ?_
  clear hP hD hS; intro H locs hP hD hS
  refine lv_istore_n (pc := 6) (lv' := [(3, .int r_3), (0, .ref h), (1, .int p0), (2, .int p1)]) hx hb dX8_shorten_6 rfl hl (by decide) rfl (fun ls hl => ?_)
  refine lv_iconst (pc := 7) (v := 0) hx hb dX8_shorten_7 (by decide) ?_
  refine lv_istore (pc := 8) (lv' := [(4, .int 0), (3, .int r_3), (0, .ref h), (1, .int p0), (2, .int p1)]) hx hb dX8_shorten_8 hl (by decide) rfl (fun ls hl => ?_)
  have key10 : ∀ (n : Nat) (x10_4 : Int32) (x10_steps : Nat → Int32) , lp (BX8_shorten_10 v_rooms N p1 p0 r_3) n (x10_4, x10_steps) = some z → AT p l e (rmOf 1 22) s m args below meth c E A Q 0 0 6 [(0, .ref h), (1, .int p0), (2, .int p1), (3, .int r_3), (4, .int x10_4)] (wX8_shorten E h h_steps v_rooms x10_steps) 10 [] := by
    intro n
    induction n with
    | zero => intro x10_4 x10_steps hf; exact (lp_0 hf).elim
    | succ n ih10 =>
      intro x10_4 x10_steps hf H locs ls hl hP hD hS
      replace hf := lp_s hf
      generalize lp (BX8_shorten_10 v_rooms N p1 p0 r_3) n = rec10 at ih10 hf
      unfold BX8_shorten_10 at hf
      replace hf := un2_s hf
      refine lv_iload (pc := 10) hx hb dX8_shorten_10 (lv_at hl 4 rfl) ?_
      refine lv_aload_n (pc := 12) hx hb dX8_shorten_12 rfl (lv_at hl 0 rfl) ?_
      refine r_get (pc := 13) C hP 0 rfl fl_X8_21 rfl dX8_shorten_13 ?_
      refine lv_icmp_ge (pc := 16) (tgt := 62) hx hb dX8_shorten_16 (by decide) (fun c_16 => ?_) (fun c_16 => ?_)
      · replace hf := it_t c_16 hf
        cases hf
        rw [hQ]
        exact r_vret C hr hP hD hS dX8_shorten_62
      · replace hf := it_f c_16 hf
        refine lv_iload_n (pc := 19) hx hb dX8_shorten_19 rfl (lv_at hl 3 rfl) ?_
        refine lv_aload_n (pc := 20) hx hb dX8_shorten_20 rfl (lv_at hl 0 rfl) ?_
        refine lv_iload_n (pc := 21) hx hb dX8_shorten_21 rfl (lv_at hl 2 rfl) ?_
        refine lv_iload (pc := 22) hx hb dX8_shorten_22 (lv_at hl 4 rfl) ?_
        obtain ⟨r_24, hc_24, hf⟩ := bd1 hf
        refine r_dalVi (pc := 24) (ws' := (wX8_shorten E h h_steps v_rooms x10_steps)) (As := [.int p1, .int x10_4]) (rest := [.int r_3]) C (ctX8_doorsFrom l E h h_steps v_rooms x10_steps N p1 x10_4 r_24 hc_24) ml_X8_45 ⟨Nat.le_of_ble_eq_true rfl, Nat.le_of_ble_eq_true rfl⟩ hP hD hS 0 rfl rfl rfl [0, 1] [2, 3] 2 rfl rfl rfl rfl rfl rfl rfl hl.1 rfl (Nat.le_of_ble_eq_true rfl) ⟨Nat.zero_le _, Nat.zero_le _⟩ dX8_shorten_24 ?_
        clear hP hD hS; intro H locs hP hD hS
        refine lv_iadd (pc := 27) hx hb dX8_shorten_27 ?_
        refine lv_istore (pc := 28) (lv' := [(5, .int (r_3 + r_24)), (0, .ref h), (1, .int p0), (2, .int p1), (3, .int r_3), (4, .int x10_4)]) hx hb dX8_shorten_28 hl (by decide) rfl (fun ls hl => ?_)
        refine lv_iload (pc := 30) hx hb dX8_shorten_30 (lv_at hl 0 rfl) ?_
        refine lv_aload_n (pc := 32) hx hb dX8_shorten_32 rfl (lv_at hl 1 rfl) ?_
        refine lv_iload_n (pc := 33) hx hb dX8_shorten_33 rfl (lv_at hl 2 rfl) ?_
        refine lv_iload (pc := 34) hx hb dX8_shorten_34 (lv_at hl 5 rfl) ?_
        obtain ⟨r_36, hc_36, hf⟩ := bd1 hf
        refine r_dalVi (pc := 36) (ws' := (wX8_shorten E h h_steps v_rooms x10_steps)) (As := [.int p0, .int x10_4]) (rest := [.int (r_3 + r_24)]) C (ctX8_doorsFrom l E h h_steps v_rooms x10_steps N p0 x10_4 r_36 hc_36) ml_X8_45 ⟨Nat.le_of_ble_eq_true rfl, Nat.le_of_ble_eq_true rfl⟩ hP hD hS 0 rfl rfl rfl [0, 1] [2, 3] 2 rfl rfl rfl rfl rfl rfl rfl hl.1 rfl (Nat.le_of_ble_eq_true rfl) ⟨Nat.zero_le _, Nat.zero_le _⟩ dX8_shorten_36 ?_
        clear hP hD hS; intro H locs hP hD hS
        refine jnK hf (fun j56 ej56 hf => ?_)
        have hj56 : ∀ (x56_steps : Nat → Int32) , j56 x56_steps = some z → AT p l e (rmOf 1 22) s m args below meth c E A Q 0 0 6 [(0, .ref h), (1, .int p0), (2, .int p1), (3, .int r_3), (4, .int x10_4)] (wX8_shorten E h h_steps v_rooms x56_steps) 56 [] := by
          intro x56_steps hf H locs ls hl hP hD hS
          rw [ej56] at hf
          replace hf := un1_s hf
          refine lv_iinc (pc := 56) (v := x10_4 + 1) (lv' := [(4, .int (x10_4 + 1)), (0, .ref h), (1, .int p0), (2, .int p1), (3, .int r_3)]) hx hb dX8_shorten_56 hl (k := 4) rfl rfl (by decide) rfl (fun ls hl => ?_)
          refine lv_goto (pc := 59) (tgt := 10) hx hb dX8_shorten_59 (by decide) ?_
          exact ih10 (x10_4 + 1) x56_steps hf _ _ _ (lv_sub hl [1, 2, 3, 4, 0] rfl) hP hD hS
        clear ej56
        refine lv_icmp_ge (pc := 39) (tgt := 56) hx hb dX8_shorten_39 (by decide) (fun c_39 => ?_) (fun c_39 => ?_)
        · replace hf := it_t c_39 hf
          exact hj56 x10_steps hf _ _ _ (lv_sub hl [1, 2, 3, 4, 5] rfl) hP hD hS
        · replace hf := it_f c_39 hf
          refine lv_aload_n (pc := 42) hx hb dX8_shorten_42 rfl (lv_at hl 1 rfl) ?_
          refine r_get (pc := 43) C hP 0 rfl fl_X8_9 rfl dX8_shorten_43 ?_
          refine lv_iload_n (pc := 46) hx hb dX8_shorten_46 rfl (lv_at hl 2 rfl) ?_
          refine lv_bipush (pc := 47) (v := 8) hx hb dX8_shorten_47 (by decide) ?_
          refine lv_imul (pc := 49) hx hb dX8_shorten_49 ?_
          refine lv_iload (pc := 50) hx hb dX8_shorten_50 (lv_at hl 5 rfl) ?_
          refine lv_iadd (pc := 52) hx hb dX8_shorten_52 ?_
          refine lv_iload (pc := 53) hx hb dX8_shorten_53 (lv_at hl 0 rfl) ?_
          obtain ⟨hi_55, hf⟩ := gd_s hf
          refine r_iast (pc := 55) (ws' := (wX8_shorten E h h_steps v_rooms (upd x10_steps ((p0 * 8) + x10_4).toNatClampNeg (r_3 + r_24)))) C hP hD hS 1 rfl hi_55 rfl dX8_shorten_55 ?_
          clear hP hD hS; intro H locs hP hD hS
          exact hj56 (upd x10_steps ((p0 * 8) + x10_4).toNatClampNeg (r_3 + r_24)) hf _ _ _ (lv_sub hl [1, 2, 3, 4, 5] rfl) hP hD hS
  exact key10 _ 0 v_steps hf _ _ _ (lv_sub hl [2, 3, 4, 1, 0] rfl) hP hD hS
def wX8_measure (E : EN) (a0 a0_creak a0_cold a0_one a0_other a0_how a0_falls a0_ways h h_steps : Nat) (v_a0_rooms : Int32) (v_a0_doors : Int32) (v_rooms : Int32) (v_steps : Nat → Int32) (v_a0_one : Nat → Int32) (v_a0_other : Nat → Int32) : va_W := [(a0, .inr (1, [.int v_a0_rooms, .ref a0_creak, .ref a0_cold, .int v_a0_doors, .ref a0_one, .ref a0_other, .ref a0_how, .ref a0_falls, .ref a0_ways])), (h, .inr (8, [.ref h_steps, .int v_rooms])), (h_steps, aI E 64 v_steps), (a0_one, aI E 10 v_a0_one), (a0_other, aI E 10 v_a0_other)]
def BX8_measure_127 (v_a0_rooms : Int32) (N : Nat) (x116_3 : Int32) (K149 : ((Nat → Int32)) → Option (Int32 × (Nat → Int32))) (rec127 : (Int32 × (Nat → Int32)) → Option (Int32 × (Nat → Int32))) : (Int32 × (Nat → Int32)) → Option (Int32 × (Nat → Int32)) := un2 fun (x127_4 : Int32) (x127_steps : Nat → Int32) => if v_a0_rooms ≤ x127_4 then (K149 x127_steps) else ((fX8_shorten N x127_4 x116_3 v_a0_rooms x127_steps).bind (un1 fun (v_steps_140 : Nat → Int32) => rec127 (x127_4 + 1, v_steps_140)))
def BX8_measure_116 (v_a0_rooms : Int32) (N : Nat) (rec116 : (Int32 × (Nat → Int32)) → Option (Int32 × (Nat → Int32))) : (Int32 × (Nat → Int32)) → Option (Int32 × (Nat → Int32)) := un2 fun (x116_3 : Int32) (x116_steps : Nat → Int32) => if v_a0_rooms ≤ x116_3 then (some (v_a0_rooms, x116_steps)) else (lp (BX8_measure_127 v_a0_rooms N x116_3 (un1 fun (x149_steps : Nat → Int32) => rec116 (x116_3 + 1, x149_steps))) N (0, x116_steps))
def BX8_measure_47 (v_a0_doors : Int32) (N : Nat) (p1 : Int32) (v_a0_one : Nat → Int32) (v_a0_other : Nat → Int32) (K114 : ((Nat → Int32)) → Option (Int32 × (Nat → Int32))) (rec47 : (Int32 × (Nat → Int32)) → Option (Int32 × (Nat → Int32))) : (Int32 × (Nat → Int32)) → Option (Int32 × (Nat → Int32)) := un2 fun (x47_3 : Int32) (x47_steps : Nat → Int32) => if v_a0_doors ≤ x47_3 then (K114 x47_steps) else ((fX10_isBitSet N p1.toInt64 x47_3).bind (un1 fun (r_58 : Int32) => jn (un1 fun (x108_steps : Nat → Int32) => rec47 (x47_3 + 1, x108_steps)) (fun j108 => if r_58 = 0 then (gd x47_3 10 (gd x47_3 10 (gd (((v_a0_one x47_3.toNatClampNeg) * 8) + (v_a0_other x47_3.toNatClampNeg)) 64 (gd x47_3 10 (gd x47_3 10 (gd (((v_a0_other x47_3.toNatClampNeg) * 8) + (v_a0_one x47_3.toNatClampNeg)) 64 (j108 (upd (upd x47_steps (((v_a0_one x47_3.toNatClampNeg) * 8) + (v_a0_other x47_3.toNatClampNeg)).toNatClampNeg 1) (((v_a0_other x47_3.toNatClampNeg) * 8) + (v_a0_one x47_3.toNatClampNeg)).toNatClampNeg 1)))))))) else (j108 x47_steps))))
def BX8_measure_19 (v_a0_rooms : Int32) (K45 : ((Nat → Int32)) → Option (Int32 × (Nat → Int32))) (rec19 : (Int32 × (Nat → Int32)) → Option (Int32 × (Nat → Int32))) : (Int32 × (Nat → Int32)) → Option (Int32 × (Nat → Int32)) := un2 fun (x19_3 : Int32) (x19_steps : Nat → Int32) => if v_a0_rooms ≤ x19_3 then (K45 x19_steps) else (gd ((x19_3 * 8) + x19_3) 64 (rec19 (x19_3 + 1, upd x19_steps ((x19_3 * 8) + x19_3).toNatClampNeg 0)))
def fX8_measure (N : Nat) (p1 : Int32) (v_a0_rooms : Int32) (v_a0_doors : Int32) (v_steps : Nat → Int32) (v_a0_one : Nat → Int32) (v_a0_other : Nat → Int32) : Option (Int32 × (Nat → Int32)) := (fJ7_fill_53178 N 99 v_steps).bind (un1 fun (v_steps_14 : Nat → Int32) => lp (BX8_measure_19 v_a0_rooms (un1 fun (x45_steps : Nat → Int32) => lp (BX8_measure_47 v_a0_doors N p1 v_a0_one v_a0_other (un1 fun (x114_steps : Nat → Int32) => lp (BX8_measure_116 v_a0_rooms N) N (0, x114_steps))) N (0, x45_steps))) N (0, v_steps_14))
set_option maxHeartbeats 4000000 in
set_option maxRecDepth 100000 in
theorem ctX8_measure (l : Launch) (E : EN) (a0 a0_creak a0_cold a0_one a0_other a0_how a0_falls a0_ways h h_steps : Nat) (v_a0_rooms : Int32) (v_a0_doors : Int32) (v_rooms : Int32) (v_steps : Nat → Int32) (v_a0_one : Nat → Int32) (v_a0_other : Nat → Int32) (N : Nat) (p1 : Int32) (z : Int32 × (Nat → Int32)) (hf : fX8_measure N p1 v_a0_rooms v_a0_doors v_steps v_a0_one v_a0_other = some z) : CTv l E yX8_measure cX8_measure 5 2 47 [.ref h, .ref a0, .int p1] (wX8_measure E a0 a0_creak a0_cold a0_one a0_other a0_how a0_falls a0_ways h h_steps v_a0_rooms v_a0_doors v_rooms v_steps v_a0_one v_a0_other) (wX8_measure E a0 a0_creak a0_cold a0_one a0_other a0_how a0_falls a0_ways h h_steps v_a0_rooms v_a0_doors z.1 z.2 v_a0_one v_a0_other) := by
  intro sz
  refine ct_body (by decide) (Nat.le_of_ble_eq_true rfl) ?_
  intro p e s m args below meth c A ls hAe C hr hin hP hD hS hl
  have C : CX p s m args meth c cX8_measure RX8 5 E A := C
  have hl : lv_has ls 5 [(0, .ref h), (1, .ref a0), (2, .int p1)] := hl
  have hx := C.1
  have hb := C.2.1
  rw [hAe]
  clear hAe
  obtain ⟨Q, hQ⟩ : ∃ Q, Q = MQ below (Qv E A (wX8_measure E a0 a0_creak a0_cold a0_one a0_other a0_how a0_falls a0_ways h h_steps v_a0_rooms v_a0_doors z.1 z.2 v_a0_one v_a0_other)) args s 0 0 A := ⟨_, rfl⟩
  rw [← hQ]
  unfold fX8_measure at hf
  refine lv_aload_n (pc := 0) hx hb dX8_measure_0 rfl (lv_at hl 0 rfl) ?_
  refine lv_aload_n (pc := 1) hx hb dX8_measure_1 rfl (lv_at hl 1 rfl) ?_
  refine r_get (pc := 2) C hP 0 rfl fl_X8_15 rfl dX8_measure_2 ?_
  refine r_put (pc := 5) (ws' := (wX8_measure E a0 a0_creak a0_cold a0_one a0_other a0_how a0_falls a0_ways h h_steps v_a0_rooms v_a0_doors v_a0_rooms v_steps v_a0_one v_a0_other)) C hP hD hS 1 rfl fl_X8_21 rfl rfl (Nat.le_of_ble_eq_true rfl) rfl dX8_measure_5 ?_
  clear hP hD hS; intro H locs hP hD hS
  refine lv_aload_n (pc := 8) hx hb dX8_measure_8 rfl (lv_at hl 0 rfl) ?_
  refine r_get (pc := 9) C hP 1 rfl fl_X8_9 rfl dX8_measure_9 ?_
  refine lv_bipush (pc := 12) (v := 99) hx hb dX8_measure_12 (by decide) ?_
  obtain ⟨v_steps_14, hc_14, hf⟩ := bd1 hf
  refine r_dalSv (pc := 14) (Cn := "") (h := 0) (ws' := (wX8_measure E a0 a0_creak a0_cold a0_one a0_other a0_how a0_falls a0_ways h h_steps v_a0_rooms v_a0_doors v_a0_rooms v_steps_14 v_a0_one v_a0_other)) (As := [.ref h_steps, .int 99]) (rest := []) C (ctJ7_fill_53178 l E h_steps v_steps N 99 v_steps_14 hc_14) ml_X8_22 ⟨Nat.le_of_ble_eq_true rfl, Nat.le_of_ble_eq_true rfl⟩ hP hD hS [2] [0, 1, 5, 3, 4] 5 rfl rfl rfl rfl rfl rfl rfl hl.1 rfl (Nat.le_of_ble_eq_true rfl) ⟨Nat.zero_le _, Nat.zero_le _⟩ dX8_measure_14 ?_
  clear hP hD hS; intro H locs hP hD hS
  refine lv_iconst (pc := 17) (v := 0) hx hb dX8_measure_17 (by decide) ?_
  refine lv_istore_n (pc := 18) (lv' := [(3, .int 0), (0, .ref h), (1, .ref a0), (2, .int p1)]) hx hb dX8_measure_18 rfl hl (by decide) rfl (fun ls hl => ?_)
  refine lpK hf (fun K45 eK45 hf => ?_)
  have hK45 : ∀ (x45_steps : Nat → Int32) , K45 x45_steps = some z → AT p l e (rmOf 2 47) s m args below meth c E A Q 0 0 5 [(0, .ref h), (1, .ref a0), (2, .int p1)] (wX8_measure E a0 a0_creak a0_cold a0_one a0_other a0_how a0_falls a0_ways h h_steps v_a0_rooms v_a0_doors v_a0_rooms x45_steps v_a0_one v_a0_other) 45 [] := by
    intro x45_steps hf H locs ls hl hP hD hS
    rw [eK45] at hf
    replace hf := un1_s hf
    refine lv_iconst (pc := 45) (v := 0) hx hb dX8_measure_45 (by decide) ?_
    refine lv_istore_n (pc := 46) (lv' := [(3, .int 0), (0, .ref h), (1, .ref a0), (2, .int p1)]) hx hb dX8_measure_46 rfl hl (by decide) rfl (fun ls hl => ?_)
    refine lpK hf (fun K114 eK114 hf => ?_)
    have hK114 : ∀ (x114_steps : Nat → Int32) , K114 x114_steps = some z → AT p l e (rmOf 2 47) s m args below meth c E A Q 0 0 5 [(0, .ref h)] (wX8_measure E a0 a0_creak a0_cold a0_one a0_other a0_how a0_falls a0_ways h h_steps v_a0_rooms v_a0_doors v_a0_rooms x114_steps v_a0_one v_a0_other) 114 [] := by
      intro x114_steps hf H locs ls hl hP hD hS
      rw [eK114] at hf
      replace hf := un1_s hf
      refine lv_iconst (pc := 114) (v := 0) hx hb dX8_measure_114 (by decide) ?_
      refine lv_istore_n (pc := 115) (lv' := [(3, .int 0), (0, .ref h)]) hx hb dX8_measure_115 rfl hl (by decide) rfl (fun ls hl => ?_)
      have key116 : ∀ (n : Nat) (x116_3 : Int32) (x116_steps : Nat → Int32) , lp (BX8_measure_116 v_a0_rooms N) n (x116_3, x116_steps) = some z → AT p l e (rmOf 2 47) s m args below meth c E A Q 0 0 5 [(0, .ref h), (3, .int x116_3)] (wX8_measure E a0 a0_creak a0_cold a0_one a0_other a0_how a0_falls a0_ways h h_steps v_a0_rooms v_a0_doors v_a0_rooms x116_steps v_a0_one v_a0_other) 116 [] := by
        intro n
        induction n with
        | zero => intro x116_3 x116_steps hf; exact (lp_0 hf).elim
        | succ n ih116 =>
          intro x116_3 x116_steps hf H locs ls hl hP hD hS
          replace hf := lp_s hf
          generalize lp (BX8_measure_116 v_a0_rooms N) n = rec116 at ih116 hf
          unfold BX8_measure_116 at hf
          replace hf := un2_s hf
          refine lv_iload_n (pc := 116) hx hb dX8_measure_116 rfl (lv_at hl 1 rfl) ?_
          refine lv_aload_n (pc := 117) hx hb dX8_measure_117 rfl (lv_at hl 0 rfl) ?_
          refine r_get (pc := 118) C hP 1 rfl fl_X8_21 rfl dX8_measure_118 ?_
          refine lv_icmp_ge (pc := 121) (tgt := 155) hx hb dX8_measure_121 (by decide) (fun c_121 => ?_) (fun c_121 => ?_)
          · replace hf := it_t c_121 hf
            cases hf
            rw [hQ]
            exact r_vret C hr hP hD hS dX8_measure_155
          · replace hf := it_f c_121 hf
            refine lv_iconst (pc := 124) (v := 0) hx hb dX8_measure_124 (by decide) ?_
            refine lv_istore (pc := 125) (lv' := [(4, .int 0), (0, .ref h), (3, .int x116_3)]) hx hb dX8_measure_125 hl (by decide) rfl (fun ls hl => ?_)
            refine lpK hf (fun K149 eK149 hf => ?_)
            have hK149 : ∀ (x149_steps : Nat → Int32) , K149 x149_steps = some z → AT p l e (rmOf 2 47) s m args below meth c E A Q 0 0 5 [(0, .ref h), (3, .int x116_3)] (wX8_measure E a0 a0_creak a0_cold a0_one a0_other a0_how a0_falls a0_ways h h_steps v_a0_rooms v_a0_doors v_a0_rooms x149_steps v_a0_one v_a0_other) 149 [] := by
              intro x149_steps hf H locs ls hl hP hD hS
              rw [eK149] at hf
              replace hf := un1_s hf
              refine lv_iinc (pc := 149) (v := x116_3 + 1) (lv' := [(3, .int (x116_3 + 1)), (0, .ref h)]) hx hb dX8_measure_149 hl (k := 1) rfl rfl (by decide) rfl (fun ls hl => ?_)
              refine lv_goto (pc := 152) (tgt := 116) hx hb dX8_measure_152 (by decide) ?_
              exact ih116 (x116_3 + 1) x149_steps hf _ _ _ (lv_sub hl [1, 0] rfl) hP hD hS
            clear eK149
            have key127 : ∀ (n : Nat) (x127_4 : Int32) (x127_steps : Nat → Int32) , lp (BX8_measure_127 v_a0_rooms N x116_3 K149) n (x127_4, x127_steps) = some z → AT p l e (rmOf 2 47) s m args below meth c E A Q 0 0 5 [(0, .ref h), (3, .int x116_3), (4, .int x127_4)] (wX8_measure E a0 a0_creak a0_cold a0_one a0_other a0_how a0_falls a0_ways h h_steps v_a0_rooms v_a0_doors v_a0_rooms x127_steps v_a0_one v_a0_other) 127 [] := by
              intro n
              induction n with
              | zero => intro x127_4 x127_steps hf; exact (lp_0 hf).elim
              | succ n ih127 =>
                intro x127_4 x127_steps hf H locs ls hl hP hD hS
                replace hf := lp_s hf
                generalize lp (BX8_measure_127 v_a0_rooms N x116_3 K149) n = rec127 at ih127 hf
                unfold BX8_measure_127 at hf
                replace hf := un2_s hf
                refine lv_iload (pc := 127) hx hb dX8_measure_127 (lv_at hl 2 rfl) ?_
                refine lv_aload_n (pc := 129) hx hb dX8_measure_129 rfl (lv_at hl 0 rfl) ?_
                refine r_get (pc := 130) C hP 1 rfl fl_X8_21 rfl dX8_measure_130 ?_
                refine lv_icmp_ge (pc := 133) (tgt := 149) hx hb dX8_measure_133 (by decide) (fun c_133 => ?_) (fun c_133 => ?_)
                · replace hf := it_t c_133 hf
                  exact hK149 x127_steps hf _ _ _ (lv_sub hl [0, 1] rfl) hP hD hS
                · replace hf := it_f c_133 hf
                  refine lv_aload_n (pc := 136) hx hb dX8_measure_136 rfl (lv_at hl 0 rfl) ?_
                  refine lv_iload (pc := 137) hx hb dX8_measure_137 (lv_at hl 2 rfl) ?_
                  refine lv_iload_n (pc := 139) hx hb dX8_measure_139 rfl (lv_at hl 1 rfl) ?_
                  obtain ⟨v_steps_140, hc_140, hf⟩ := bd1 hf
                  refine r_dalVv (pc := 140) (ws' := (wX8_measure E a0 a0_creak a0_cold a0_one a0_other a0_how a0_falls a0_ways h h_steps v_a0_rooms v_a0_doors v_a0_rooms v_steps_140 v_a0_one v_a0_other)) (As := [.int x127_4, .int x116_3]) (rest := []) C (ctX8_shorten l E h h_steps v_a0_rooms x127_steps N x127_4 x116_3 v_steps_140 hc_140) ml_X8_41 ⟨Nat.le_of_ble_eq_true rfl, Nat.le_of_ble_eq_true rfl⟩ hP hD hS 1 rfl rfl rfl [1, 2] [0, 5, 6, 3, 4] 5 rfl rfl rfl rfl rfl rfl rfl hl.1 rfl (Nat.le_of_ble_eq_true rfl) ⟨Nat.zero_le _, Nat.zero_le _⟩ dX8_measure_140 ?_
                  clear hP hD hS; intro H locs hP hD hS
                  refine lv_iinc (pc := 143) (v := x127_4 + 1) (lv' := [(4, .int (x127_4 + 1)), (0, .ref h), (3, .int x116_3)]) hx hb dX8_measure_143 hl (k := 2) rfl rfl (by decide) rfl (fun ls hl => ?_)
                  refine lv_goto (pc := 146) (tgt := 127) hx hb dX8_measure_146 (by decide) ?_
                  exact ih127 (x127_4 + 1) v_steps_140 hf _ _ _ (lv_sub hl [1, 2, 0] rfl) hP hD hS
            exact key127 _ 0 x116_steps hf _ _ _ (lv_sub hl [1, 2, 0] rfl) hP hD hS
      exact key116 _ 0 x114_steps hf _ _ _ (lv_sub hl [1, 0] rfl) hP hD hS
    clear eK114
    have key47 : ∀ (n : Nat) (x47_3 : Int32) (x47_steps : Nat → Int32) , lp (BX8_measure_47 v_a0_doors N p1 v_a0_one v_a0_other K114) n (x47_3, x47_steps) = some z → AT p l e (rmOf 2 47) s m args below meth c E A Q 0 0 5 [(0, .ref h), (1, .ref a0), (2, .int p1), (3, .int x47_3)] (wX8_measure E a0 a0_creak a0_cold a0_one a0_other a0_how a0_falls a0_ways h h_steps v_a0_rooms v_a0_doors v_a0_rooms x47_steps v_a0_one v_a0_other) 47 [] := by
      intro n
      induction n with
      | zero => intro x47_3 x47_steps hf; exact (lp_0 hf).elim
      | succ n ih47 =>
        intro x47_3 x47_steps hf H locs ls hl hP hD hS
        replace hf := lp_s hf
        generalize lp (BX8_measure_47 v_a0_doors N p1 v_a0_one v_a0_other K114) n = rec47 at ih47 hf
        unfold BX8_measure_47 at hf
        replace hf := un2_s hf
        refine lv_iload_n (pc := 47) hx hb dX8_measure_47 rfl (lv_at hl 3 rfl) ?_
        refine lv_aload_n (pc := 48) hx hb dX8_measure_48 rfl (lv_at hl 1 rfl) ?_
        refine r_get (pc := 49) C hP 0 rfl fl_X8_28 rfl dX8_measure_49 ?_
        refine lv_icmp_ge (pc := 52) (tgt := 114) hx hb dX8_measure_52 (by decide) (fun c_52 => ?_) (fun c_52 => ?_)
        · replace hf := it_t c_52 hf
          exact hK114 x47_steps hf _ _ _ (lv_sub hl [0] rfl) hP hD hS
        · replace hf := it_f c_52 hf
          refine lv_iload_n (pc := 55) hx hb dX8_measure_55 rfl (lv_at hl 2 rfl) ?_
          refine lv_i2l (pc := 56) (v := p1.toInt64) hx hb dX8_measure_56 rfl ?_
          refine lv_iload_n (pc := 57) hx hb dX8_measure_57 rfl (lv_at hl 3 rfl) ?_
          obtain ⟨r_58, hc_58, hf⟩ := bd1 hf
          refine r_dalSi (pc := 58) (Cn := "") (h := 0) (ws' := (wX8_measure E a0 a0_creak a0_cold a0_one a0_other a0_how a0_falls a0_ways h h_steps v_a0_rooms v_a0_doors v_a0_rooms x47_steps v_a0_one v_a0_other)) (As := [.long p1.toInt64, .int x47_3]) (rest := []) C (ctX10_isBitSet l E N p1.toInt64 x47_3 r_58 hc_58) ml_X8_31 ⟨Nat.le_of_ble_eq_true rfl, Nat.le_of_ble_eq_true rfl⟩ hP hD hS [] [0, 1, 2, 3, 4] 5 rfl rfl rfl rfl rfl rfl rfl hl.1 rfl (Nat.le_of_ble_eq_true rfl) ⟨Nat.zero_le _, Nat.zero_le _⟩ dX8_measure_58 ?_
          clear hP hD hS; intro H locs hP hD hS
          refine jnK hf (fun j108 ej108 hf => ?_)
          have hj108 : ∀ (x108_steps : Nat → Int32) , j108 x108_steps = some z → AT p l e (rmOf 2 47) s m args below meth c E A Q 0 0 5 [(0, .ref h), (1, .ref a0), (2, .int p1), (3, .int x47_3)] (wX8_measure E a0 a0_creak a0_cold a0_one a0_other a0_how a0_falls a0_ways h h_steps v_a0_rooms v_a0_doors v_a0_rooms x108_steps v_a0_one v_a0_other) 108 [] := by
            intro x108_steps hf H locs ls hl hP hD hS
            rw [ej108] at hf
            replace hf := un1_s hf
            refine lv_iinc (pc := 108) (v := x47_3 + 1) (lv' := [(3, .int (x47_3 + 1)), (0, .ref h), (1, .ref a0), (2, .int p1)]) hx hb dX8_measure_108 hl (k := 3) rfl rfl (by decide) rfl (fun ls hl => ?_)
            refine lv_goto (pc := 111) (tgt := 47) hx hb dX8_measure_111 (by decide) ?_
            exact ih47 (x47_3 + 1) x108_steps hf _ _ _ (lv_sub hl [1, 2, 3, 0] rfl) hP hD hS
          clear ej108
          refine lv_if_ne (pc := 61) (tgt := 108) hx hb dX8_measure_61 (by decide) (fun c_61 => ?_) (fun c_61 => ?_)
          · replace hf := it_f c_61 hf
            exact hj108 x47_steps hf _ _ _ (lv_sub hl [0, 1, 2, 3] rfl) hP hD hS
          · replace hf := it_t c_61 hf
            refine lv_aload_n (pc := 64) hx hb dX8_measure_64 rfl (lv_at hl 0 rfl) ?_
            refine r_get (pc := 65) C hP 1 rfl fl_X8_9 rfl dX8_measure_65 ?_
            refine lv_aload_n (pc := 68) hx hb dX8_measure_68 rfl (lv_at hl 1 rfl) ?_
            refine r_get (pc := 69) C hP 0 rfl fl_X8_35 rfl dX8_measure_69 ?_
            refine lv_iload_n (pc := 72) hx hb dX8_measure_72 rfl (lv_at hl 3 rfl) ?_
            obtain ⟨hi_73, hf⟩ := gd_s hf
            refine r_iald (pc := 73) C hP 3 rfl hi_73 dX8_measure_73 ?_
            refine lv_bipush (pc := 74) (v := 8) hx hb dX8_measure_74 (by decide) ?_
            refine lv_imul (pc := 76) hx hb dX8_measure_76 ?_
            refine lv_aload_n (pc := 77) hx hb dX8_measure_77 rfl (lv_at hl 1 rfl) ?_
            refine r_get (pc := 78) C hP 0 rfl fl_X8_38 rfl dX8_measure_78 ?_
            refine lv_iload_n (pc := 81) hx hb dX8_measure_81 rfl (lv_at hl 3 rfl) ?_
            obtain ⟨hi_82, hf⟩ := gd_s hf
            refine r_iald (pc := 82) C hP 4 rfl hi_82 dX8_measure_82 ?_
            refine lv_iadd (pc := 83) hx hb dX8_measure_83 ?_
            refine lv_iconst (pc := 84) (v := 1) hx hb dX8_measure_84 (by decide) ?_
            obtain ⟨hi_85, hf⟩ := gd_s hf
            refine r_iast (pc := 85) (ws' := (wX8_measure E a0 a0_creak a0_cold a0_one a0_other a0_how a0_falls a0_ways h h_steps v_a0_rooms v_a0_doors v_a0_rooms (upd x47_steps (((v_a0_one x47_3.toNatClampNeg) * 8) + (v_a0_other x47_3.toNatClampNeg)).toNatClampNeg 1) v_a0_one v_a0_other)) C hP hD hS 2 rfl hi_85 rfl dX8_measure_85 ?_
            clear hP hD hS; intro H locs hP hD hS
            refine lv_aload_n (pc := 86) hx hb dX8_measure_86 rfl (lv_at hl 0 rfl) ?_
            refine r_get (pc := 87) C hP 1 rfl fl_X8_9 rfl dX8_measure_87 ?_
            refine lv_aload_n (pc := 90) hx hb dX8_measure_90 rfl (lv_at hl 1 rfl) ?_
            refine r_get (pc := 91) C hP 0 rfl fl_X8_38 rfl dX8_measure_91 ?_
            refine lv_iload_n (pc := 94) hx hb dX8_measure_94 rfl (lv_at hl 3 rfl) ?_
            obtain ⟨hi_95, hf⟩ := gd_s hf
            refine r_iald (pc := 95) C hP 4 rfl hi_95 dX8_measure_95 ?_
            refine lv_bipush (pc := 96) (v := 8) hx hb dX8_measure_96 (by decide) ?_
            refine lv_imul (pc := 98) hx hb dX8_measure_98 ?_
            refine lv_aload_n (pc := 99) hx hb dX8_measure_99 rfl (lv_at hl 1 rfl) ?_
            refine r_get (pc := 100) C hP 0 rfl fl_X8_35 rfl dX8_measure_100 ?_
            refine lv_iload_n (pc := 103) hx hb dX8_measure_103 rfl (lv_at hl 3 rfl) ?_
            obtain ⟨hi_104, hf⟩ := gd_s hf
            refine r_iald (pc := 104) C hP 3 rfl hi_104 dX8_measure_104 ?_
            refine lv_iadd (pc := 105) hx hb dX8_measure_105 ?_
            refine lv_iconst (pc := 106) (v := 1) hx hb dX8_measure_106 (by decide) ?_
            obtain ⟨hi_107, hf⟩ := gd_s hf
            refine r_iast (pc := 107) (ws' := (wX8_measure E a0 a0_creak a0_cold a0_one a0_other a0_how a0_falls a0_ways h h_steps v_a0_rooms v_a0_doors v_a0_rooms (upd (upd x47_steps (((v_a0_one x47_3.toNatClampNeg) * 8) + (v_a0_other x47_3.toNatClampNeg)).toNatClampNeg 1) (((v_a0_other x47_3.toNatClampNeg) * 8) + (v_a0_one x47_3.toNatClampNeg)).toNatClampNeg 1) v_a0_one v_a0_other)) C hP hD hS 2 rfl hi_107 rfl dX8_measure_107 ?_
            clear hP hD hS; intro H locs hP hD hS
            exact hj108 (upd (upd x47_steps (((v_a0_one x47_3.toNatClampNeg) * 8) + (v_a0_other x47_3.toNatClampNeg)).toNatClampNeg 1) (((v_a0_other x47_3.toNatClampNeg) * 8) + (v_a0_one x47_3.toNatClampNeg)).toNatClampNeg 1) hf _ _ _ (lv_sub hl [0, 1, 2, 3] rfl) hP hD hS
    exact key47 _ 0 x45_steps hf _ _ _ (lv_sub hl [1, 2, 3, 0] rfl) hP hD hS
  clear eK45
  have key19 : ∀ (n : Nat) (x19_3 : Int32) (x19_steps : Nat → Int32) , lp (BX8_measure_19 v_a0_rooms K45) n (x19_3, x19_steps) = some z → AT p l e (rmOf 2 47) s m args below meth c E A Q 0 0 5 [(0, .ref h), (1, .ref a0), (2, .int p1), (3, .int x19_3)] (wX8_measure E a0 a0_creak a0_cold a0_one a0_other a0_how a0_falls a0_ways h h_steps v_a0_rooms v_a0_doors v_a0_rooms x19_steps v_a0_one v_a0_other) 19 [] := by
    intro n
    induction n with
    | zero => intro x19_3 x19_steps hf; exact (lp_0 hf).elim
    | succ n ih19 =>
      intro x19_3 x19_steps hf H locs ls hl hP hD hS
      replace hf := lp_s hf
      generalize lp (BX8_measure_19 v_a0_rooms K45) n = rec19 at ih19 hf
      unfold BX8_measure_19 at hf
      replace hf := un2_s hf
      refine lv_iload_n (pc := 19) hx hb dX8_measure_19 rfl (lv_at hl 3 rfl) ?_
      refine lv_aload_n (pc := 20) hx hb dX8_measure_20 rfl (lv_at hl 0 rfl) ?_
      refine r_get (pc := 21) C hP 1 rfl fl_X8_21 rfl dX8_measure_21 ?_
      refine lv_icmp_ge (pc := 24) (tgt := 45) hx hb dX8_measure_24 (by decide) (fun c_24 => ?_) (fun c_24 => ?_)
      · replace hf := it_t c_24 hf
        exact hK45 x19_steps hf _ _ _ (lv_sub hl [0, 1, 2] rfl) hP hD hS
      · replace hf := it_f c_24 hf
        refine lv_aload_n (pc := 27) hx hb dX8_measure_27 rfl (lv_at hl 0 rfl) ?_
        refine r_get (pc := 28) C hP 1 rfl fl_X8_9 rfl dX8_measure_28 ?_
        refine lv_iload_n (pc := 31) hx hb dX8_measure_31 rfl (lv_at hl 3 rfl) ?_
        refine lv_bipush (pc := 32) (v := 8) hx hb dX8_measure_32 (by decide) ?_
        refine lv_imul (pc := 34) hx hb dX8_measure_34 ?_
        refine lv_iload_n (pc := 35) hx hb dX8_measure_35 rfl (lv_at hl 3 rfl) ?_
        refine lv_iadd (pc := 36) hx hb dX8_measure_36 ?_
        refine lv_iconst (pc := 37) (v := 0) hx hb dX8_measure_37 (by decide) ?_
        obtain ⟨hi_38, hf⟩ := gd_s hf
        refine r_iast (pc := 38) (ws' := (wX8_measure E a0 a0_creak a0_cold a0_one a0_other a0_how a0_falls a0_ways h h_steps v_a0_rooms v_a0_doors v_a0_rooms (upd x19_steps ((x19_3 * 8) + x19_3).toNatClampNeg 0) v_a0_one v_a0_other)) C hP hD hS 2 rfl hi_38 rfl dX8_measure_38 ?_
        clear hP hD hS; intro H locs hP hD hS
        refine lv_iinc (pc := 39) (v := x19_3 + 1) (lv' := [(3, .int (x19_3 + 1)), (0, .ref h), (1, .ref a0), (2, .int p1)]) hx hb dX8_measure_39 hl (k := 3) rfl rfl (by decide) rfl (fun ls hl => ?_)
        refine lv_goto (pc := 42) (tgt := 19) hx hb dX8_measure_42 (by decide) ?_
        exact ih19 (x19_3 + 1) (upd x19_steps ((x19_3 * 8) + x19_3).toNatClampNeg 0) hf _ _ _ (lv_sub hl [1, 2, 3, 0] rfl) hP hD hS
  exact key19 _ 0 v_steps_14 hf _ _ _ (lv_sub hl [1, 2, 3, 0] rfl) hP hD hS
def wX6_read (E : EN) (h h_tape h_names h_sorts h_numbers h_inn h_inn_house h_inn_thingIn h_inn_full h_inn_states h_inn_bed h_inn_dreamOf h_inn_listensIn h_inn_house_creak h_inn_house_cold h_inn_house_one h_inn_house_other h_inn_house_how h_inn_house_falls h_inn_house_ways h_tape_bytes h_inn_house_ways_steps : Nat) (v_named : Int32) (v_fault : Int32) (v_number : Int32) (v_inn_minutes : Int32) (v_inn_things : Int32) (v_inn_dreams : Int32) (v_inn_sleepers : Int32) (v_inn_listeners : Int32) (v_inn_house_rooms : Int32) (v_inn_house_doors : Int32) (v_inn_states : Nat → Int32) (v_tape_length : Int32) (v_tape_end : Int32) (v_tape_at : Int32) (v_tape_start : Int32) (v_tape_kind : Int32) (v_tape_code : Int64) (v_tape_mayName : Int32) (v_tape_value : Int32) (v_tape_bytes : Nat → Int32) (v_names : Nat → Int64) (v_sorts : Nat → Int32) (v_numbers : Nat → Int32) (v_inn_listensIn : Nat → Int32) (v_inn_bed : Nat → Int32) (v_inn_dreamOf : Nat → Int32) (v_inn_thingIn : Nat → Int32) (v_inn_full : Nat → Int32) (v_inn_house_one : Nat → Int32) (v_inn_house_other : Nat → Int32) (v_inn_house_how : Nat → Int32) (v_inn_house_falls : Nat → Int32) (v_inn_house_creak : Nat → Int32) (v_inn_house_cold : Nat → Int32) (v_inn_house_ways_rooms : Int32) (v_inn_house_ways_steps : Nat → Int32) : va_W := [(h, .inr (6, [.ref h_tape, .ref h_names, .ref h_sorts, .ref h_numbers, .int v_named, .ref h_inn, .int v_fault, .int v_number])), (h_inn, .inr (2, [.ref h_inn_house, .int v_inn_minutes, .int v_inn_things, .ref h_inn_thingIn, .ref h_inn_full, .int v_inn_dreams, .ref h_inn_states, .int v_inn_sleepers, .ref h_inn_bed, .ref h_inn_dreamOf, .int v_inn_listeners, .ref h_inn_listensIn])), (h_inn_house, .inr (1, [.int v_inn_house_rooms, .ref h_inn_house_creak, .ref h_inn_house_cold, .int v_inn_house_doors, .ref h_inn_house_one, .ref h_inn_house_other, .ref h_inn_house_how, .ref h_inn_house_falls, .ref h_inn_house_ways])), (h_inn_states, aI E 64 v_inn_states), (h_tape, .inr (7, [.ref h_tape_bytes, .int v_tape_length, .int v_tape_end, .int v_tape_at, .int v_tape_start, .int v_tape_kind, .long v_tape_code, .int v_tape_mayName, .int v_tape_value])), (h_tape_bytes, aB E 900 v_tape_bytes), (h_names, aJ E 19 v_names), (h_sorts, aI E 19 v_sorts), (h_numbers, aI E 19 v_numbers), (h_inn_listensIn, aI E 3 v_inn_listensIn), (h_inn_bed, aI E 3 v_inn_bed), (h_inn_dreamOf, aI E 3 v_inn_dreamOf), (h_inn_thingIn, aI E 4 v_inn_thingIn), (h_inn_full, aZ E 4 v_inn_full), (h_inn_house_one, aI E 10 v_inn_house_one), (h_inn_house_other, aI E 10 v_inn_house_other), (h_inn_house_how, aI E 10 v_inn_house_how), (h_inn_house_falls, aZ E 10 v_inn_house_falls), (h_inn_house_creak, aI E 8 v_inn_house_creak), (h_inn_house_cold, aZ E 8 v_inn_house_cold), (h_inn_house_ways, .inr (8, [.ref h_inn_house_ways_steps, .int v_inn_house_ways_rooms])), (h_inn_house_ways_steps, aI E 64 v_inn_house_ways_steps)]
def BX6_read_32 (p0 : Int32) (N : Nat) (v_tape_end_22 : Int32) (v_tape_bytes : Nat → Int32) (K70 : (Int32 × Int32 × Int32 × Int32 × Int32 × Int32 × Int32 × Int32 × Int32 × Int32 × Int32 × (Nat → Int32) × Int32 × Int32 × Int32 × Int64 × Int32 × Int32 × (Nat → Int64) × (Nat → Int32) × (Nat → Int32) × (Nat → Int32) × (Nat → Int32) × (Nat → Int32) × (Nat → Int32) × (Nat → Int32) × (Nat → Int32) × (Nat → Int32) × (Nat → Int32) × (Nat → Int32) × (Nat → Int32) × (Nat → Int32)) → Option (Int32 × Int32 × Int32 × Int32 × Int32 × Int32 × Int32 × Int32 × Int32 × Int32 × Int32 × (Nat → Int32) × Int32 × Int32 × Int32 × Int32 × Int64 × Int32 × Int32 × (Nat → Int64) × (Nat → Int32) × (Nat → Int32) × (Nat → Int32) × (Nat → Int32) × (Nat → Int32) × (Nat → Int32) × (Nat → Int32) × (Nat → Int32) × (Nat → Int32) × (Nat → Int32) × (Nat → Int32) × (Nat → Int32) × (Nat → Int32) × Int32 × (Nat → Int32))) (rec32 : (Int32 × Int32 × Int32 × Int32 × Int32 × Int32 × Int32 × Int32 × Int32 × Int32 × Int32 × Int32 × (Nat → Int32) × Int32 × Int32 × Int32 × Int64 × Int32 × Int32 × (Nat → Int64) × (Nat → Int32) × (Nat → Int32) × (Nat → Int32) × (Nat → Int32) × (Nat → Int32) × (Nat → Int32) × (Nat → Int32) × (Nat → Int32) × (Nat → Int32) × (Nat → Int32) × (Nat → Int32) × (Nat → Int32) × (Nat → Int32)) → Option (Int32 × Int32 × Int32 × Int32 × Int32 × Int32 × Int32 × Int32 × Int32 × Int32 × Int32 × (Nat → Int32) × Int32 × Int32 × Int32 × Int32 × Int64 × Int32 × Int32 × (Nat → Int64) × (Nat → Int32) × (Nat → Int32) × (Nat → Int32) × (Nat → Int32) × (Nat → Int32) × (Nat → Int32) × (Nat → Int32) × (Nat → Int32) × (Nat → Int32) × (Nat → Int32) × (Nat → Int32) × (Nat → Int32) × (Nat → Int32) × Int32 × (Nat → Int32))) : (Int32 × Int32 × Int32 × Int32 × Int32 × Int32 × Int32 × Int32 × Int32 × Int32 × Int32 × Int32 × (Nat → Int32) × Int32 × Int32 × Int32 × Int64 × Int32 × Int32 × (Nat → Int64) × (Nat → Int32) × (Nat → Int32) × (Nat → Int32) × (Nat → Int32) × (Nat → Int32) × (Nat → Int32) × (Nat → Int32) × (Nat → Int32) × (Nat → Int32) × (Nat → Int32) × (Nat → Int32) × (Nat → Int32) × (Nat → Int32)) → Option (Int32 × Int32 × Int32 × Int32 × Int32 × Int32 × Int32 × Int32 × Int32 × Int32 × Int32 × (Nat → Int32) × Int32 × Int32 × Int32 × Int32 × Int64 × Int32 × Int32 × (Nat → Int64) × (Nat → Int32) × (Nat → Int32) × (Nat → Int32) × (Nat → Int32) × (Nat → Int32) × (Nat → Int32) × (Nat → Int32) × (Nat → Int32) × (Nat → Int32) × (Nat → Int32) × (Nat → Int32) × (Nat → Int32) × (Nat → Int32) × Int32 × (Nat → Int32)) := un33 fun (x32_2 : Int32) (x32_3 : Int32) (x32_named : Int32) (x32_fault : Int32) (x32_number : Int32) (x32_inn_minutes : Int32) (x32_inn_things : Int32) (x32_inn_dreams : Int32) (x32_inn_sleepers : Int32) (x32_inn_listeners : Int32) (x32_inn_house_rooms : Int32) (x32_inn_house_doors : Int32) (x32_inn_states : Nat → Int32) (x32_tape_at : Int32) (x32_tape_start : Int32) (x32_tape_kind : Int32) (x32_tape_code : Int64) (x32_tape_mayName : Int32) (x32_tape_value : Int32) (x32_names : Nat → Int64) (x32_sorts : Nat → Int32) (x32_numbers : Nat → Int32) (x32_inn_listensIn : Nat → Int32) (x32_inn_bed : Nat → Int32) (x32_inn_dreamOf : Nat → Int32) (x32_inn_thingIn : Nat → Int32) (x32_inn_full : Nat → Int32) (x32_inn_house_one : Nat → Int32) (x32_inn_house_other : Nat → Int32) (x32_inn_house_how : Nat → Int32) (x32_inn_house_falls : Nat → Int32) (x32_inn_house_creak : Nat → Int32) (x32_inn_house_cold : Nat → Int32) => if p0 ≤ x32_3 then (K70 (x32_2, x32_named, x32_fault, x32_number, x32_inn_minutes, x32_inn_things, x32_inn_dreams, x32_inn_sleepers, x32_inn_listeners, x32_inn_house_rooms, x32_inn_house_doors, x32_inn_states, x32_tape_at, x32_tape_start, x32_tape_kind, x32_tape_code, x32_tape_mayName, x32_tape_value, x32_names, x32_sorts, x32_numbers, x32_inn_listensIn, x32_inn_bed, x32_inn_dreamOf, x32_inn_thingIn, x32_inn_full, x32_inn_house_one, x32_inn_house_other, x32_inn_house_how, x32_inn_house_falls, x32_inn_house_creak, x32_inn_house_cold)) else (if x32_2 = 0 then (K70 (x32_2, x32_named, x32_fault, x32_number, x32_inn_minutes, x32_inn_things, x32_inn_dreams, x32_inn_sleepers, x32_inn_listeners, x32_inn_house_rooms, x32_inn_house_doors, x32_inn_states, x32_tape_at, x32_tape_start, x32_tape_kind, x32_tape_code, x32_tape_mayName, x32_tape_value, x32_names, x32_sorts, x32_numbers, x32_inn_listensIn, x32_inn_bed, x32_inn_dreamOf, x32_inn_thingIn, x32_inn_full, x32_inn_house_one, x32_inn_house_other, x32_inn_house_how, x32_inn_house_falls, x32_inn_house_creak, x32_inn_house_cold)) else (if x32_tape_kind = 3 then ((fX7_advance N v_tape_end_22 x32_tape_at v_tape_bytes).bind (un6 fun (v_tape_at_56 : Int32) (v_tape_start_56 : Int32) (v_tape_kind_56 : Int32) (v_tape_code_56 : Int64) (v_tape_mayName_56 : Int32) (v_tape_value_56 : Int32) => (fX6_readLine N x32_named x32_fault x32_number v_tape_end_22 v_tape_at_56 v_tape_start_56 v_tape_kind_56 v_tape_code_56 v_tape_mayName_56 v_tape_value_56 x32_inn_minutes x32_inn_things x32_inn_dreams x32_inn_sleepers x32_inn_listeners v_tape_bytes x32_names x32_sorts x32_numbers x32_inn_listensIn x32_inn_bed x32_inn_dreamOf x32_inn_states x32_inn_thingIn x32_inn_full x32_inn_house_rooms x32_inn_house_doors x32_inn_house_one x32_inn_house_other x32_inn_house_how x32_inn_house_falls x32_inn_house_creak x32_inn_house_cold).bind (un32 fun (r_60 : Int32) (v_named_60 : Int32) (v_fault_60 : Int32) (v_number_60 : Int32) (v_tape_at_60 : Int32) (v_tape_start_60 : Int32) (v_tape_kind_60 : Int32) (v_tape_code_60 : Int64) (v_tape_mayName_60 : Int32) (v_tape_value_60 : Int32) (v_inn_minutes_60 : Int32) (v_inn_things_60 : Int32) (v_inn_dreams_60 : Int32) (v_inn_sleepers_60 : Int32) (v_inn_listeners_60 : Int32) (v_names_60 : Nat → Int64) (v_sorts_60 : Nat → Int32) (v_numbers_60 : Nat → Int32) (v_inn_listensIn_60 : Nat → Int32) (v_inn_bed_60 : Nat → Int32) (v_inn_dreamOf_60 : Nat → Int32) (v_inn_states_60 : Nat → Int32) (v_inn_thingIn_60 : Nat → Int32) (v_inn_full_60 : Nat → Int32) (v_inn_house_rooms_60 : Int32) (v_inn_house_doors_60 : Int32) (v_inn_house_one_60 : Nat → Int32) (v_inn_house_other_60 : Nat → Int32) (v_inn_house_how_60 : Nat → Int32) (v_inn_house_falls_60 : Nat → Int32) (v_inn_house_creak_60 : Nat → Int32) (v_inn_house_cold_60 : Nat → Int32) => rec32 (r_60, x32_3 + 1, v_named_60, v_fault_60, v_number_60, v_inn_minutes_60, v_inn_things_60, v_inn_dreams_60, v_inn_sleepers_60, v_inn_listeners_60, v_inn_house_rooms_60, v_inn_house_doors_60, v_inn_states_60, v_tape_at_60, v_tape_start_60, v_tape_kind_60, v_tape_code_60, v_tape_mayName_60, v_tape_value_60, v_names_60, v_sorts_60, v_numbers_60, v_inn_listensIn_60, v_inn_bed_60, v_inn_dreamOf_60, v_inn_thingIn_60, v_inn_full_60, v_inn_house_one_60, v_inn_house_other_60, v_inn_house_how_60, v_inn_house_falls_60, v_inn_house_creak_60, v_inn_house_cold_60)))) else (K70 (x32_2, x32_named, x32_fault, x32_number, x32_inn_minutes, x32_inn_things, x32_inn_dreams, x32_inn_sleepers, x32_inn_listeners, x32_inn_house_rooms, x32_inn_house_doors, x32_inn_states, x32_tape_at, x32_tape_start, x32_tape_kind, x32_tape_code, x32_tape_mayName, x32_tape_value, x32_names, x32_sorts, x32_numbers, x32_inn_listensIn, x32_inn_bed, x32_inn_dreamOf, x32_inn_thingIn, x32_inn_full, x32_inn_house_one, x32_inn_house_other, x32_inn_house_how, x32_inn_house_falls, x32_inn_house_creak, x32_inn_house_cold))))
def fX6_read (N : Nat) (p0 : Int32) (v_number : Int32) (v_inn_states : Nat → Int32) (v_tape_bytes : Nat → Int32) (v_names : Nat → Int64) (v_sorts : Nat → Int32) (v_numbers : Nat → Int32) (v_inn_listensIn : Nat → Int32) (v_inn_bed : Nat → Int32) (v_inn_dreamOf : Nat → Int32) (v_inn_thingIn : Nat → Int32) (v_inn_full : Nat → Int32) (v_inn_house_one : Nat → Int32) (v_inn_house_other : Nat → Int32) (v_inn_house_how : Nat → Int32) (v_inn_house_falls : Nat → Int32) (v_inn_house_creak : Nat → Int32) (v_inn_house_cold : Nat → Int32) (v_inn_house_ways_rooms : Int32) (v_inn_house_ways_steps : Nat → Int32) : Option (Int32 × Int32 × Int32 × Int32 × Int32 × Int32 × Int32 × Int32 × Int32 × Int32 × Int32 × (Nat → Int32) × Int32 × Int32 × Int32 × Int32 × Int64 × Int32 × Int32 × (Nat → Int64) × (Nat → Int32) × (Nat → Int32) × (Nat → Int32) × (Nat → Int32) × (Nat → Int32) × (Nat → Int32) × (Nat → Int32) × (Nat → Int32) × (Nat → Int32) × (Nat → Int32) × (Nat → Int32) × (Nat → Int32) × (Nat → Int32) × Int32 × (Nat → Int32)) := (fX2_clear N v_inn_states).bind (un8 fun (v_inn_minutes_4 : Int32) (v_inn_things_4 : Int32) (v_inn_dreams_4 : Int32) (v_inn_sleepers_4 : Int32) (v_inn_listeners_4 : Int32) (v_inn_house_rooms_4 : Int32) (v_inn_house_doors_4 : Int32) (v_inn_states_4 : Nat → Int32) => (fX7_rewind N p0 v_tape_bytes).bind (un7 fun (v_tape_end_22 : Int32) (v_tape_at_22 : Int32) (v_tape_start_22 : Int32) (v_tape_kind_22 : Int32) (v_tape_code_22 : Int64) (v_tape_mayName_22 : Int32) (v_tape_value_22 : Int32) => (fX6_readLine N 0 0 v_number v_tape_end_22 v_tape_at_22 v_tape_start_22 v_tape_kind_22 v_tape_code_22 v_tape_mayName_22 v_tape_value_22 v_inn_minutes_4 v_inn_things_4 v_inn_dreams_4 v_inn_sleepers_4 v_inn_listeners_4 v_tape_bytes v_names v_sorts v_numbers v_inn_listensIn v_inn_bed v_inn_dreamOf v_inn_states_4 v_inn_thingIn v_inn_full v_inn_house_rooms_4 v_inn_house_doors_4 v_inn_house_one v_inn_house_other v_inn_house_how v_inn_house_falls v_inn_house_creak v_inn_house_cold).bind (un32 fun (r_26 : Int32) (v_named_26 : Int32) (v_fault_26 : Int32) (v_number_26 : Int32) (v_tape_at_26 : Int32) (v_tape_start_26 : Int32) (v_tape_kind_26 : Int32) (v_tape_code_26 : Int64) (v_tape_mayName_26 : Int32) (v_tape_value_26 : Int32) (v_inn_minutes_26 : Int32) (v_inn_things_26 : Int32) (v_inn_dreams_26 : Int32) (v_inn_sleepers_26 : Int32) (v_inn_listeners_26 : Int32) (v_names_26 : Nat → Int64) (v_sorts_26 : Nat → Int32) (v_numbers_26 : Nat → Int32) (v_inn_listensIn_26 : Nat → Int32) (v_inn_bed_26 : Nat → Int32) (v_inn_dreamOf_26 : Nat → Int32) (v_inn_states_26 : Nat → Int32) (v_inn_thingIn_26 : Nat → Int32) (v_inn_full_26 : Nat → Int32) (v_inn_house_rooms_26 : Int32) (v_inn_house_doors_26 : Int32) (v_inn_house_one_26 : Nat → Int32) (v_inn_house_other_26 : Nat → Int32) (v_inn_house_how_26 : Nat → Int32) (v_inn_house_falls_26 : Nat → Int32) (v_inn_house_creak_26 : Nat → Int32) (v_inn_house_cold_26 : Nat → Int32) => lp (BX6_read_32 p0 N v_tape_end_22 v_tape_bytes (un32 fun (x70_2 : Int32) (x70_named : Int32) (x70_fault : Int32) (x70_number : Int32) (x70_inn_minutes : Int32) (x70_inn_things : Int32) (x70_inn_dreams : Int32) (x70_inn_sleepers : Int32) (x70_inn_listeners : Int32) (x70_inn_house_rooms : Int32) (x70_inn_house_doors : Int32) (x70_inn_states : Nat → Int32) (x70_tape_at : Int32) (x70_tape_start : Int32) (x70_tape_kind : Int32) (x70_tape_code : Int64) (x70_tape_mayName : Int32) (x70_tape_value : Int32) (x70_names : Nat → Int64) (x70_sorts : Nat → Int32) (x70_numbers : Nat → Int32) (x70_inn_listensIn : Nat → Int32) (x70_inn_bed : Nat → Int32) (x70_inn_dreamOf : Nat → Int32) (x70_inn_thingIn : Nat → Int32) (x70_inn_full : Nat → Int32) (x70_inn_house_one : Nat → Int32) (x70_inn_house_other : Nat → Int32) (x70_inn_house_how : Nat → Int32) (x70_inn_house_falls : Nat → Int32) (x70_inn_house_creak : Nat → Int32) (x70_inn_house_cold : Nat → Int32) => jn (un2 fun (x90_2 : Int32) (x90_fault : Int32) => jn (un2 fun (x134_2 : Int32) (x134_fault : Int32) => if x134_2 = 0 then (some (x134_fault, x70_named, x134_fault, x70_number, x70_inn_minutes, x70_inn_things, x70_inn_dreams, x70_inn_sleepers, x70_inn_listeners, x70_inn_house_rooms, x70_inn_house_doors, x70_inn_states, v_tape_end_22, x70_tape_at, x70_tape_start, x70_tape_kind, x70_tape_code, x70_tape_mayName, x70_tape_value, x70_names, x70_sorts, x70_numbers, x70_inn_listensIn, x70_inn_bed, x70_inn_dreamOf, x70_inn_thingIn, x70_inn_full, x70_inn_house_one, x70_inn_house_other, x70_inn_house_how, x70_inn_house_falls, x70_inn_house_creak, x70_inn_house_cold, v_inn_house_ways_rooms, v_inn_house_ways_steps)) else ((fX8_measure N 0 x70_inn_house_rooms x70_inn_house_doors v_inn_house_ways_steps x70_inn_house_one x70_inn_house_other).bind (un2 fun (v_inn_house_ways_rooms_156 : Int32) (v_inn_house_ways_steps_156 : Nat → Int32) => some (x134_fault, x70_named, x134_fault, x70_number, x70_inn_minutes, x70_inn_things, x70_inn_dreams, x70_inn_sleepers, x70_inn_listeners, x70_inn_house_rooms, x70_inn_house_doors, x70_inn_states, v_tape_end_22, x70_tape_at, x70_tape_start, x70_tape_kind, x70_tape_code, x70_tape_mayName, x70_tape_value, x70_names, x70_sorts, x70_numbers, x70_inn_listensIn, x70_inn_bed, x70_inn_dreamOf, x70_inn_thingIn, x70_inn_full, x70_inn_house_one, x70_inn_house_other, x70_inn_house_how, x70_inn_house_falls, x70_inn_house_creak, x70_inn_house_cold, v_inn_house_ways_rooms_156, v_inn_house_ways_steps_156)))) (fun j134 => if x90_2 = 0 then (j134 (x90_2, x90_fault)) else (jn (un0 ((fX6_fail N 6).bind (un2 fun (r_130 : Int32) (v_fault_130 : Int32) => j134 (r_130, v_fault_130)))) (fun j127 => if x70_inn_minutes = 0 then (j127 ()) else (if x70_inn_house_rooms = 0 then (j127 ()) else (if x70_inn_sleepers = 0 then (j127 ()) else (j134 (x90_2, x90_fault)))))))) (fun j90 => if x70_2 = 0 then (j90 (x70_2, x70_fault)) else (if x70_tape_kind = 0 then (j90 (x70_2, x70_fault)) else ((fX6_fail N 1).bind (un2 fun (r_86 : Int32) (v_fault_86 : Int32) => j90 (r_86, v_fault_86))))))) N (r_26, 0, v_named_26, v_fault_26, v_number_26, v_inn_minutes_26, v_inn_things_26, v_inn_dreams_26, v_inn_sleepers_26, v_inn_listeners_26, v_inn_house_rooms_26, v_inn_house_doors_26, v_inn_states_26, v_tape_at_26, v_tape_start_26, v_tape_kind_26, v_tape_code_26, v_tape_mayName_26, v_tape_value_26, v_names_26, v_sorts_26, v_numbers_26, v_inn_listensIn_26, v_inn_bed_26, v_inn_dreamOf_26, v_inn_thingIn_26, v_inn_full_26, v_inn_house_one_26, v_inn_house_other_26, v_inn_house_how_26, v_inn_house_falls_26, v_inn_house_creak_26, v_inn_house_cold_26))))
set_option maxHeartbeats 4000000 in
set_option maxRecDepth 100000 in
theorem ctX6_read (l : Launch) (E : EN) (h h_tape h_names h_sorts h_numbers h_inn h_inn_house h_inn_thingIn h_inn_full h_inn_states h_inn_bed h_inn_dreamOf h_inn_listensIn h_inn_house_creak h_inn_house_cold h_inn_house_one h_inn_house_other h_inn_house_how h_inn_house_falls h_inn_house_ways h_tape_bytes h_inn_house_ways_steps : Nat) (v_named : Int32) (v_fault : Int32) (v_number : Int32) (v_inn_minutes : Int32) (v_inn_things : Int32) (v_inn_dreams : Int32) (v_inn_sleepers : Int32) (v_inn_listeners : Int32) (v_inn_house_rooms : Int32) (v_inn_house_doors : Int32) (v_inn_states : Nat → Int32) (v_tape_length : Int32) (v_tape_end : Int32) (v_tape_at : Int32) (v_tape_start : Int32) (v_tape_kind : Int32) (v_tape_code : Int64) (v_tape_mayName : Int32) (v_tape_value : Int32) (v_tape_bytes : Nat → Int32) (v_names : Nat → Int64) (v_sorts : Nat → Int32) (v_numbers : Nat → Int32) (v_inn_listensIn : Nat → Int32) (v_inn_bed : Nat → Int32) (v_inn_dreamOf : Nat → Int32) (v_inn_thingIn : Nat → Int32) (v_inn_full : Nat → Int32) (v_inn_house_one : Nat → Int32) (v_inn_house_other : Nat → Int32) (v_inn_house_how : Nat → Int32) (v_inn_house_falls : Nat → Int32) (v_inn_house_creak : Nat → Int32) (v_inn_house_cold : Nat → Int32) (v_inn_house_ways_rooms : Int32) (v_inn_house_ways_steps : Nat → Int32) (N : Nat) (p0 : Int32) (z : Int32 × Int32 × Int32 × Int32 × Int32 × Int32 × Int32 × Int32 × Int32 × Int32 × Int32 × (Nat → Int32) × Int32 × Int32 × Int32 × Int32 × Int64 × Int32 × Int32 × (Nat → Int64) × (Nat → Int32) × (Nat → Int32) × (Nat → Int32) × (Nat → Int32) × (Nat → Int32) × (Nat → Int32) × (Nat → Int32) × (Nat → Int32) × (Nat → Int32) × (Nat → Int32) × (Nat → Int32) × (Nat → Int32) × (Nat → Int32) × Int32 × (Nat → Int32)) (hf : fX6_read N p0 v_number v_inn_states v_tape_bytes v_names v_sorts v_numbers v_inn_listensIn v_inn_bed v_inn_dreamOf v_inn_thingIn v_inn_full v_inn_house_one v_inn_house_other v_inn_house_how v_inn_house_falls v_inn_house_creak v_inn_house_cold v_inn_house_ways_rooms v_inn_house_ways_steps = some z) : CTi l E yX6_read cX6_read 4 .int 5 113 [.ref h, .int p0] (wX6_read E h h_tape h_names h_sorts h_numbers h_inn h_inn_house h_inn_thingIn h_inn_full h_inn_states h_inn_bed h_inn_dreamOf h_inn_listensIn h_inn_house_creak h_inn_house_cold h_inn_house_one h_inn_house_other h_inn_house_how h_inn_house_falls h_inn_house_ways h_tape_bytes h_inn_house_ways_steps v_named v_fault v_number v_inn_minutes v_inn_things v_inn_dreams v_inn_sleepers v_inn_listeners v_inn_house_rooms v_inn_house_doors v_inn_states v_tape_length v_tape_end v_tape_at v_tape_start v_tape_kind v_tape_code v_tape_mayName v_tape_value v_tape_bytes v_names v_sorts v_numbers v_inn_listensIn v_inn_bed v_inn_dreamOf v_inn_thingIn v_inn_full v_inn_house_one v_inn_house_other v_inn_house_how v_inn_house_falls v_inn_house_creak v_inn_house_cold v_inn_house_ways_rooms v_inn_house_ways_steps) (z.1) (wX6_read E h h_tape h_names h_sorts h_numbers h_inn h_inn_house h_inn_thingIn h_inn_full h_inn_states h_inn_bed h_inn_dreamOf h_inn_listensIn h_inn_house_creak h_inn_house_cold h_inn_house_one h_inn_house_other h_inn_house_how h_inn_house_falls h_inn_house_ways h_tape_bytes h_inn_house_ways_steps z.2.1 z.2.2.1 z.2.2.2.1 z.2.2.2.2.1 z.2.2.2.2.2.1 z.2.2.2.2.2.2.1 z.2.2.2.2.2.2.2.1 z.2.2.2.2.2.2.2.2.1 z.2.2.2.2.2.2.2.2.2.1 z.2.2.2.2.2.2.2.2.2.2.1 z.2.2.2.2.2.2.2.2.2.2.2.1 v_tape_length z.2.2.2.2.2.2.2.2.2.2.2.2.1 z.2.2.2.2.2.2.2.2.2.2.2.2.2.1 z.2.2.2.2.2.2.2.2.2.2.2.2.2.2.1 z.2.2.2.2.2.2.2.2.2.2.2.2.2.2.2.1 z.2.2.2.2.2.2.2.2.2.2.2.2.2.2.2.2.1 z.2.2.2.2.2.2.2.2.2.2.2.2.2.2.2.2.2.1 z.2.2.2.2.2.2.2.2.2.2.2.2.2.2.2.2.2.2.1 v_tape_bytes z.2.2.2.2.2.2.2.2.2.2.2.2.2.2.2.2.2.2.2.1 z.2.2.2.2.2.2.2.2.2.2.2.2.2.2.2.2.2.2.2.2.1 z.2.2.2.2.2.2.2.2.2.2.2.2.2.2.2.2.2.2.2.2.2.1 z.2.2.2.2.2.2.2.2.2.2.2.2.2.2.2.2.2.2.2.2.2.2.1 z.2.2.2.2.2.2.2.2.2.2.2.2.2.2.2.2.2.2.2.2.2.2.2.1 z.2.2.2.2.2.2.2.2.2.2.2.2.2.2.2.2.2.2.2.2.2.2.2.2.1 z.2.2.2.2.2.2.2.2.2.2.2.2.2.2.2.2.2.2.2.2.2.2.2.2.2.1 z.2.2.2.2.2.2.2.2.2.2.2.2.2.2.2.2.2.2.2.2.2.2.2.2.2.2.1 z.2.2.2.2.2.2.2.2.2.2.2.2.2.2.2.2.2.2.2.2.2.2.2.2.2.2.2.1 z.2.2.2.2.2.2.2.2.2.2.2.2.2.2.2.2.2.2.2.2.2.2.2.2.2.2.2.2.1 z.2.2.2.2.2.2.2.2.2.2.2.2.2.2.2.2.2.2.2.2.2.2.2.2.2.2.2.2.2.1 z.2.2.2.2.2.2.2.2.2.2.2.2.2.2.2.2.2.2.2.2.2.2.2.2.2.2.2.2.2.2.1 z.2.2.2.2.2.2.2.2.2.2.2.2.2.2.2.2.2.2.2.2.2.2.2.2.2.2.2.2.2.2.2.1 z.2.2.2.2.2.2.2.2.2.2.2.2.2.2.2.2.2.2.2.2.2.2.2.2.2.2.2.2.2.2.2.2.1 z.2.2.2.2.2.2.2.2.2.2.2.2.2.2.2.2.2.2.2.2.2.2.2.2.2.2.2.2.2.2.2.2.2.1 z.2.2.2.2.2.2.2.2.2.2.2.2.2.2.2.2.2.2.2.2.2.2.2.2.2.2.2.2.2.2.2.2.2.2) := by
  intro sz
  refine ct_body (by decide) (Nat.le_of_ble_eq_true rfl) ?_
  intro p e s m args below meth c A ls hAe C hr hin hP hD hS hl
  have C : CX p s m args meth c cX6_read RX6 4 E A := C
  have hl : lv_has ls 4 [(0, .ref h), (1, .int p0)] := hl
  have hx := C.1
  have hb := C.2.1
  rw [hAe]
  clear hAe
  obtain ⟨Q, hQ⟩ : ∃ Q, Q = MQ below (Qi E A (z.1) (wX6_read E h h_tape h_names h_sorts h_numbers h_inn h_inn_house h_inn_thingIn h_inn_full h_inn_states h_inn_bed h_inn_dreamOf h_inn_listensIn h_inn_house_creak h_inn_house_cold h_inn_house_one h_inn_house_other h_inn_house_how h_inn_house_falls h_inn_house_ways h_tape_bytes h_inn_house_ways_steps z.2.1 z.2.2.1 z.2.2.2.1 z.2.2.2.2.1 z.2.2.2.2.2.1 z.2.2.2.2.2.2.1 z.2.2.2.2.2.2.2.1 z.2.2.2.2.2.2.2.2.1 z.2.2.2.2.2.2.2.2.2.1 z.2.2.2.2.2.2.2.2.2.2.1 z.2.2.2.2.2.2.2.2.2.2.2.1 v_tape_length z.2.2.2.2.2.2.2.2.2.2.2.2.1 z.2.2.2.2.2.2.2.2.2.2.2.2.2.1 z.2.2.2.2.2.2.2.2.2.2.2.2.2.2.1 z.2.2.2.2.2.2.2.2.2.2.2.2.2.2.2.1 z.2.2.2.2.2.2.2.2.2.2.2.2.2.2.2.2.1 z.2.2.2.2.2.2.2.2.2.2.2.2.2.2.2.2.2.1 z.2.2.2.2.2.2.2.2.2.2.2.2.2.2.2.2.2.2.1 v_tape_bytes z.2.2.2.2.2.2.2.2.2.2.2.2.2.2.2.2.2.2.2.1 z.2.2.2.2.2.2.2.2.2.2.2.2.2.2.2.2.2.2.2.2.1 z.2.2.2.2.2.2.2.2.2.2.2.2.2.2.2.2.2.2.2.2.2.1 z.2.2.2.2.2.2.2.2.2.2.2.2.2.2.2.2.2.2.2.2.2.2.1 z.2.2.2.2.2.2.2.2.2.2.2.2.2.2.2.2.2.2.2.2.2.2.2.1 z.2.2.2.2.2.2.2.2.2.2.2.2.2.2.2.2.2.2.2.2.2.2.2.2.1 z.2.2.2.2.2.2.2.2.2.2.2.2.2.2.2.2.2.2.2.2.2.2.2.2.2.1 z.2.2.2.2.2.2.2.2.2.2.2.2.2.2.2.2.2.2.2.2.2.2.2.2.2.2.1 z.2.2.2.2.2.2.2.2.2.2.2.2.2.2.2.2.2.2.2.2.2.2.2.2.2.2.2.1 z.2.2.2.2.2.2.2.2.2.2.2.2.2.2.2.2.2.2.2.2.2.2.2.2.2.2.2.2.1 z.2.2.2.2.2.2.2.2.2.2.2.2.2.2.2.2.2.2.2.2.2.2.2.2.2.2.2.2.2.1 z.2.2.2.2.2.2.2.2.2.2.2.2.2.2.2.2.2.2.2.2.2.2.2.2.2.2.2.2.2.2.1 z.2.2.2.2.2.2.2.2.2.2.2.2.2.2.2.2.2.2.2.2.2.2.2.2.2.2.2.2.2.2.2.1 z.2.2.2.2.2.2.2.2.2.2.2.2.2.2.2.2.2.2.2.2.2.2.2.2.2.2.2.2.2.2.2.2.1 z.2.2.2.2.2.2.2.2.2.2.2.2.2.2.2.2.2.2.2.2.2.2.2.2.2.2.2.2.2.2.2.2.2.1 z.2.2.2.2.2.2.2.2.2.2.2.2.2.2.2.2.2.2.2.2.2.2.2.2.2.2.2.2.2.2.2.2.2.2)) args s 0 0 A := ⟨_, rfl⟩
  rw [← hQ]
  unfold fX6_read at hf
  refine lv_aload_n (pc := 0) hx hb dX6_read_0 rfl (lv_at hl 0 rfl) ?_
  refine r_get (pc := 1) C hP 0 rfl fl_X6_32 rfl dX6_read_1 ?_
  obtain ⟨v_inn_minutes_4, v_inn_things_4, v_inn_dreams_4, v_inn_sleepers_4, v_inn_listeners_4, v_inn_house_rooms_4, v_inn_house_doors_4, v_inn_states_4, hc_4, hf⟩ := bd8 hf
  refine r_dalVv (pc := 4) (ws' := (wX6_read E h h_tape h_names h_sorts h_numbers h_inn h_inn_house h_inn_thingIn h_inn_full h_inn_states h_inn_bed h_inn_dreamOf h_inn_listensIn h_inn_house_creak h_inn_house_cold h_inn_house_one h_inn_house_other h_inn_house_how h_inn_house_falls h_inn_house_ways h_tape_bytes h_inn_house_ways_steps v_named v_fault v_number v_inn_minutes_4 v_inn_things_4 v_inn_dreams_4 v_inn_sleepers_4 v_inn_listeners_4 v_inn_house_rooms_4 v_inn_house_doors_4 v_inn_states_4 v_tape_length v_tape_end v_tape_at v_tape_start v_tape_kind v_tape_code v_tape_mayName v_tape_value v_tape_bytes v_names v_sorts v_numbers v_inn_listensIn v_inn_bed v_inn_dreamOf v_inn_thingIn v_inn_full v_inn_house_one v_inn_house_other v_inn_house_how v_inn_house_falls v_inn_house_creak v_inn_house_cold v_inn_house_ways_rooms v_inn_house_ways_steps)) (As := []) (rest := []) C (ctX2_clear l E h_inn h_inn_house h_inn_thingIn h_inn_full h_inn_states h_inn_bed h_inn_dreamOf h_inn_listensIn h_inn_house_creak h_inn_house_cold h_inn_house_one h_inn_house_other h_inn_house_how h_inn_house_falls h_inn_house_ways v_inn_minutes v_inn_things v_inn_dreams v_inn_sleepers v_inn_listeners v_inn_house_rooms v_inn_house_doors v_inn_states N (v_inn_minutes_4, v_inn_things_4, v_inn_dreams_4, v_inn_sleepers_4, v_inn_listeners_4, v_inn_house_rooms_4, v_inn_house_doors_4, v_inn_states_4) hc_4) ml_X6_36 ⟨Nat.le_of_ble_eq_true rfl, Nat.le_of_ble_eq_true rfl⟩ hP hD hS 1 rfl rfl rfl [1, 2, 3] [0, 22, 23, 24, 4, 5, 6, 7, 8, 9, 10, 11, 12, 13, 14, 15, 16, 17, 18, 19, 20, 21] 22 rfl rfl rfl rfl rfl rfl rfl hl.1 rfl (Nat.le_of_ble_eq_true rfl) ⟨Nat.zero_le _, Nat.zero_le _⟩ dX6_read_4 ?_
  clear hP hD hS; intro H locs hP hD hS
  refine lv_aload_n (pc := 7) hx hb dX6_read_7 rfl (lv_at hl 0 rfl) ?_
  refine lv_iconst (pc := 8) (v := 0) hx hb dX6_read_8 (by decide) ?_
  refine r_put (pc := 9) (ws' := (wX6_read E h h_tape h_names h_sorts h_numbers h_inn h_inn_house h_inn_thingIn h_inn_full h_inn_states h_inn_bed h_inn_dreamOf h_inn_listensIn h_inn_house_creak h_inn_house_cold h_inn_house_one h_inn_house_other h_inn_house_how h_inn_house_falls h_inn_house_ways h_tape_bytes h_inn_house_ways_steps 0 v_fault v_number v_inn_minutes_4 v_inn_things_4 v_inn_dreams_4 v_inn_sleepers_4 v_inn_listeners_4 v_inn_house_rooms_4 v_inn_house_doors_4 v_inn_states_4 v_tape_length v_tape_end v_tape_at v_tape_start v_tape_kind v_tape_code v_tape_mayName v_tape_value v_tape_bytes v_names v_sorts v_numbers v_inn_listensIn v_inn_bed v_inn_dreamOf v_inn_thingIn v_inn_full v_inn_house_one v_inn_house_other v_inn_house_how v_inn_house_falls v_inn_house_creak v_inn_house_cold v_inn_house_ways_rooms v_inn_house_ways_steps)) C hP hD hS 0 rfl fl_X6_39 rfl rfl (Nat.le_of_ble_eq_true rfl) rfl dX6_read_9 ?_
  clear hP hD hS; intro H locs hP hD hS
  refine lv_aload_n (pc := 12) hx hb dX6_read_12 rfl (lv_at hl 0 rfl) ?_
  refine lv_iconst (pc := 13) (v := 0) hx hb dX6_read_13 (by decide) ?_
  refine r_put (pc := 14) (ws' := (wX6_read E h h_tape h_names h_sorts h_numbers h_inn h_inn_house h_inn_thingIn h_inn_full h_inn_states h_inn_bed h_inn_dreamOf h_inn_listensIn h_inn_house_creak h_inn_house_cold h_inn_house_one h_inn_house_other h_inn_house_how h_inn_house_falls h_inn_house_ways h_tape_bytes h_inn_house_ways_steps 0 0 v_number v_inn_minutes_4 v_inn_things_4 v_inn_dreams_4 v_inn_sleepers_4 v_inn_listeners_4 v_inn_house_rooms_4 v_inn_house_doors_4 v_inn_states_4 v_tape_length v_tape_end v_tape_at v_tape_start v_tape_kind v_tape_code v_tape_mayName v_tape_value v_tape_bytes v_names v_sorts v_numbers v_inn_listensIn v_inn_bed v_inn_dreamOf v_inn_thingIn v_inn_full v_inn_house_one v_inn_house_other v_inn_house_how v_inn_house_falls v_inn_house_creak v_inn_house_cold v_inn_house_ways_rooms v_inn_house_ways_steps)) C hP hD hS 0 rfl fl_X6_43 rfl rfl (Nat.le_of_ble_eq_true rfl) rfl dX6_read_14 ?_
  clear hP hD hS; intro H locs hP hD hS
  refine lv_aload_n (pc := 17) hx hb dX6_read_17 rfl (lv_at hl 0 rfl) ?_
  refine r_get (pc := 18) C hP 0 rfl fl_X6_12 rfl dX6_read_18 ?_
  refine lv_iload_n (pc := 21) hx hb dX6_read_21 rfl (lv_at hl 1 rfl) ?_
  obtain ⟨v_tape_end_22, v_tape_at_22, v_tape_start_22, v_tape_kind_22, v_tape_code_22, v_tape_mayName_22, v_tape_value_22, hc_22, hf⟩ := bd7 hf
  refine r_dalVv (pc := 22) (ws' := (wX6_read E h h_tape h_names h_sorts h_numbers h_inn h_inn_house h_inn_thingIn h_inn_full h_inn_states h_inn_bed h_inn_dreamOf h_inn_listensIn h_inn_house_creak h_inn_house_cold h_inn_house_one h_inn_house_other h_inn_house_how h_inn_house_falls h_inn_house_ways h_tape_bytes h_inn_house_ways_steps 0 0 v_number v_inn_minutes_4 v_inn_things_4 v_inn_dreams_4 v_inn_sleepers_4 v_inn_listeners_4 v_inn_house_rooms_4 v_inn_house_doors_4 v_inn_states_4 v_tape_length v_tape_end_22 v_tape_at_22 v_tape_start_22 v_tape_kind_22 v_tape_code_22 v_tape_mayName_22 v_tape_value_22 v_tape_bytes v_names v_sorts v_numbers v_inn_listensIn v_inn_bed v_inn_dreamOf v_inn_thingIn v_inn_full v_inn_house_one v_inn_house_other v_inn_house_how v_inn_house_falls v_inn_house_creak v_inn_house_cold v_inn_house_ways_rooms v_inn_house_ways_steps)) (As := [.int p0]) (rest := []) C (ctX7_rewind l E h_tape h_tape_bytes v_tape_length v_tape_end v_tape_at v_tape_start v_tape_kind v_tape_code v_tape_mayName v_tape_value v_tape_bytes N p0 (v_tape_end_22, v_tape_at_22, v_tape_start_22, v_tape_kind_22, v_tape_code_22, v_tape_mayName_22, v_tape_value_22) hc_22) ml_X6_46 ⟨Nat.le_of_ble_eq_true rfl, Nat.le_of_ble_eq_true rfl⟩ hP hD hS 4 rfl rfl rfl [4, 5] [0, 1, 2, 3, 22, 23, 6, 7, 8, 9, 10, 11, 12, 13, 14, 15, 16, 17, 18, 19, 20, 21] 22 rfl rfl rfl rfl rfl rfl rfl hl.1 rfl (Nat.le_of_ble_eq_true rfl) ⟨Nat.zero_le _, Nat.zero_le _⟩ dX6_read_22 ?_
  clear hP hD hS; intro H locs hP hD hS
  refine lv_aload_n (pc := 25) hx hb dX6_read_25 rfl (lv_at hl 0 rfl) ?_
  obtain ⟨r_26, v_named_26, v_fault_26, v_number_26, v_tape_at_26, v_tape_start_26, v_tape_kind_26, v_tape_code_26, v_tape_mayName_26, v_tape_value_26, v_inn_minutes_26, v_inn_things_26, v_inn_dreams_26, v_inn_sleepers_26, v_inn_listeners_26, v_names_26, v_sorts_26, v_numbers_26, v_inn_listensIn_26, v_inn_bed_26, v_inn_dreamOf_26, v_inn_states_26, v_inn_thingIn_26, v_inn_full_26, v_inn_house_rooms_26, v_inn_house_doors_26, v_inn_house_one_26, v_inn_house_other_26, v_inn_house_how_26, v_inn_house_falls_26, v_inn_house_creak_26, v_inn_house_cold_26, hc_26, hf⟩ := bd32 hf
  refine r_dalVi (pc := 26) (ws' := (wX6_read E h h_tape h_names h_sorts h_numbers h_inn h_inn_house h_inn_thingIn h_inn_full h_inn_states h_inn_bed h_inn_dreamOf h_inn_listensIn h_inn_house_creak h_inn_house_cold h_inn_house_one h_inn_house_other h_inn_house_how h_inn_house_falls h_inn_house_ways h_tape_bytes h_inn_house_ways_steps v_named_26 v_fault_26 v_number_26 v_inn_minutes_26 v_inn_things_26 v_inn_dreams_26 v_inn_sleepers_26 v_inn_listeners_26 v_inn_house_rooms_26 v_inn_house_doors_26 v_inn_states_26 v_tape_length v_tape_end_22 v_tape_at_26 v_tape_start_26 v_tape_kind_26 v_tape_code_26 v_tape_mayName_26 v_tape_value_26 v_tape_bytes v_names_26 v_sorts_26 v_numbers_26 v_inn_listensIn_26 v_inn_bed_26 v_inn_dreamOf_26 v_inn_thingIn_26 v_inn_full_26 v_inn_house_one_26 v_inn_house_other_26 v_inn_house_how_26 v_inn_house_falls_26 v_inn_house_creak_26 v_inn_house_cold_26 v_inn_house_ways_rooms v_inn_house_ways_steps)) (As := []) (rest := []) C (ctX6_readLine l E h h_tape h_names h_sorts h_numbers h_inn h_tape_bytes h_inn_house h_inn_thingIn h_inn_full h_inn_states h_inn_bed h_inn_dreamOf h_inn_listensIn h_inn_house_creak h_inn_house_cold h_inn_house_one h_inn_house_other h_inn_house_how h_inn_house_falls h_inn_house_ways 0 0 v_number v_tape_length v_tape_end_22 v_tape_at_22 v_tape_start_22 v_tape_kind_22 v_tape_code_22 v_tape_mayName_22 v_tape_value_22 v_inn_minutes_4 v_inn_things_4 v_inn_dreams_4 v_inn_sleepers_4 v_inn_listeners_4 v_tape_bytes v_names v_sorts v_numbers v_inn_listensIn v_inn_bed v_inn_dreamOf v_inn_states_4 v_inn_thingIn v_inn_full v_inn_house_rooms_4 v_inn_house_doors_4 v_inn_house_one v_inn_house_other v_inn_house_how v_inn_house_falls v_inn_house_creak v_inn_house_cold N (r_26, v_named_26, v_fault_26, v_number_26, v_tape_at_26, v_tape_start_26, v_tape_kind_26, v_tape_code_26, v_tape_mayName_26, v_tape_value_26, v_inn_minutes_26, v_inn_things_26, v_inn_dreams_26, v_inn_sleepers_26, v_inn_listeners_26, v_names_26, v_sorts_26, v_numbers_26, v_inn_listensIn_26, v_inn_bed_26, v_inn_dreamOf_26, v_inn_states_26, v_inn_thingIn_26, v_inn_full_26, v_inn_house_rooms_26, v_inn_house_doors_26, v_inn_house_one_26, v_inn_house_other_26, v_inn_house_how_26, v_inn_house_falls_26, v_inn_house_creak_26, v_inn_house_cold_26) hc_26) ml_X6_50 ⟨Nat.le_of_ble_eq_true rfl, Nat.le_of_ble_eq_true rfl⟩ hP hD hS 0 rfl rfl rfl [0, 4, 1, 5, 6, 7, 8, 9, 10, 11, 3, 12, 13, 2, 14, 15, 16, 17, 18, 19] [22, 24, 35, 32, 23, 25, 26, 27, 28, 29, 30, 31, 33, 34, 36, 37, 38, 39, 40, 41, 20, 21] 22 rfl rfl rfl rfl rfl rfl rfl hl.1 rfl (Nat.le_of_ble_eq_true rfl) ⟨Nat.zero_le _, Nat.zero_le _⟩ dX6_read_26 ?_
  clear hP hD hS; intro H locs hP hD hS
  refine lv_istore_n (pc := 29) (lv' := [(2, .int r_26), (0, .ref h), (1, .int p0)]) hx hb dX6_read_29 rfl hl (by decide) rfl (fun ls hl => ?_)
  refine lv_iconst (pc := 30) (v := 0) hx hb dX6_read_30 (by decide) ?_
  refine lv_istore_n (pc := 31) (lv' := [(3, .int 0), (2, .int r_26), (0, .ref h), (1, .int p0)]) hx hb dX6_read_31 rfl hl (by decide) rfl (fun ls hl => ?_)
  refine lpK hf (fun K70 eK70 hf => ?_)
  have hK70 : ∀ (x70_2 : Int32) (x70_named : Int32) (x70_fault : Int32) (x70_number : Int32) (x70_inn_minutes : Int32) (x70_inn_things : Int32) (x70_inn_dreams : Int32) (x70_inn_sleepers : Int32) (x70_inn_listeners : Int32) (x70_inn_house_rooms : Int32) (x70_inn_house_doors : Int32) (x70_inn_states : Nat → Int32) (x70_tape_at : Int32) (x70_tape_start : Int32) (x70_tape_kind : Int32) (x70_tape_code : Int64) (x70_tape_mayName : Int32) (x70_tape_value : Int32) (x70_names : Nat → Int64) (x70_sorts : Nat → Int32) (x70_numbers : Nat → Int32) (x70_inn_listensIn : Nat → Int32) (x70_inn_bed : Nat → Int32) (x70_inn_dreamOf : Nat → Int32) (x70_inn_thingIn : Nat → Int32) (x70_inn_full : Nat → Int32) (x70_inn_house_one : Nat → Int32) (x70_inn_house_other : Nat → Int32) (x70_inn_house_how : Nat → Int32) (x70_inn_house_falls : Nat → Int32) (x70_inn_house_creak : Nat → Int32) (x70_inn_house_cold : Nat → Int32) , K70 (x70_2, x70_named, x70_fault, x70_number, x70_inn_minutes, x70_inn_things, x70_inn_dreams, x70_inn_sleepers, x70_inn_listeners, x70_inn_house_rooms, x70_inn_house_doors, x70_inn_states, x70_tape_at, x70_tape_start, x70_tape_kind, x70_tape_code, x70_tape_mayName, x70_tape_value, x70_names, x70_sorts, x70_numbers, x70_inn_listensIn, x70_inn_bed, x70_inn_dreamOf, x70_inn_thingIn, x70_inn_full, x70_inn_house_one, x70_inn_house_other, x70_inn_house_how, x70_inn_house_falls, x70_inn_house_creak, x70_inn_house_cold) = some z → AT p l e (rmOf 5 113) s m args below meth c E A Q 0 0 4 [(0, .ref h), (2, .int x70_2)] (wX6_read E h h_tape h_names h_sorts h_numbers h_inn h_inn_house h_inn_thingIn h_inn_full h_inn_states h_inn_bed h_inn_dreamOf h_inn_listensIn h_inn_house_creak h_inn_house_cold h_inn_house_one h_inn_house_other h_inn_house_how h_inn_house_falls h_inn_house_ways h_tape_bytes h_inn_house_ways_steps x70_named x70_fault x70_number x70_inn_minutes x70_inn_things x70_inn_dreams x70_inn_sleepers x70_inn_listeners x70_inn_house_rooms x70_inn_house_doors x70_inn_states v_tape_length v_tape_end_22 x70_tape_at x70_tape_start x70_tape_kind x70_tape_code x70_tape_mayName x70_tape_value v_tape_bytes x70_names x70_sorts x70_numbers x70_inn_listensIn x70_inn_bed x70_inn_dreamOf x70_inn_thingIn x70_inn_full x70_inn_house_one x70_inn_house_other x70_inn_house_how x70_inn_house_falls x70_inn_house_creak x70_inn_house_cold v_inn_house_ways_rooms v_inn_house_ways_steps) 70 [] := by
    intro x70_2 x70_named x70_fault x70_number x70_inn_minutes x70_inn_things x70_inn_dreams x70_inn_sleepers x70_inn_listeners x70_inn_house_rooms x70_inn_house_doors x70_inn_states x70_tape_at x70_tape_start x70_tape_kind x70_tape_code x70_tape_mayName x70_tape_value x70_names x70_sorts x70_numbers x70_inn_listensIn x70_inn_bed x70_inn_dreamOf x70_inn_thingIn x70_inn_full x70_inn_house_one x70_inn_house_other x70_inn_house_how x70_inn_house_falls x70_inn_house_creak x70_inn_house_cold hf H locs ls hl hP hD hS
    rw [eK70] at hf
    replace hf := un32_s hf
    refine lv_iload_n (pc := 70) hx hb dX6_read_70 rfl (lv_at hl 1 rfl) ?_
    refine jnK hf (fun j90 ej90 hf => ?_)
    have hj90 : ∀ (x90_2 : Int32) (x90_fault : Int32) , j90 (x90_2, x90_fault) = some z → AT p l e (rmOf 5 113) s m args below meth c E A Q 0 0 4 [(0, .ref h), (2, .int x90_2)] (wX6_read E h h_tape h_names h_sorts h_numbers h_inn h_inn_house h_inn_thingIn h_inn_full h_inn_states h_inn_bed h_inn_dreamOf h_inn_listensIn h_inn_house_creak h_inn_house_cold h_inn_house_one h_inn_house_other h_inn_house_how h_inn_house_falls h_inn_house_ways h_tape_bytes h_inn_house_ways_steps x70_named x90_fault x70_number x70_inn_minutes x70_inn_things x70_inn_dreams x70_inn_sleepers x70_inn_listeners x70_inn_house_rooms x70_inn_house_doors x70_inn_states v_tape_length v_tape_end_22 x70_tape_at x70_tape_start x70_tape_kind x70_tape_code x70_tape_mayName x70_tape_value v_tape_bytes x70_names x70_sorts x70_numbers x70_inn_listensIn x70_inn_bed x70_inn_dreamOf x70_inn_thingIn x70_inn_full x70_inn_house_one x70_inn_house_other x70_inn_house_how x70_inn_house_falls x70_inn_house_creak x70_inn_house_cold v_inn_house_ways_rooms v_inn_house_ways_steps) 90 [] := by
      intro x90_2 x90_fault hf H locs ls hl hP hD hS
      rw [ej90] at hf
      replace hf := un2_s hf
      refine lv_iload_n (pc := 90) hx hb dX6_read_90 rfl (lv_at hl 1 rfl) ?_
      refine jnK hf (fun j134 ej134 hf => ?_)
      have hj134 : ∀ (x134_2 : Int32) (x134_fault : Int32) , j134 (x134_2, x134_fault) = some z → AT p l e (rmOf 5 113) s m args below meth c E A Q 0 0 4 [(0, .ref h), (2, .int x134_2)] (wX6_read E h h_tape h_names h_sorts h_numbers h_inn h_inn_house h_inn_thingIn h_inn_full h_inn_states h_inn_bed h_inn_dreamOf h_inn_listensIn h_inn_house_creak h_inn_house_cold h_inn_house_one h_inn_house_other h_inn_house_how h_inn_house_falls h_inn_house_ways h_tape_bytes h_inn_house_ways_steps x70_named x134_fault x70_number x70_inn_minutes x70_inn_things x70_inn_dreams x70_inn_sleepers x70_inn_listeners x70_inn_house_rooms x70_inn_house_doors x70_inn_states v_tape_length v_tape_end_22 x70_tape_at x70_tape_start x70_tape_kind x70_tape_code x70_tape_mayName x70_tape_value v_tape_bytes x70_names x70_sorts x70_numbers x70_inn_listensIn x70_inn_bed x70_inn_dreamOf x70_inn_thingIn x70_inn_full x70_inn_house_one x70_inn_house_other x70_inn_house_how x70_inn_house_falls x70_inn_house_creak x70_inn_house_cold v_inn_house_ways_rooms v_inn_house_ways_steps) 134 [] := by
        intro x134_2 x134_fault hf H locs ls hl hP hD hS
        rw [ej134] at hf
        replace hf := un2_s hf
        refine lv_iload_n (pc := 134) hx hb dX6_read_134 rfl (lv_at hl 1 rfl) ?_
        refine lv_if_eq (pc := 135) (tgt := 159) hx hb dX6_read_135 (by decide) (fun c_135 => ?_) (fun c_135 => ?_)
        · replace hf := it_t c_135 hf
          refine lv_aload_n (pc := 159) hx hb dX6_read_159 rfl (lv_at hl 0 rfl) ?_
          refine r_get (pc := 160) C hP 0 rfl fl_X6_43 rfl dX6_read_160 ?_
          cases hf
          rw [hQ]
          exact r_iret C hr hP hD hS rfl dX6_read_163
        · replace hf := it_f c_135 hf
          refine lv_aload_n (pc := 138) hx hb dX6_read_138 rfl (lv_at hl 0 rfl) ?_
          refine r_get (pc := 139) C hP 0 rfl fl_X6_32 rfl dX6_read_139 ?_
          refine r_get (pc := 142) C hP 1 rfl fl_X6_67 rfl dX6_read_142 ?_
          refine r_get (pc := 145) C hP 2 rfl fl_X6_79 rfl dX6_read_145 ?_
          refine lv_aload_n (pc := 148) hx hb dX6_read_148 rfl (lv_at hl 0 rfl) ?_
          refine r_get (pc := 149) C hP 0 rfl fl_X6_32 rfl dX6_read_149 ?_
          refine r_get (pc := 152) C hP 1 rfl fl_X6_67 rfl dX6_read_152 ?_
          refine lv_iconst (pc := 155) (v := 0) hx hb dX6_read_155 (by decide) ?_
          obtain ⟨v_inn_house_ways_rooms_156, v_inn_house_ways_steps_156, hc_156, hf⟩ := bd2 hf
          refine r_dalVv (pc := 156) (ws' := (wX6_read E h h_tape h_names h_sorts h_numbers h_inn h_inn_house h_inn_thingIn h_inn_full h_inn_states h_inn_bed h_inn_dreamOf h_inn_listensIn h_inn_house_creak h_inn_house_cold h_inn_house_one h_inn_house_other h_inn_house_how h_inn_house_falls h_inn_house_ways h_tape_bytes h_inn_house_ways_steps x70_named x134_fault x70_number x70_inn_minutes x70_inn_things x70_inn_dreams x70_inn_sleepers x70_inn_listeners x70_inn_house_rooms x70_inn_house_doors x70_inn_states v_tape_length v_tape_end_22 x70_tape_at x70_tape_start x70_tape_kind x70_tape_code x70_tape_mayName x70_tape_value v_tape_bytes x70_names x70_sorts x70_numbers x70_inn_listensIn x70_inn_bed x70_inn_dreamOf x70_inn_thingIn x70_inn_full x70_inn_house_one x70_inn_house_other x70_inn_house_how x70_inn_house_falls x70_inn_house_creak x70_inn_house_cold v_inn_house_ways_rooms_156 v_inn_house_ways_steps_156)) (As := [.ref h_inn_house, .int 0]) (rest := []) C (ctX8_measure l E h_inn_house h_inn_house_creak h_inn_house_cold h_inn_house_one h_inn_house_other h_inn_house_how h_inn_house_falls h_inn_house_ways h_inn_house_ways h_inn_house_ways_steps x70_inn_house_rooms x70_inn_house_doors v_inn_house_ways_rooms v_inn_house_ways_steps x70_inn_house_one x70_inn_house_other N 0 (v_inn_house_ways_rooms_156, v_inn_house_ways_steps_156) hc_156) ml_X6_83 ⟨Nat.le_of_ble_eq_true rfl, Nat.le_of_ble_eq_true rfl⟩ hP hD hS 20 rfl rfl rfl [2, 20, 21, 14, 15] [0, 1, 22, 3, 4, 5, 6, 7, 8, 9, 10, 11, 12, 13, 25, 26, 16, 17, 18, 19, 23, 24] 22 rfl rfl rfl rfl rfl rfl rfl hl.1 rfl (Nat.le_of_ble_eq_true rfl) ⟨Nat.zero_le _, Nat.zero_le _⟩ dX6_read_156 ?_
          clear hP hD hS; intro H locs hP hD hS
          refine lv_aload_n (pc := 159) hx hb dX6_read_159 rfl (lv_at hl 0 rfl) ?_
          refine r_get (pc := 160) C hP 0 rfl fl_X6_43 rfl dX6_read_160 ?_
          cases hf
          rw [hQ]
          exact r_iret C hr hP hD hS rfl dX6_read_163
      clear ej134
      refine lv_if_eq (pc := 91) (tgt := 134) hx hb dX6_read_91 (by decide) (fun c_91 => ?_) (fun c_91 => ?_)
      · replace hf := it_t c_91 hf
        exact hj134 x90_2 x90_fault hf _ _ _ (lv_sub hl [0, 1] rfl) hP hD hS
      · replace hf := it_f c_91 hf
        refine lv_aload_n (pc := 94) hx hb dX6_read_94 rfl (lv_at hl 0 rfl) ?_
        refine r_get (pc := 95) C hP 0 rfl fl_X6_32 rfl dX6_read_95 ?_
        refine r_get (pc := 98) C hP 1 rfl fl_X6_64 rfl dX6_read_98 ?_
        refine jnK hf (fun j127 ej127 hf => ?_)
        have hj127 : j127 () = some z → AT p l e (rmOf 5 113) s m args below meth c E A Q 0 0 4 [(0, .ref h)] (wX6_read E h h_tape h_names h_sorts h_numbers h_inn h_inn_house h_inn_thingIn h_inn_full h_inn_states h_inn_bed h_inn_dreamOf h_inn_listensIn h_inn_house_creak h_inn_house_cold h_inn_house_one h_inn_house_other h_inn_house_how h_inn_house_falls h_inn_house_ways h_tape_bytes h_inn_house_ways_steps x70_named x90_fault x70_number x70_inn_minutes x70_inn_things x70_inn_dreams x70_inn_sleepers x70_inn_listeners x70_inn_house_rooms x70_inn_house_doors x70_inn_states v_tape_length v_tape_end_22 x70_tape_at x70_tape_start x70_tape_kind x70_tape_code x70_tape_mayName x70_tape_value v_tape_bytes x70_names x70_sorts x70_numbers x70_inn_listensIn x70_inn_bed x70_inn_dreamOf x70_inn_thingIn x70_inn_full x70_inn_house_one x70_inn_house_other x70_inn_house_how x70_inn_house_falls x70_inn_house_creak x70_inn_house_cold v_inn_house_ways_rooms v_inn_house_ways_steps) 127 [] := by
          intro  hf H locs ls hl hP hD hS
          rw [ej127] at hf
          replace hf := un0_s hf
          refine lv_aload_n (pc := 127) hx hb dX6_read_127 rfl (lv_at hl 0 rfl) ?_
          refine lv_bipush (pc := 128) (v := 6) hx hb dX6_read_128 (by decide) ?_
          obtain ⟨r_130, v_fault_130, hc_130, hf⟩ := bd2 hf
          refine r_dalVi (pc := 130) (ws' := (wX6_read E h h_tape h_names h_sorts h_numbers h_inn h_inn_house h_inn_thingIn h_inn_full h_inn_states h_inn_bed h_inn_dreamOf h_inn_listensIn h_inn_house_creak h_inn_house_cold h_inn_house_one h_inn_house_other h_inn_house_how h_inn_house_falls h_inn_house_ways h_tape_bytes h_inn_house_ways_steps x70_named v_fault_130 x70_number x70_inn_minutes x70_inn_things x70_inn_dreams x70_inn_sleepers x70_inn_listeners x70_inn_house_rooms x70_inn_house_doors x70_inn_states v_tape_length v_tape_end_22 x70_tape_at x70_tape_start x70_tape_kind x70_tape_code x70_tape_mayName x70_tape_value v_tape_bytes x70_names x70_sorts x70_numbers x70_inn_listensIn x70_inn_bed x70_inn_dreamOf x70_inn_thingIn x70_inn_full x70_inn_house_one x70_inn_house_other x70_inn_house_how x70_inn_house_falls x70_inn_house_creak x70_inn_house_cold v_inn_house_ways_rooms v_inn_house_ways_steps)) (As := [.int 6]) (rest := []) C (ctX6_fail l E h h_tape h_names h_sorts h_numbers h_inn x70_named x90_fault x70_number N 6 (r_130, v_fault_130) hc_130) ml_X6_60 ⟨Nat.le_of_ble_eq_true rfl, Nat.le_of_ble_eq_true rfl⟩ hP hD hS 0 rfl rfl rfl [0] [22, 1, 2, 3, 4, 5, 6, 7, 8, 9, 10, 11, 12, 13, 14, 15, 16, 17, 18, 19, 20, 21] 22 rfl rfl rfl rfl rfl rfl rfl hl.1 rfl (Nat.le_of_ble_eq_true rfl) ⟨Nat.zero_le _, Nat.zero_le _⟩ dX6_read_130 ?_
          clear hP hD hS; intro H locs hP hD hS
          refine lv_istore_n (pc := 133) (lv' := [(2, .int r_130), (0, .ref h)]) hx hb dX6_read_133 rfl hl (by decide) rfl (fun ls hl => ?_)
          exact hj134 r_130 v_fault_130 hf _ _ _ (lv_sub hl [1, 0] rfl) hP hD hS
        clear ej127
        refine lv_if_eq (pc := 101) (tgt := 127) hx hb dX6_read_101 (by decide) (fun c_101 => ?_) (fun c_101 => ?_)
        · replace hf := it_t c_101 hf
          exact hj127  hf _ _ _ (lv_sub hl [0] rfl) hP hD hS
        · replace hf := it_f c_101 hf
          refine lv_aload_n (pc := 104) hx hb dX6_read_104 rfl (lv_at hl 0 rfl) ?_
          refine r_get (pc := 105) C hP 0 rfl fl_X6_32 rfl dX6_read_105 ?_
          refine r_get (pc := 108) C hP 1 rfl fl_X6_67 rfl dX6_read_108 ?_
          refine r_get (pc := 111) C hP 2 rfl fl_X6_71 rfl dX6_read_111 ?_
          refine lv_if_eq (pc := 114) (tgt := 127) hx hb dX6_read_114 (by decide) (fun c_114 => ?_) (fun c_114 => ?_)
          · replace hf := it_t c_114 hf
            exact hj127  hf _ _ _ (lv_sub hl [0] rfl) hP hD hS
          · replace hf := it_f c_114 hf
            refine lv_aload_n (pc := 117) hx hb dX6_read_117 rfl (lv_at hl 0 rfl) ?_
            refine r_get (pc := 118) C hP 0 rfl fl_X6_32 rfl dX6_read_118 ?_
            refine r_get (pc := 121) C hP 1 rfl fl_X6_76 rfl dX6_read_121 ?_
            refine lv_if_ne (pc := 124) (tgt := 134) hx hb dX6_read_124 (by decide) (fun c_124 => ?_) (fun c_124 => ?_)
            · replace hf := it_f c_124 hf
              exact hj134 x90_2 x90_fault hf _ _ _ (lv_sub hl [0, 1] rfl) hP hD hS
            · replace hf := it_t c_124 hf
              exact hj127  hf _ _ _ (lv_sub hl [0] rfl) hP hD hS
    clear ej90
    refine lv_if_eq (pc := 71) (tgt := 90) hx hb dX6_read_71 (by decide) (fun c_71 => ?_) (fun c_71 => ?_)
    · replace hf := it_t c_71 hf
      exact hj90 x70_2 x70_fault hf _ _ _ (lv_sub hl [0, 1] rfl) hP hD hS
    · replace hf := it_f c_71 hf
      refine lv_aload_n (pc := 74) hx hb dX6_read_74 rfl (lv_at hl 0 rfl) ?_
      refine r_get (pc := 75) C hP 0 rfl fl_X6_12 rfl dX6_read_75 ?_
      refine r_get (pc := 78) C hP 4 rfl fl_X6_54 rfl dX6_read_78 ?_
      refine lv_if_eq (pc := 81) (tgt := 90) hx hb dX6_read_81 (by decide) (fun c_81 => ?_) (fun c_81 => ?_)
      · replace hf := it_t c_81 hf
        exact hj90 x70_2 x70_fault hf _ _ _ (lv_sub hl [0, 1] rfl) hP hD hS
      · replace hf := it_f c_81 hf
        refine lv_aload_n (pc := 84) hx hb dX6_read_84 rfl (lv_at hl 0 rfl) ?_
        refine lv_iconst (pc := 85) (v := 1) hx hb dX6_read_85 (by decide) ?_
        obtain ⟨r_86, v_fault_86, hc_86, hf⟩ := bd2 hf
        refine r_dalVi (pc := 86) (ws' := (wX6_read E h h_tape h_names h_sorts h_numbers h_inn h_inn_house h_inn_thingIn h_inn_full h_inn_states h_inn_bed h_inn_dreamOf h_inn_listensIn h_inn_house_creak h_inn_house_cold h_inn_house_one h_inn_house_other h_inn_house_how h_inn_house_falls h_inn_house_ways h_tape_bytes h_inn_house_ways_steps x70_named v_fault_86 x70_number x70_inn_minutes x70_inn_things x70_inn_dreams x70_inn_sleepers x70_inn_listeners x70_inn_house_rooms x70_inn_house_doors x70_inn_states v_tape_length v_tape_end_22 x70_tape_at x70_tape_start x70_tape_kind x70_tape_code x70_tape_mayName x70_tape_value v_tape_bytes x70_names x70_sorts x70_numbers x70_inn_listensIn x70_inn_bed x70_inn_dreamOf x70_inn_thingIn x70_inn_full x70_inn_house_one x70_inn_house_other x70_inn_house_how x70_inn_house_falls x70_inn_house_creak x70_inn_house_cold v_inn_house_ways_rooms v_inn_house_ways_steps)) (As := [.int 1]) (rest := []) C (ctX6_fail l E h h_tape h_names h_sorts h_numbers h_inn x70_named x70_fault x70_number N 1 (r_86, v_fault_86) hc_86) ml_X6_60 ⟨Nat.le_of_ble_eq_true rfl, Nat.le_of_ble_eq_true rfl⟩ hP hD hS 0 rfl rfl rfl [0] [22, 1, 2, 3, 4, 5, 6, 7, 8, 9, 10, 11, 12, 13, 14, 15, 16, 17, 18, 19, 20, 21] 22 rfl rfl rfl rfl rfl rfl rfl hl.1 rfl (Nat.le_of_ble_eq_true rfl) ⟨Nat.zero_le _, Nat.zero_le _⟩ dX6_read_86 ?_
        clear hP hD hS; intro H locs hP hD hS
        refine lv_istore_n (pc := 89) (lv' := [(2, .int r_86), (0, .ref h)]) hx hb dX6_read_89 rfl hl (by decide) rfl (fun ls hl => ?_)
        exact hj90 r_86 v_fault_86 hf _ _ _ (lv_sub hl [1, 0] rfl) hP hD hS
  clear eK70
  have key32 : ∀ (n : Nat) (x32_2 : Int32) (x32_3 : Int32) (x32_named : Int32) (x32_fault : Int32) (x32_number : Int32) (x32_inn_minutes : Int32) (x32_inn_things : Int32) (x32_inn_dreams : Int32) (x32_inn_sleepers : Int32) (x32_inn_listeners : Int32) (x32_inn_house_rooms : Int32) (x32_inn_house_doors : Int32) (x32_inn_states : Nat → Int32) (x32_tape_at : Int32) (x32_tape_start : Int32) (x32_tape_kind : Int32) (x32_tape_code : Int64) (x32_tape_mayName : Int32) (x32_tape_value : Int32) (x32_names : Nat → Int64) (x32_sorts : Nat → Int32) (x32_numbers : Nat → Int32) (x32_inn_listensIn : Nat → Int32) (x32_inn_bed : Nat → Int32) (x32_inn_dreamOf : Nat → Int32) (x32_inn_thingIn : Nat → Int32) (x32_inn_full : Nat → Int32) (x32_inn_house_one : Nat → Int32) (x32_inn_house_other : Nat → Int32) (x32_inn_house_how : Nat → Int32) (x32_inn_house_falls : Nat → Int32) (x32_inn_house_creak : Nat → Int32) (x32_inn_house_cold : Nat → Int32) , lp (BX6_read_32 p0 N v_tape_end_22 v_tape_bytes K70) n (x32_2, x32_3, x32_named, x32_fault, x32_number, x32_inn_minutes, x32_inn_things, x32_inn_dreams, x32_inn_sleepers, x32_inn_listeners, x32_inn_house_rooms, x32_inn_house_doors, x32_inn_states, x32_tape_at, x32_tape_start, x32_tape_kind, x32_tape_code, x32_tape_mayName, x32_tape_value, x32_names, x32_sorts, x32_numbers, x32_inn_listensIn, x32_inn_bed, x32_inn_dreamOf, x32_inn_thingIn, x32_inn_full, x32_inn_house_one, x32_inn_house_other, x32_inn_house_how, x32_inn_house_falls, x32_inn_house_creak, x32_inn_house_cold) = some z → AT p l e (rmOf 5 113) s m args below meth c E A Q 0 0 4 [(0, .ref h), (1, .int p0), (2, .int x32_2), (3, .int x32_3)] (wX6_read E h h_tape h_names h_sorts h_numbers h_inn h_inn_house h_inn_thingIn h_inn_full h_inn_states h_inn_bed h_inn_dreamOf h_inn_listensIn h_inn_house_creak h_inn_house_cold h_inn_house_one h_inn_house_other h_inn_house_how h_inn_house_falls h_inn_house_ways h_tape_bytes h_inn_house_ways_steps x32_named x32_fault x32_number x32_inn_minutes x32_inn_things x32_inn_dreams x32_inn_sleepers x32_inn_listeners x32_inn_house_rooms x32_inn_house_doors x32_inn_states v_tape_length v_tape_end_22 x32_tape_at x32_tape_start x32_tape_kind x32_tape_code x32_tape_mayName x32_tape_value v_tape_bytes x32_names x32_sorts x32_numbers x32_inn_listensIn x32_inn_bed x32_inn_dreamOf x32_inn_thingIn x32_inn_full x32_inn_house_one x32_inn_house_other x32_inn_house_how x32_inn_house_falls x32_inn_house_creak x32_inn_house_cold v_inn_house_ways_rooms v_inn_house_ways_steps) 32 [] := by
    intro n
    induction n with
    | zero => intro x32_2 x32_3 x32_named x32_fault x32_number x32_inn_minutes x32_inn_things x32_inn_dreams x32_inn_sleepers x32_inn_listeners x32_inn_house_rooms x32_inn_house_doors x32_inn_states x32_tape_at x32_tape_start x32_tape_kind x32_tape_code x32_tape_mayName x32_tape_value x32_names x32_sorts x32_numbers x32_inn_listensIn x32_inn_bed x32_inn_dreamOf x32_inn_thingIn x32_inn_full x32_inn_house_one x32_inn_house_other x32_inn_house_how x32_inn_house_falls x32_inn_house_creak x32_inn_house_cold hf; exact (lp_0 hf).elim
    | succ n ih32 =>
      intro x32_2 x32_3 x32_named x32_fault x32_number x32_inn_minutes x32_inn_things x32_inn_dreams x32_inn_sleepers x32_inn_listeners x32_inn_house_rooms x32_inn_house_doors x32_inn_states x32_tape_at x32_tape_start x32_tape_kind x32_tape_code x32_tape_mayName x32_tape_value x32_names x32_sorts x32_numbers x32_inn_listensIn x32_inn_bed x32_inn_dreamOf x32_inn_thingIn x32_inn_full x32_inn_house_one x32_inn_house_other x32_inn_house_how x32_inn_house_falls x32_inn_house_creak x32_inn_house_cold hf H locs ls hl hP hD hS
      replace hf := lp_s hf
      generalize lp (BX6_read_32 p0 N v_tape_end_22 v_tape_bytes K70) n = rec32 at ih32 hf
      unfold BX6_read_32 at hf
      replace hf := un33_s hf
      refine lv_iload_n (pc := 32) hx hb dX6_read_32 rfl (lv_at hl 3 rfl) ?_
      refine lv_iload_n (pc := 33) hx hb dX6_read_33 rfl (lv_at hl 1 rfl) ?_
      refine lv_icmp_ge (pc := 34) (tgt := 70) hx hb dX6_read_34 (by decide) (fun c_34 => ?_) (fun c_34 => ?_)
      · replace hf := it_t c_34 hf
        exact hK70 x32_2 x32_named x32_fault x32_number x32_inn_minutes x32_inn_things x32_inn_dreams x32_inn_sleepers x32_inn_listeners x32_inn_house_rooms x32_inn_house_doors x32_inn_states x32_tape_at x32_tape_start x32_tape_kind x32_tape_code x32_tape_mayName x32_tape_value x32_names x32_sorts x32_numbers x32_inn_listensIn x32_inn_bed x32_inn_dreamOf x32_inn_thingIn x32_inn_full x32_inn_house_one x32_inn_house_other x32_inn_house_how x32_inn_house_falls x32_inn_house_creak x32_inn_house_cold hf _ _ _ (lv_sub hl [0, 2] rfl) hP hD hS
      · replace hf := it_f c_34 hf
        refine lv_iload_n (pc := 37) hx hb dX6_read_37 rfl (lv_at hl 2 rfl) ?_
        refine lv_if_eq (pc := 38) (tgt := 70) hx hb dX6_read_38 (by decide) (fun c_38 => ?_) (fun c_38 => ?_)
        · replace hf := it_t c_38 hf
          exact hK70 x32_2 x32_named x32_fault x32_number x32_inn_minutes x32_inn_things x32_inn_dreams x32_inn_sleepers x32_inn_listeners x32_inn_house_rooms x32_inn_house_doors x32_inn_states x32_tape_at x32_tape_start x32_tape_kind x32_tape_code x32_tape_mayName x32_tape_value x32_names x32_sorts x32_numbers x32_inn_listensIn x32_inn_bed x32_inn_dreamOf x32_inn_thingIn x32_inn_full x32_inn_house_one x32_inn_house_other x32_inn_house_how x32_inn_house_falls x32_inn_house_creak x32_inn_house_cold hf _ _ _ (lv_sub hl [0, 2] rfl) hP hD hS
        · replace hf := it_f c_38 hf
          refine lv_aload_n (pc := 41) hx hb dX6_read_41 rfl (lv_at hl 0 rfl) ?_
          refine r_get (pc := 42) C hP 0 rfl fl_X6_12 rfl dX6_read_42 ?_
          refine r_get (pc := 45) C hP 4 rfl fl_X6_54 rfl dX6_read_45 ?_
          refine lv_iconst (pc := 48) (v := 3) hx hb dX6_read_48 (by decide) ?_
          refine lv_icmp_ne (pc := 49) (tgt := 70) hx hb dX6_read_49 (by decide) (fun c_49 => ?_) (fun c_49 => ?_)
          · replace hf := it_f c_49 hf
            exact hK70 x32_2 x32_named x32_fault x32_number x32_inn_minutes x32_inn_things x32_inn_dreams x32_inn_sleepers x32_inn_listeners x32_inn_house_rooms x32_inn_house_doors x32_inn_states x32_tape_at x32_tape_start x32_tape_kind x32_tape_code x32_tape_mayName x32_tape_value x32_names x32_sorts x32_numbers x32_inn_listensIn x32_inn_bed x32_inn_dreamOf x32_inn_thingIn x32_inn_full x32_inn_house_one x32_inn_house_other x32_inn_house_how x32_inn_house_falls x32_inn_house_creak x32_inn_house_cold hf _ _ _ (lv_sub hl [0, 2] rfl) hP hD hS
          · replace hf := it_t c_49 hf
            refine lv_aload_n (pc := 52) hx hb dX6_read_52 rfl (lv_at hl 0 rfl) ?_
            refine r_get (pc := 53) C hP 0 rfl fl_X6_12 rfl dX6_read_53 ?_
            obtain ⟨v_tape_at_56, v_tape_start_56, v_tape_kind_56, v_tape_code_56, v_tape_mayName_56, v_tape_value_56, hc_56, hf⟩ := bd6 hf
            refine r_dalVv (pc := 56) (ws' := (wX6_read E h h_tape h_names h_sorts h_numbers h_inn h_inn_house h_inn_thingIn h_inn_full h_inn_states h_inn_bed h_inn_dreamOf h_inn_listensIn h_inn_house_creak h_inn_house_cold h_inn_house_one h_inn_house_other h_inn_house_how h_inn_house_falls h_inn_house_ways h_tape_bytes h_inn_house_ways_steps x32_named x32_fault x32_number x32_inn_minutes x32_inn_things x32_inn_dreams x32_inn_sleepers x32_inn_listeners x32_inn_house_rooms x32_inn_house_doors x32_inn_states v_tape_length v_tape_end_22 v_tape_at_56 v_tape_start_56 v_tape_kind_56 v_tape_code_56 v_tape_mayName_56 v_tape_value_56 v_tape_bytes x32_names x32_sorts x32_numbers x32_inn_listensIn x32_inn_bed x32_inn_dreamOf x32_inn_thingIn x32_inn_full x32_inn_house_one x32_inn_house_other x32_inn_house_how x32_inn_house_falls x32_inn_house_creak x32_inn_house_cold v_inn_house_ways_rooms v_inn_house_ways_steps)) (As := []) (rest := []) C (ctX7_advance l E h_tape h_tape_bytes v_tape_length v_tape_end_22 x32_tape_at x32_tape_start x32_tape_kind x32_tape_code x32_tape_mayName x32_tape_value v_tape_bytes N (v_tape_at_56, v_tape_start_56, v_tape_kind_56, v_tape_code_56, v_tape_mayName_56, v_tape_value_56) hc_56) ml_X6_57 ⟨Nat.le_of_ble_eq_true rfl, Nat.le_of_ble_eq_true rfl⟩ hP hD hS 4 rfl rfl rfl [4, 5] [0, 1, 2, 3, 22, 23, 6, 7, 8, 9, 10, 11, 12, 13, 14, 15, 16, 17, 18, 19, 20, 21] 22 rfl rfl rfl rfl rfl rfl rfl hl.1 rfl (Nat.le_of_ble_eq_true rfl) ⟨Nat.zero_le _, Nat.zero_le _⟩ dX6_read_56 ?_
            clear hP hD hS; intro H locs hP hD hS
            refine lv_aload_n (pc := 59) hx hb dX6_read_59 rfl (lv_at hl 0 rfl) ?_
            obtain ⟨r_60, v_named_60, v_fault_60, v_number_60, v_tape_at_60, v_tape_start_60, v_tape_kind_60, v_tape_code_60, v_tape_mayName_60, v_tape_value_60, v_inn_minutes_60, v_inn_things_60, v_inn_dreams_60, v_inn_sleepers_60, v_inn_listeners_60, v_names_60, v_sorts_60, v_numbers_60, v_inn_listensIn_60, v_inn_bed_60, v_inn_dreamOf_60, v_inn_states_60, v_inn_thingIn_60, v_inn_full_60, v_inn_house_rooms_60, v_inn_house_doors_60, v_inn_house_one_60, v_inn_house_other_60, v_inn_house_how_60, v_inn_house_falls_60, v_inn_house_creak_60, v_inn_house_cold_60, hc_60, hf⟩ := bd32 hf
            refine r_dalVi (pc := 60) (ws' := (wX6_read E h h_tape h_names h_sorts h_numbers h_inn h_inn_house h_inn_thingIn h_inn_full h_inn_states h_inn_bed h_inn_dreamOf h_inn_listensIn h_inn_house_creak h_inn_house_cold h_inn_house_one h_inn_house_other h_inn_house_how h_inn_house_falls h_inn_house_ways h_tape_bytes h_inn_house_ways_steps v_named_60 v_fault_60 v_number_60 v_inn_minutes_60 v_inn_things_60 v_inn_dreams_60 v_inn_sleepers_60 v_inn_listeners_60 v_inn_house_rooms_60 v_inn_house_doors_60 v_inn_states_60 v_tape_length v_tape_end_22 v_tape_at_60 v_tape_start_60 v_tape_kind_60 v_tape_code_60 v_tape_mayName_60 v_tape_value_60 v_tape_bytes v_names_60 v_sorts_60 v_numbers_60 v_inn_listensIn_60 v_inn_bed_60 v_inn_dreamOf_60 v_inn_thingIn_60 v_inn_full_60 v_inn_house_one_60 v_inn_house_other_60 v_inn_house_how_60 v_inn_house_falls_60 v_inn_house_creak_60 v_inn_house_cold_60 v_inn_house_ways_rooms v_inn_house_ways_steps)) (As := []) (rest := []) C (ctX6_readLine l E h h_tape h_names h_sorts h_numbers h_inn h_tape_bytes h_inn_house h_inn_thingIn h_inn_full h_inn_states h_inn_bed h_inn_dreamOf h_inn_listensIn h_inn_house_creak h_inn_house_cold h_inn_house_one h_inn_house_other h_inn_house_how h_inn_house_falls h_inn_house_ways x32_named x32_fault x32_number v_tape_length v_tape_end_22 v_tape_at_56 v_tape_start_56 v_tape_kind_56 v_tape_code_56 v_tape_mayName_56 v_tape_value_56 x32_inn_minutes x32_inn_things x32_inn_dreams x32_inn_sleepers x32_inn_listeners v_tape_bytes x32_names x32_sorts x32_numbers x32_inn_listensIn x32_inn_bed x32_inn_dreamOf x32_inn_states x32_inn_thingIn x32_inn_full x32_inn_house_rooms x32_inn_house_doors x32_inn_house_one x32_inn_house_other x32_inn_house_how x32_inn_house_falls x32_inn_house_creak x32_inn_house_cold N (r_60, v_named_60, v_fault_60, v_number_60, v_tape_at_60, v_tape_start_60, v_tape_kind_60, v_tape_code_60, v_tape_mayName_60, v_tape_value_60, v_inn_minutes_60, v_inn_things_60, v_inn_dreams_60, v_inn_sleepers_60, v_inn_listeners_60, v_names_60, v_sorts_60, v_numbers_60, v_inn_listensIn_60, v_inn_bed_60, v_inn_dreamOf_60, v_inn_states_60, v_inn_thingIn_60, v_inn_full_60, v_inn_house_rooms_60, v_inn_house_doors_60, v_inn_house_one_60, v_inn_house_other_60, v_inn_house_how_60, v_inn_house_falls_60, v_inn_house_creak_60, v_inn_house_cold_60) hc_60) ml_X6_50 ⟨Nat.le_of_ble_eq_true rfl, Nat.le_of_ble_eq_true rfl⟩ hP hD hS 0 rfl rfl rfl [0, 4, 1, 5, 6, 7, 8, 9, 10, 11, 3, 12, 13, 2, 14, 15, 16, 17, 18, 19] [22, 24, 35, 32, 23, 25, 26, 27, 28, 29, 30, 31, 33, 34, 36, 37, 38, 39, 40, 41, 20, 21] 22 rfl rfl rfl rfl rfl rfl rfl hl.1 rfl (Nat.le_of_ble_eq_true rfl) ⟨Nat.zero_le _, Nat.zero_le _⟩ dX6_read_60 ?_
            clear hP hD hS; intro H locs hP hD hS
            refine lv_istore_n (pc := 63) (lv' := [(2, .int r_60), (0, .ref h), (1, .int p0), (3, .int x32_3)]) hx hb dX6_read_63 rfl hl (by decide) rfl (fun ls hl => ?_)
            refine lv_iinc (pc := 64) (v := x32_3 + 1) (lv' := [(3, .int (x32_3 + 1)), (2, .int r_60), (0, .ref h), (1, .int p0)]) hx hb dX6_read_64 hl (k := 3) rfl rfl (by decide) rfl (fun ls hl => ?_)
            refine lv_goto (pc := 67) (tgt := 32) hx hb dX6_read_67 (by decide) ?_
            exact ih32 r_60 (x32_3 + 1) v_named_60 v_fault_60 v_number_60 v_inn_minutes_60 v_inn_things_60 v_inn_dreams_60 v_inn_sleepers_60 v_inn_listeners_60 v_inn_house_rooms_60 v_inn_house_doors_60 v_inn_states_60 v_tape_at_60 v_tape_start_60 v_tape_kind_60 v_tape_code_60 v_tape_mayName_60 v_tape_value_60 v_names_60 v_sorts_60 v_numbers_60 v_inn_listensIn_60 v_inn_bed_60 v_inn_dreamOf_60 v_inn_thingIn_60 v_inn_full_60 v_inn_house_one_60 v_inn_house_other_60 v_inn_house_how_60 v_inn_house_falls_60 v_inn_house_creak_60 v_inn_house_cold_60 hf _ _ _ (lv_sub hl [2, 3, 1, 0] rfl) hP hD hS
  exact key32 _ r_26 0 v_named_26 v_fault_26 v_number_26 v_inn_minutes_26 v_inn_things_26 v_inn_dreams_26 v_inn_sleepers_26 v_inn_listeners_26 v_inn_house_rooms_26 v_inn_house_doors_26 v_inn_states_26 v_tape_at_26 v_tape_start_26 v_tape_kind_26 v_tape_code_26 v_tape_mayName_26 v_tape_value_26 v_names_26 v_sorts_26 v_numbers_26 v_inn_listensIn_26 v_inn_bed_26 v_inn_dreamOf_26 v_inn_thingIn_26 v_inn_full_26 v_inn_house_one_26 v_inn_house_other_26 v_inn_house_how_26 v_inn_house_falls_26 v_inn_house_creak_26 v_inn_house_cold_26 hf _ _ _ (lv_sub hl [2, 3, 1, 0] rfl) hP hD hS
def wX2_howAtNightfall (E : EN) (h h_house h_thingIn h_full h_states h_bed h_dreamOf h_listensIn h_house_creak h_house_cold h_house_one h_house_other h_house_how h_house_falls h_house_ways : Nat) (v_minutes : Int32) (v_things : Int32) (v_dreams : Int32) (v_sleepers : Int32) (v_listeners : Int32) (v_house_rooms : Int32) (v_house_doors : Int32) (v_house_how : Nat → Int32) : va_W := [(h, .inr (2, [.ref h_house, .int v_minutes, .int v_things, .ref h_thingIn, .ref h_full, .int v_dreams, .ref h_states, .int v_sleepers, .ref h_bed, .ref h_dreamOf, .int v_listeners, .ref h_listensIn])), (h_house, .inr (1, [.int v_house_rooms, .ref h_house_creak, .ref h_house_cold, .int v_house_doors, .ref h_house_one, .ref h_house_other, .ref h_house_how, .ref h_house_falls, .ref h_house_ways])), (h_house_how, aI E 10 v_house_how)]
def fX2_howAtNightfall (N : Nat) (p0 : Int32) (p1 : Int32) (v_house_how : Nat → Int32) : Option Int32 := if p1 = (1 + (2 * p0)) then (some 1) else (if p1 = (2 + (2 * p0)) then (some 2) else (gd p0 10 (some (v_house_how p0.toNatClampNeg))))
set_option maxHeartbeats 4000000 in
set_option maxRecDepth 100000 in
theorem ctX2_howAtNightfall (l : Launch) (E : EN) (h h_house h_thingIn h_full h_states h_bed h_dreamOf h_listensIn h_house_creak h_house_cold h_house_one h_house_other h_house_how h_house_falls h_house_ways : Nat) (v_minutes : Int32) (v_things : Int32) (v_dreams : Int32) (v_sleepers : Int32) (v_listeners : Int32) (v_house_rooms : Int32) (v_house_doors : Int32) (v_house_how : Nat → Int32) (N : Nat) (p0 : Int32) (p1 : Int32) (z : Int32) (hf : fX2_howAtNightfall N p0 p1 v_house_how = some z) : CTi l E yX2_howAtNightfall cX2_howAtNightfall 3 .int 0 0 [.ref h, .int p0, .int p1] (wX2_howAtNightfall E h h_house h_thingIn h_full h_states h_bed h_dreamOf h_listensIn h_house_creak h_house_cold h_house_one h_house_other h_house_how h_house_falls h_house_ways v_minutes v_things v_dreams v_sleepers v_listeners v_house_rooms v_house_doors v_house_how) (z) (wX2_howAtNightfall E h h_house h_thingIn h_full h_states h_bed h_dreamOf h_listensIn h_house_creak h_house_cold h_house_one h_house_other h_house_how h_house_falls h_house_ways v_minutes v_things v_dreams v_sleepers v_listeners v_house_rooms v_house_doors v_house_how) := by
  intro sz
  refine ct_body (by decide) (Nat.le_of_ble_eq_true rfl) ?_
  intro p e s m args below meth c A ls hAe C hr hin hP hD hS hl
  have C : CX p s m args meth c cX2_howAtNightfall RX2 3 E A := C
  have hl : lv_has ls 3 [(0, .ref h), (1, .int p0), (2, .int p1)] := hl
  have hx := C.1
  have hb := C.2.1
  rw [hAe]
  clear hAe
  obtain ⟨Q, hQ⟩ : ∃ Q, Q = MQ below (Qi E A (z) (wX2_howAtNightfall E h h_house h_thingIn h_full h_states h_bed h_dreamOf h_listensIn h_house_creak h_house_cold h_house_one h_house_other h_house_how h_house_falls h_house_ways v_minutes v_things v_dreams v_sleepers v_listeners v_house_rooms v_house_doors v_house_how)) args s 0 0 A := ⟨_, rfl⟩
  rw [← hQ]
  unfold fX2_howAtNightfall at hf
  refine lv_iload_n (pc := 0) hx hb dX2_howAtNightfall_0 rfl (lv_at hl 2 rfl) ?_
  refine lv_iconst (pc := 1) (v := 1) hx hb dX2_howAtNightfall_1 (by decide) ?_
  refine lv_iconst (pc := 2) (v := 2) hx hb dX2_howAtNightfall_2 (by decide) ?_
  refine lv_iload_n (pc := 3) hx hb dX2_howAtNightfall_3 rfl (lv_at hl 1 rfl) ?_
  refine lv_imul (pc := 4) hx hb dX2_howAtNightfall_4 ?_
  refine lv_iadd (pc := 5) hx hb dX2_howAtNightfall_5 ?_
  refine lv_icmp_ne (pc := 6) (tgt := 11) hx hb dX2_howAtNightfall_6 (by decide) (fun c_6 => ?_) (fun c_6 => ?_)
  · replace hf := it_f c_6 hf
    refine lv_iload_n (pc := 11) hx hb dX2_howAtNightfall_11 rfl (lv_at hl 2 rfl) ?_
    refine lv_iconst (pc := 12) (v := 2) hx hb dX2_howAtNightfall_12 (by decide) ?_
    refine lv_iconst (pc := 13) (v := 2) hx hb dX2_howAtNightfall_13 (by decide) ?_
    refine lv_iload_n (pc := 14) hx hb dX2_howAtNightfall_14 rfl (lv_at hl 1 rfl) ?_
    refine lv_imul (pc := 15) hx hb dX2_howAtNightfall_15 ?_
    refine lv_iadd (pc := 16) hx hb dX2_howAtNightfall_16 ?_
    refine lv_icmp_ne (pc := 17) (tgt := 24) hx hb dX2_howAtNightfall_17 (by decide) (fun c_17 => ?_) (fun c_17 => ?_)
    · replace hf := it_f c_17 hf
      refine lv_aload_n (pc := 24) hx hb dX2_howAtNightfall_24 rfl (lv_at hl 0 rfl) ?_
      refine r_get (pc := 25) C hP 0 rfl fl_X2_12 rfl dX2_howAtNightfall_25 ?_
      refine r_get (pc := 28) C hP 1 rfl fl_X2_70 rfl dX2_howAtNightfall_28 ?_
      refine lv_iload_n (pc := 31) hx hb dX2_howAtNightfall_31 rfl (lv_at hl 1 rfl) ?_
      obtain ⟨hi_32, hf⟩ := gd_s hf
      refine r_iald (pc := 32) C hP 2 rfl hi_32 dX2_howAtNightfall_32 ?_
      cases hf
      rw [hQ]
      exact r_iret C hr hP hD hS rfl dX2_howAtNightfall_33
    · replace hf := it_t c_17 hf
      refine lv_iconst (pc := 20) (v := 2) hx hb dX2_howAtNightfall_20 (by decide) ?_
      refine lv_goto (pc := 21) (tgt := 33) hx hb dX2_howAtNightfall_21 (by decide) ?_
      cases hf
      rw [hQ]
      exact r_iret C hr hP hD hS rfl dX2_howAtNightfall_33
  · replace hf := it_t c_6 hf
    refine lv_iconst (pc := 9) (v := 1) hx hb dX2_howAtNightfall_9 (by decide) ?_
    cases hf
    rw [hQ]
    exact r_iret C hr hP hD hS rfl dX2_howAtNightfall_10
def wX2_lockedAtNightfall (E : EN) (h h_house h_thingIn h_full h_states h_bed h_dreamOf h_listensIn h_house_creak h_house_cold h_house_one h_house_other h_house_how h_house_falls h_house_ways : Nat) (v_minutes : Int32) (v_things : Int32) (v_dreams : Int32) (v_sleepers : Int32) (v_listeners : Int32) (v_house_rooms : Int32) (v_house_doors : Int32) (v_house_how : Nat → Int32) : va_W := [(h, .inr (2, [.ref h_house, .int v_minutes, .int v_things, .ref h_thingIn, .ref h_full, .int v_dreams, .ref h_states, .int v_sleepers, .ref h_bed, .ref h_dreamOf, .int v_listeners, .ref h_listensIn])), (h_house, .inr (1, [.int v_house_rooms, .ref h_house_creak, .ref h_house_cold, .int v_house_doors, .ref h_house_one, .ref h_house_other, .ref h_house_how, .ref h_house_falls, .ref h_house_ways])), (h_house_how, aI E 10 v_house_how)]
def BX2_lockedAtNightfall_4 (v_house_doors : Int32) (N : Nat) (p0 : Int32) (v_house_how : Nat → Int32) (rec4 : (Int32 × Int32) → Option Int32) : (Int32 × Int32) → Option Int32 := un2 fun (x4_2 : Int32) (x4_3 : Int32) => if v_house_doors ≤ x4_3 then (some x4_2) else ((fX2_howAtNightfall N x4_3 p0 v_house_how).bind (un1 fun (r_18 : Int32) => jn (un1 fun (x31_2 : Int32) => rec4 (x31_2, x4_3 + 1)) (fun j31 => if r_18 = 2 then (j31 (x4_2 ||| (1 <<< (x4_3 &&& 31)))) else (j31 x4_2))))
def fX2_lockedAtNightfall (N : Nat) (p0 : Int32) (v_house_doors : Int32) (v_house_how : Nat → Int32) : Option Int32 := lp (BX2_lockedAtNightfall_4 v_house_doors N p0 v_house_how) N (0, 0)
set_option maxHeartbeats 4000000 in
set_option maxRecDepth 100000 in
theorem ctX2_lockedAtNightfall (l : Launch) (E : EN) (h h_house h_thingIn h_full h_states h_bed h_dreamOf h_listensIn h_house_creak h_house_cold h_house_one h_house_other h_house_how h_house_falls h_house_ways : Nat) (v_minutes : Int32) (v_things : Int32) (v_dreams : Int32) (v_sleepers : Int32) (v_listeners : Int32) (v_house_rooms : Int32) (v_house_doors : Int32) (v_house_how : Nat → Int32) (N : Nat) (p0 : Int32) (z : Int32) (hf : fX2_lockedAtNightfall N p0 v_house_doors v_house_how = some z) : CTi l E yX2_lockedAtNightfall cX2_lockedAtNightfall 4 .int 1 22 [.ref h, .int p0] (wX2_lockedAtNightfall E h h_house h_thingIn h_full h_states h_bed h_dreamOf h_listensIn h_house_creak h_house_cold h_house_one h_house_other h_house_how h_house_falls h_house_ways v_minutes v_things v_dreams v_sleepers v_listeners v_house_rooms v_house_doors v_house_how) (z) (wX2_lockedAtNightfall E h h_house h_thingIn h_full h_states h_bed h_dreamOf h_listensIn h_house_creak h_house_cold h_house_one h_house_other h_house_how h_house_falls h_house_ways v_minutes v_things v_dreams v_sleepers v_listeners v_house_rooms v_house_doors v_house_how) := by
  intro sz
  refine ct_body (by decide) (Nat.le_of_ble_eq_true rfl) ?_
  intro p e s m args below meth c A ls hAe C hr hin hP hD hS hl
  have C : CX p s m args meth c cX2_lockedAtNightfall RX2 4 E A := C
  have hl : lv_has ls 4 [(0, .ref h), (1, .int p0)] := hl
  have hx := C.1
  have hb := C.2.1
  rw [hAe]
  clear hAe
  obtain ⟨Q, hQ⟩ : ∃ Q, Q = MQ below (Qi E A (z) (wX2_lockedAtNightfall E h h_house h_thingIn h_full h_states h_bed h_dreamOf h_listensIn h_house_creak h_house_cold h_house_one h_house_other h_house_how h_house_falls h_house_ways v_minutes v_things v_dreams v_sleepers v_listeners v_house_rooms v_house_doors v_house_how)) args s 0 0 A := ⟨_, rfl⟩
  rw [← hQ]
  unfold fX2_lockedAtNightfall at hf
  refine lv_iconst (pc := 0) (v := 0) hx hb dX2_lockedAtNightfall_0 (by decide) ?_
  refine lv_istore_n (pc := 1) (lv' := [(2, .int 0), (0, .ref h), (1, .int p0)]) hx hb dX2_lockedAtNightfall_1 rfl hl (by decide) rfl (fun ls hl => ?_)
  refine lv_iconst (pc := 2) (v := 0) hx hb dX2_lockedAtNightfall_2 (by decide) ?_
  refine lv_istore_n (pc := 3) (lv' := [(3, .int 0), (2, .int 0), (0, .ref h), (1, .int p0)]) hx hb dX2_lockedAtNightfall_3 rfl hl (by decide) rfl (fun ls hl => ?_)
  have key4 : ∀ (n : Nat) (x4_2 : Int32) (x4_3 : Int32) , lp (BX2_lockedAtNightfall_4 v_house_doors N p0 v_house_how) n (x4_2, x4_3) = some z → AT p l e (rmOf 1 22) s m args below meth c E A Q 0 0 4 [(0, .ref h), (1, .int p0), (2, .int x4_2), (3, .int x4_3)] (wX2_lockedAtNightfall E h h_house h_thingIn h_full h_states h_bed h_dreamOf h_listensIn h_house_creak h_house_cold h_house_one h_house_other h_house_how h_house_falls h_house_ways v_minutes v_things v_dreams v_sleepers v_listeners v_house_rooms v_house_doors v_house_how) 4 [] := by
    intro n
    induction n with
    | zero => intro x4_2 x4_3 hf; exact (lp_0 hf).elim
    | succ n ih4 =>
      intro x4_2 x4_3 hf H locs ls hl hP hD hS
      replace hf := lp_s hf
      generalize lp (BX2_lockedAtNightfall_4 v_house_doors N p0 v_house_how) n = rec4 at ih4 hf
      unfold BX2_lockedAtNightfall_4 at hf
      replace hf := un2_s hf
      refine lv_iload_n (pc := 4) hx hb dX2_lockedAtNightfall_4 rfl (lv_at hl 3 rfl) ?_
      refine lv_aload_n (pc := 5) hx hb dX2_lockedAtNightfall_5 rfl (lv_at hl 0 rfl) ?_
      refine r_get (pc := 6) C hP 0 rfl fl_X2_12 rfl dX2_lockedAtNightfall_6 ?_
      refine r_get (pc := 9) C hP 1 rfl fl_X2_42 rfl dX2_lockedAtNightfall_9 ?_
      refine lv_icmp_ge (pc := 12) (tgt := 37) hx hb dX2_lockedAtNightfall_12 (by decide) (fun c_12 => ?_) (fun c_12 => ?_)
      · replace hf := it_t c_12 hf
        refine lv_iload_n (pc := 37) hx hb dX2_lockedAtNightfall_37 rfl (lv_at hl 2 rfl) ?_
        cases hf
        rw [hQ]
        exact r_iret C hr hP hD hS rfl dX2_lockedAtNightfall_38
      · replace hf := it_f c_12 hf
        refine lv_aload_n (pc := 15) hx hb dX2_lockedAtNightfall_15 rfl (lv_at hl 0 rfl) ?_
        refine lv_iload_n (pc := 16) hx hb dX2_lockedAtNightfall_16 rfl (lv_at hl 3 rfl) ?_
        refine lv_iload_n (pc := 17) hx hb dX2_lockedAtNightfall_17 rfl (lv_at hl 1 rfl) ?_
        obtain ⟨r_18, hc_18, hf⟩ := bd1 hf
        refine r_dalVi (pc := 18) (ws' := (wX2_lockedAtNightfall E h h_house h_thingIn h_full h_states h_bed h_dreamOf h_listensIn h_house_creak h_house_cold h_house_one h_house_other h_house_how h_house_falls h_house_ways v_minutes v_things v_dreams v_sleepers v_listeners v_house_rooms v_house_doors v_house_how)) (As := [.int x4_3, .int p0]) (rest := []) C (ctX2_howAtNightfall l E h h_house h_thingIn h_full h_states h_bed h_dreamOf h_listensIn h_house_creak h_house_cold h_house_one h_house_other h_house_how h_house_falls h_house_ways v_minutes v_things v_dreams v_sleepers v_listeners v_house_rooms v_house_doors v_house_how N x4_3 p0 r_18 hc_18) ml_X2_73 ⟨Nat.le_of_ble_eq_true rfl, Nat.le_of_ble_eq_true rfl⟩ hP hD hS 0 rfl rfl rfl [0, 1, 2] [3, 4, 5] 3 rfl rfl rfl rfl rfl rfl rfl hl.1 rfl (Nat.le_of_ble_eq_true rfl) ⟨Nat.zero_le _, Nat.zero_le _⟩ dX2_lockedAtNightfall_18 ?_
        clear hP hD hS; intro H locs hP hD hS
        refine lv_iconst (pc := 21) (v := 2) hx hb dX2_lockedAtNightfall_21 (by decide) ?_
        refine jnK hf (fun j31 ej31 hf => ?_)
        have hj31 : ∀ (x31_2 : Int32) , j31 x31_2 = some z → AT p l e (rmOf 1 22) s m args below meth c E A Q 0 0 4 [(0, .ref h), (1, .int p0), (2, .int x31_2), (3, .int x4_3)] (wX2_lockedAtNightfall E h h_house h_thingIn h_full h_states h_bed h_dreamOf h_listensIn h_house_creak h_house_cold h_house_one h_house_other h_house_how h_house_falls h_house_ways v_minutes v_things v_dreams v_sleepers v_listeners v_house_rooms v_house_doors v_house_how) 31 [] := by
          intro x31_2 hf H locs ls hl hP hD hS
          rw [ej31] at hf
          replace hf := un1_s hf
          refine lv_iinc (pc := 31) (v := x4_3 + 1) (lv' := [(3, .int (x4_3 + 1)), (0, .ref h), (1, .int p0), (2, .int x31_2)]) hx hb dX2_lockedAtNightfall_31 hl (k := 3) rfl rfl (by decide) rfl (fun ls hl => ?_)
          refine lv_goto (pc := 34) (tgt := 4) hx hb dX2_lockedAtNightfall_34 (by decide) ?_
          exact ih4 x31_2 (x4_3 + 1) hf _ _ _ (lv_sub hl [1, 2, 3, 0] rfl) hP hD hS
        clear ej31
        refine lv_icmp_ne (pc := 22) (tgt := 31) hx hb dX2_lockedAtNightfall_22 (by decide) (fun c_22 => ?_) (fun c_22 => ?_)
        · replace hf := it_f c_22 hf
          exact hj31 x4_2 hf _ _ _ (lv_sub hl [0, 1, 2, 3] rfl) hP hD hS
        · replace hf := it_t c_22 hf
          refine lv_iload_n (pc := 25) hx hb dX2_lockedAtNightfall_25 rfl (lv_at hl 2 rfl) ?_
          refine lv_iconst (pc := 26) (v := 1) hx hb dX2_lockedAtNightfall_26 (by decide) ?_
          refine lv_iload_n (pc := 27) hx hb dX2_lockedAtNightfall_27 rfl (lv_at hl 3 rfl) ?_
          refine lv_ishl (pc := 28) hx hb dX2_lockedAtNightfall_28 ?_
          refine lv_ior (pc := 29) hx hb dX2_lockedAtNightfall_29 ?_
          refine lv_istore_n (pc := 30) (lv' := [(2, .int (x4_2 ||| (1 <<< (x4_3 &&& 31)))), (0, .ref h), (1, .int p0), (3, .int x4_3)]) hx hb dX2_lockedAtNightfall_30 rfl hl (by decide) rfl (fun ls hl => ?_)
          exact hj31 (x4_2 ||| (1 <<< (x4_3 &&& 31))) hf _ _ _ (lv_sub hl [1, 2, 0, 3] rfl) hP hD hS
  exact key4 _ 0 0 hf _ _ _ (lv_sub hl [2, 3, 1, 0] rfl) hP hD hS
def wX4_prepare (E : EN) (h h_ways h_how h_passed h_dreamOf h_stateOf h_roomOf h_handOf h_awake h_thingIn h_full h_heardBy a0 a0_house a0_thingIn a0_full a0_states a0_bed a0_dreamOf a0_listensIn a0_house_creak a0_house_cold a0_house_one a0_house_other a0_house_how a0_house_falls a0_house_ways h_ways_steps : Nat) (v_inn : Option Nat) (v_setting : Int32) (v_been : Int32) (v_a0_minutes : Int32) (v_a0_things : Int32) (v_a0_dreams : Int32) (v_a0_sleepers : Int32) (v_a0_listeners : Int32) (v_a0_house_rooms : Int32) (v_a0_house_doors : Int32) (v_a0_house_how : Nat → Int32) (v_ways_rooms : Int32) (v_ways_steps : Nat → Int32) (v_a0_house_one : Nat → Int32) (v_a0_house_other : Nat → Int32) : va_W := [(h, .inr (4, [va_rf v_inn, .int v_setting, .int v_been, .ref h_ways, .ref h_how, .ref h_passed, .ref h_dreamOf, .ref h_stateOf, .ref h_roomOf, .ref h_handOf, .ref h_awake, .ref h_thingIn, .ref h_full, .ref h_heardBy])), (a0, .inr (2, [.ref a0_house, .int v_a0_minutes, .int v_a0_things, .ref a0_thingIn, .ref a0_full, .int v_a0_dreams, .ref a0_states, .int v_a0_sleepers, .ref a0_bed, .ref a0_dreamOf, .int v_a0_listeners, .ref a0_listensIn])), (a0_house, .inr (1, [.int v_a0_house_rooms, .ref a0_house_creak, .ref a0_house_cold, .int v_a0_house_doors, .ref a0_house_one, .ref a0_house_other, .ref a0_house_how, .ref a0_house_falls, .ref a0_house_ways])), (a0_house_how, aI E 10 v_a0_house_how), (h_ways, .inr (8, [.ref h_ways_steps, .int v_ways_rooms])), (h_ways_steps, aI E 64 v_ways_steps), (a0_house_one, aI E 10 v_a0_house_one), (a0_house_other, aI E 10 v_a0_house_other)]
def fX4_prepare (N : Nat) (p1 : Int32) (v_a0_house_rooms : Int32) (v_a0_house_doors : Int32) (v_a0_house_how : Nat → Int32) (v_ways_steps : Nat → Int32) (v_a0_house_one : Nat → Int32) (v_a0_house_other : Nat → Int32) : Option (Int32 × Int32 × (Nat → Int32)) := (fX2_lockedAtNightfall N p1 v_a0_house_doors v_a0_house_how).bind (un1 fun (r_29 : Int32) => (fX8_measure N r_29 v_a0_house_rooms v_a0_house_doors v_ways_steps v_a0_house_one v_a0_house_other).bind (un2 fun (v_ways_rooms_32 : Int32) (v_ways_steps_32 : Nat → Int32) => some (p1, v_ways_rooms_32, v_ways_steps_32)))
set_option maxHeartbeats 4000000 in
set_option maxRecDepth 100000 in
theorem ctX4_prepare (l : Launch) (E : EN) (h h_ways h_how h_passed h_dreamOf h_stateOf h_roomOf h_handOf h_awake h_thingIn h_full h_heardBy a0 a0_house a0_thingIn a0_full a0_states a0_bed a0_dreamOf a0_listensIn a0_house_creak a0_house_cold a0_house_one a0_house_other a0_house_how a0_house_falls a0_house_ways h_ways_steps : Nat) (v_inn : Option Nat) (v_setting : Int32) (v_been : Int32) (v_a0_minutes : Int32) (v_a0_things : Int32) (v_a0_dreams : Int32) (v_a0_sleepers : Int32) (v_a0_listeners : Int32) (v_a0_house_rooms : Int32) (v_a0_house_doors : Int32) (v_a0_house_how : Nat → Int32) (v_ways_rooms : Int32) (v_ways_steps : Nat → Int32) (v_a0_house_one : Nat → Int32) (v_a0_house_other : Nat → Int32) (N : Nat) (p1 : Int32) (z : Int32 × Int32 × (Nat → Int32)) (hf : fX4_prepare N p1 v_a0_house_rooms v_a0_house_doors v_a0_house_how v_ways_steps v_a0_house_one v_a0_house_other = some z) : CTv l E yX4_prepare cX4_prepare 3 3 71 [.ref h, .ref a0, .int p1] (wX4_prepare E h h_ways h_how h_passed h_dreamOf h_stateOf h_roomOf h_handOf h_awake h_thingIn h_full h_heardBy a0 a0_house a0_thingIn a0_full a0_states a0_bed a0_dreamOf a0_listensIn a0_house_creak a0_house_cold a0_house_one a0_house_other a0_house_how a0_house_falls a0_house_ways h_ways_steps v_inn v_setting v_been v_a0_minutes v_a0_things v_a0_dreams v_a0_sleepers v_a0_listeners v_a0_house_rooms v_a0_house_doors v_a0_house_how v_ways_rooms v_ways_steps v_a0_house_one v_a0_house_other) [(h, .inr (4, [.ref a0, .int z.1, .int v_been, .ref h_ways, .ref h_how, .ref h_passed, .ref h_dreamOf, .ref h_stateOf, .ref h_roomOf, .ref h_handOf, .ref h_awake, .ref h_thingIn, .ref h_full, .ref h_heardBy])), (a0, .inr (2, [.ref a0_house, .int v_a0_minutes, .int v_a0_things, .ref a0_thingIn, .ref a0_full, .int v_a0_dreams, .ref a0_states, .int v_a0_sleepers, .ref a0_bed, .ref a0_dreamOf, .int v_a0_listeners, .ref a0_listensIn])), (a0_house, .inr (1, [.int v_a0_house_rooms, .ref a0_house_creak, .ref a0_house_cold, .int v_a0_house_doors, .ref a0_house_one, .ref a0_house_other, .ref a0_house_how, .ref a0_house_falls, .ref a0_house_ways])), (a0_house_how, aI E 10 v_a0_house_how), (h_ways, .inr (8, [.ref h_ways_steps, .int z.2.1])), (h_ways_steps, aI E 64 z.2.2), (a0_house_one, aI E 10 v_a0_house_one), (a0_house_other, aI E 10 v_a0_house_other)] := by
  intro sz
  refine ct_body (by decide) (Nat.le_of_ble_eq_true rfl) ?_
  intro p e s m args below meth c A ls hAe C hr hin hP hD hS hl
  have C : CX p s m args meth c cX4_prepare RX4 3 E A := C
  have hl : lv_has ls 3 [(0, .ref h), (1, .ref a0), (2, .int p1)] := hl
  have hx := C.1
  have hb := C.2.1
  rw [hAe]
  clear hAe
  obtain ⟨Q, hQ⟩ : ∃ Q, Q = MQ below (Qv E A [(h, .inr (4, [.ref a0, .int z.1, .int v_been, .ref h_ways, .ref h_how, .ref h_passed, .ref h_dreamOf, .ref h_stateOf, .ref h_roomOf, .ref h_handOf, .ref h_awake, .ref h_thingIn, .ref h_full, .ref h_heardBy])), (a0, .inr (2, [.ref a0_house, .int v_a0_minutes, .int v_a0_things, .ref a0_thingIn, .ref a0_full, .int v_a0_dreams, .ref a0_states, .int v_a0_sleepers, .ref a0_bed, .ref a0_dreamOf, .int v_a0_listeners, .ref a0_listensIn])), (a0_house, .inr (1, [.int v_a0_house_rooms, .ref a0_house_creak, .ref a0_house_cold, .int v_a0_house_doors, .ref a0_house_one, .ref a0_house_other, .ref a0_house_how, .ref a0_house_falls, .ref a0_house_ways])), (a0_house_how, aI E 10 v_a0_house_how), (h_ways, .inr (8, [.ref h_ways_steps, .int z.2.1])), (h_ways_steps, aI E 64 z.2.2), (a0_house_one, aI E 10 v_a0_house_one), (a0_house_other, aI E 10 v_a0_house_other)]) args s 0 0 A := ⟨_, rfl⟩
  rw [← hQ]
  unfold fX4_prepare at hf
  refine lv_aload_n (pc := 0) hx hb dX4_prepare_0 rfl (lv_at hl 0 rfl) ?_
  refine lv_aload_n (pc := 1) hx hb dX4_prepare_1 rfl (lv_at hl 1 rfl) ?_
  refine r_put (pc := 2) (ws' := [(h, .inr (4, [.ref a0, .int v_setting, .int v_been, .ref h_ways, .ref h_how, .ref h_passed, .ref h_dreamOf, .ref h_stateOf, .ref h_roomOf, .ref h_handOf, .ref h_awake, .ref h_thingIn, .ref h_full, .ref h_heardBy])), (a0, .inr (2, [.ref a0_house, .int v_a0_minutes, .int v_a0_things, .ref a0_thingIn, .ref a0_full, .int v_a0_dreams, .ref a0_states, .int v_a0_sleepers, .ref a0_bed, .ref a0_dreamOf, .int v_a0_listeners, .ref a0_listensIn])), (a0_house, .inr (1, [.int v_a0_house_rooms, .ref a0_house_creak, .ref a0_house_cold, .int v_a0_house_doors, .ref a0_house_one, .ref a0_house_other, .ref a0_house_how, .ref a0_house_falls, .ref a0_house_ways])), (a0_house_how, aI E 10 v_a0_house_how), (h_ways, .inr (8, [.ref h_ways_steps, .int v_ways_rooms])), (h_ways_steps, aI E 64 v_ways_steps), (a0_house_one, aI E 10 v_a0_house_one), (a0_house_other, aI E 10 v_a0_house_other)]) C hP hD hS 0 rfl fl_X4_51 rfl rfl (Nat.le_of_ble_eq_true rfl) rfl dX4_prepare_2 ?_
  clear hP hD hS; intro H locs hP hD hS
  refine lv_aload_n (pc := 5) hx hb dX4_prepare_5 rfl (lv_at hl 0 rfl) ?_
  refine lv_iload_n (pc := 6) hx hb dX4_prepare_6 rfl (lv_at hl 2 rfl) ?_
  refine r_put (pc := 7) (ws' := [(h, .inr (4, [.ref a0, .int p1, .int v_been, .ref h_ways, .ref h_how, .ref h_passed, .ref h_dreamOf, .ref h_stateOf, .ref h_roomOf, .ref h_handOf, .ref h_awake, .ref h_thingIn, .ref h_full, .ref h_heardBy])), (a0, .inr (2, [.ref a0_house, .int v_a0_minutes, .int v_a0_things, .ref a0_thingIn, .ref a0_full, .int v_a0_dreams, .ref a0_states, .int v_a0_sleepers, .ref a0_bed, .ref a0_dreamOf, .int v_a0_listeners, .ref a0_listensIn])), (a0_house, .inr (1, [.int v_a0_house_rooms, .ref a0_house_creak, .ref a0_house_cold, .int v_a0_house_doors, .ref a0_house_one, .ref a0_house_other, .ref a0_house_how, .ref a0_house_falls, .ref a0_house_ways])), (a0_house_how, aI E 10 v_a0_house_how), (h_ways, .inr (8, [.ref h_ways_steps, .int v_ways_rooms])), (h_ways_steps, aI E 64 v_ways_steps), (a0_house_one, aI E 10 v_a0_house_one), (a0_house_other, aI E 10 v_a0_house_other)]) C hP hD hS 0 rfl fl_X4_55 rfl rfl (Nat.le_of_ble_eq_true rfl) rfl dX4_prepare_7 ?_
  clear hP hD hS; intro H locs hP hD hS
  refine lv_aload_n (pc := 10) hx hb dX4_prepare_10 rfl (lv_at hl 0 rfl) ?_
  refine r_get (pc := 11) C hP 0 rfl fl_X4_12 rfl dX4_prepare_11 ?_
  refine lv_aload_n (pc := 14) hx hb dX4_prepare_14 rfl (lv_at hl 0 rfl) ?_
  refine r_get (pc := 15) C hP 0 rfl fl_X4_51 rfl dX4_prepare_15 ?_
  refine r_get (pc := 18) C hP 1 rfl fl_X4_59 rfl dX4_prepare_18 ?_
  refine lv_aload_n (pc := 21) hx hb dX4_prepare_21 rfl (lv_at hl 0 rfl) ?_
  refine r_get (pc := 22) C hP 0 rfl fl_X4_51 rfl dX4_prepare_22 ?_
  refine lv_aload_n (pc := 25) hx hb dX4_prepare_25 rfl (lv_at hl 0 rfl) ?_
  refine r_get (pc := 26) C hP 0 rfl fl_X4_55 rfl dX4_prepare_26 ?_
  obtain ⟨r_29, hc_29, hf⟩ := bd1 hf
  refine r_dalVi (pc := 29) (ws' := [(h, .inr (4, [.ref a0, .int p1, .int v_been, .ref h_ways, .ref h_how, .ref h_passed, .ref h_dreamOf, .ref h_stateOf, .ref h_roomOf, .ref h_handOf, .ref h_awake, .ref h_thingIn, .ref h_full, .ref h_heardBy])), (a0, .inr (2, [.ref a0_house, .int v_a0_minutes, .int v_a0_things, .ref a0_thingIn, .ref a0_full, .int v_a0_dreams, .ref a0_states, .int v_a0_sleepers, .ref a0_bed, .ref a0_dreamOf, .int v_a0_listeners, .ref a0_listensIn])), (a0_house, .inr (1, [.int v_a0_house_rooms, .ref a0_house_creak, .ref a0_house_cold, .int v_a0_house_doors, .ref a0_house_one, .ref a0_house_other, .ref a0_house_how, .ref a0_house_falls, .ref a0_house_ways])), (a0_house_how, aI E 10 v_a0_house_how), (h_ways, .inr (8, [.ref h_ways_steps, .int v_ways_rooms])), (h_ways_steps, aI E 64 v_ways_steps), (a0_house_one, aI E 10 v_a0_house_one), (a0_house_other, aI E 10 v_a0_house_other)]) (As := [.int p1]) (rest := [.ref a0_house, .ref h_ways]) C (ctX2_lockedAtNightfall l E a0 a0_house a0_thingIn a0_full a0_states a0_bed a0_dreamOf a0_listensIn a0_house_creak a0_house_cold a0_house_one a0_house_other a0_house_how a0_house_falls a0_house_ways v_a0_minutes v_a0_things v_a0_dreams v_a0_sleepers v_a0_listeners v_a0_house_rooms v_a0_house_doors v_a0_house_how N p1 r_29 hc_29) ml_X4_65 ⟨Nat.le_of_ble_eq_true rfl, Nat.le_of_ble_eq_true rfl⟩ hP hD hS 1 rfl rfl rfl [1, 2, 3] [0, 8, 9, 10, 4, 5, 6, 7] 8 rfl rfl rfl rfl rfl rfl rfl hl.1 rfl (Nat.le_of_ble_eq_true rfl) ⟨Nat.zero_le _, Nat.zero_le _⟩ dX4_prepare_29 ?_
  clear hP hD hS; intro H locs hP hD hS
  obtain ⟨v_ways_rooms_32, v_ways_steps_32, hc_32, hf⟩ := bd2 hf
  refine r_dalVv (pc := 32) (ws' := [(h, .inr (4, [.ref a0, .int p1, .int v_been, .ref h_ways, .ref h_how, .ref h_passed, .ref h_dreamOf, .ref h_stateOf, .ref h_roomOf, .ref h_handOf, .ref h_awake, .ref h_thingIn, .ref h_full, .ref h_heardBy])), (a0, .inr (2, [.ref a0_house, .int v_a0_minutes, .int v_a0_things, .ref a0_thingIn, .ref a0_full, .int v_a0_dreams, .ref a0_states, .int v_a0_sleepers, .ref a0_bed, .ref a0_dreamOf, .int v_a0_listeners, .ref a0_listensIn])), (a0_house, .inr (1, [.int v_a0_house_rooms, .ref a0_house_creak, .ref a0_house_cold, .int v_a0_house_doors, .ref a0_house_one, .ref a0_house_other, .ref a0_house_how, .ref a0_house_falls, .ref a0_house_ways])), (a0_house_how, aI E 10 v_a0_house_how), (h_ways, .inr (8, [.ref h_ways_steps, .int v_ways_rooms_32])), (h_ways_steps, aI E 64 v_ways_steps_32), (a0_house_one, aI E 10 v_a0_house_one), (a0_house_other, aI E 10 v_a0_house_other)]) (As := [.ref a0_house, .int r_29]) (rest := []) C (ctX8_measure l E a0_house a0_house_creak a0_house_cold a0_house_one a0_house_other a0_house_how a0_house_falls a0_house_ways h_ways h_ways_steps v_a0_house_rooms v_a0_house_doors v_ways_rooms v_ways_steps v_a0_house_one v_a0_house_other N r_29 (v_ways_rooms_32, v_ways_steps_32) hc_32) ml_X4_69 ⟨Nat.le_of_ble_eq_true rfl, Nat.le_of_ble_eq_true rfl⟩ hP hD hS 4 rfl rfl rfl [2, 4, 5, 6, 7] [0, 1, 8, 3, 9, 10, 11, 12] 8 rfl rfl rfl rfl rfl rfl rfl hl.1 rfl (Nat.le_of_ble_eq_true rfl) ⟨Nat.zero_le _, Nat.zero_le _⟩ dX4_prepare_32 ?_
  clear hP hD hS; intro H locs hP hD hS
  cases hf
  rw [hQ]
  exact r_vret C hr hP hD hS dX4_prepare_35
def wJ7_fill_d0a16 (E : EN) (a0 : Nat) (v_a0 : Nat → Int64) : va_W := [(a0, aJ E 3 v_a0)]
def BJ7_fill_d0a16_6 (p1 : Int64) (rec6 : (Int32 × (Nat → Int64)) → Option (Nat → Int64)) : (Int32 × (Nat → Int64)) → Option (Nat → Int64) := un2 fun (x6_3 : Int32) (x6_a0 : Nat → Int64) => if 3 ≤ x6_3 then (some x6_a0) else (gd x6_3 3 (rec6 (x6_3 + 1, vp_updL x6_a0 x6_3.toNatClampNeg p1)))
def fJ7_fill_d0a16 (N : Nat) (p1 : Int64) (v_a0 : Nat → Int64) : Option (Nat → Int64) := lp (BJ7_fill_d0a16_6 p1) N (0, v_a0)
set_option maxHeartbeats 4000000 in
set_option maxRecDepth 100000 in
theorem ctJ7_fill_d0a16 (l : Launch) (E : EN) (a0 : Nat) (v_a0 : Nat → Int64) (N : Nat) (p1 : Int64) (z : Nat → Int64) (hf : fJ7_fill_d0a16 N p1 v_a0 = some z) : CTv l E yJ7_fill_d0a16 cJ7_fill_d0a16 5 0 0 [.ref a0, .long p1] (wJ7_fill_d0a16 E a0 v_a0) (wJ7_fill_d0a16 E a0 z) := by
  intro sz
  refine ct_body (by decide) (Nat.le_of_ble_eq_true rfl) ?_
  intro p e s m args below meth c A ls hAe C hr hin hP hD hS hl
  have C : CX p s m args meth c cJ7_fill_d0a16 RJ7 5 E A := C
  have hl : lv_has ls 5 [(0, .ref a0), (1, .long p1)] := hl
  have hx := C.1
  have hb := C.2.1
  rw [hAe]
  clear hAe
  obtain ⟨Q, hQ⟩ : ∃ Q, Q = MQ below (Qv E A (wJ7_fill_d0a16 E a0 z)) args s 0 0 A := ⟨_, rfl⟩
  rw [← hQ]
  unfold fJ7_fill_d0a16 at hf
  refine lv_iconst (pc := 0) (v := 0) hx hb dJ7_fill_d0a16_0 (by decide) ?_
  refine lv_istore_n (pc := 1) (lv' := [(3, .int 0), (0, .ref a0), (1, .long p1)]) hx hb dJ7_fill_d0a16_1 rfl hl (by decide) rfl (fun ls hl => ?_)
  refine lv_aload_n (pc := 2) hx hb dJ7_fill_d0a16_2 rfl (lv_at hl 1 rfl) ?_
  refine r_alenJ (pc := 3) (v := 3) C hP 0 rfl (by decide) dJ7_fill_d0a16_3 ?_
  refine lv_istore (pc := 4) (lv' := [(4, .int 3), (3, .int 0), (0, .ref a0), (1, .long p1)]) hx hb dJ7_fill_d0a16_4 hl (by decide) rfl (fun ls hl => ?_)
  have key6 : ∀ (n : Nat) (x6_3 : Int32) (x6_a0 : Nat → Int64) , lp (BJ7_fill_d0a16_6 p1) n (x6_3, x6_a0) = some z → AT p l e (rmOf 0 0) s m args below meth c E A Q 0 0 5 [(0, .ref a0), (1, .long p1), (3, .int x6_3), (4, .int 3)] (wJ7_fill_d0a16 E a0 x6_a0) 6 [] := by
    intro n
    induction n with
    | zero => intro x6_3 x6_a0 hf; exact (lp_0 hf).elim
    | succ n ih6 =>
      intro x6_3 x6_a0 hf H locs ls hl hP hD hS
      replace hf := lp_s hf
      generalize lp (BJ7_fill_d0a16_6 p1) n = rec6 at ih6 hf
      unfold BJ7_fill_d0a16_6 at hf
      replace hf := un2_s hf
      refine lv_iload_n (pc := 6) hx hb dJ7_fill_d0a16_6 rfl (lv_at hl 2 rfl) ?_
      refine lv_iload (pc := 7) hx hb dJ7_fill_d0a16_7 (lv_at hl 3 rfl) ?_
      refine lv_icmp_ge (pc := 9) (tgt := 22) hx hb dJ7_fill_d0a16_9 (by decide) (fun c_9 => ?_) (fun c_9 => ?_)
      · replace hf := it_t c_9 hf
        cases hf
        rw [hQ]
        exact r_vret C hr hP hD hS dJ7_fill_d0a16_22
      · replace hf := it_f c_9 hf
        refine lv_aload_n (pc := 12) hx hb dJ7_fill_d0a16_12 rfl (lv_at hl 0 rfl) ?_
        refine lv_iload_n (pc := 13) hx hb dJ7_fill_d0a16_13 rfl (lv_at hl 2 rfl) ?_
        refine lv_lload_n (pc := 14) hx hb dJ7_fill_d0a16_14 rfl (lv_at hl 1 rfl) ?_
        obtain ⟨hi_15, hf⟩ := gd_s hf
        refine r_last (pc := 15) (ws' := (wJ7_fill_d0a16 E a0 (vp_updL x6_a0 x6_3.toNatClampNeg p1))) C hP hD hS 0 rfl hi_15 rfl dJ7_fill_d0a16_15 ?_
        clear hP hD hS; intro H locs hP hD hS
        refine lv_iinc (pc := 16) (v := x6_3 + 1) (lv' := [(3, .int (x6_3 + 1)), (0, .ref a0), (1, .long p1), (4, .int 3)]) hx hb dJ7_fill_d0a16_16 hl (k := 2) rfl rfl (by decide) rfl (fun ls hl => ?_)
        refine lv_goto (pc := 19) (tgt := 6) hx hb dJ7_fill_d0a16_19 (by decide) ?_
        exact ih6 (x6_3 + 1) (vp_updL x6_a0 x6_3.toNatClampNeg p1) hf _ _ _ (lv_sub hl [1, 2, 0, 3] rfl) hP hD hS
  exact key6 _ 0 v_a0 hf _ _ _ (lv_sub hl [2, 3, 1, 0] rfl) hP hD hS
def wX4_begind (E : EN) (h h_inn h_ways h_how h_passed h_dreamOf h_stateOf h_roomOf h_handOf h_awake h_thingIn h_full h_heardBy h_inn_house h_inn_thingIn h_inn_full h_inn_states h_inn_bed h_inn_dreamOf h_inn_listensIn h_inn_house_creak h_inn_house_cold h_inn_house_one h_inn_house_other h_inn_house_how h_inn_house_falls h_inn_house_ways a0 : Nat) (v_setting : Int32) (v_been : Int32) (v_inn_minutes : Int32) (v_inn_things : Int32) (v_inn_dreams : Int32) (v_inn_sleepers : Int32) (v_inn_listeners : Int32) (v_inn_house_rooms : Int32) (v_inn_house_doors : Int32) (v_inn_thingIn : Nat → Int32) (v_thingIn : Nat → Int32) (v_inn_full : Nat → Int32) (v_full : Nat → Int32) (v_heardBy : Nat → Int64) (v_a0 : Nat → Int32) (v_dreamOf : Nat → Int32) (v_stateOf : Nat → Int32) (v_inn_bed : Nat → Int32) (v_roomOf : Nat → Int32) (v_handOf : Nat → Int32) (v_awake : Nat → Int32) (v_inn_house_how : Nat → Int32) (v_how : Nat → Int32) (v_passed : Nat → Int32) : va_W := [(h, .inr (4, [.ref h_inn, .int v_setting, .int v_been, .ref h_ways, .ref h_how, .ref h_passed, .ref h_dreamOf, .ref h_stateOf, .ref h_roomOf, .ref h_handOf, .ref h_awake, .ref h_thingIn, .ref h_full, .ref h_heardBy])), (h_inn, .inr (2, [.ref h_inn_house, .int v_inn_minutes, .int v_inn_things, .ref h_inn_thingIn, .ref h_inn_full, .int v_inn_dreams, .ref h_inn_states, .int v_inn_sleepers, .ref h_inn_bed, .ref h_inn_dreamOf, .int v_inn_listeners, .ref h_inn_listensIn])), (h_inn_house, .inr (1, [.int v_inn_house_rooms, .ref h_inn_house_creak, .ref h_inn_house_cold, .int v_inn_house_doors, .ref h_inn_house_one, .ref h_inn_house_other, .ref h_inn_house_how, .ref h_inn_house_falls, .ref h_inn_house_ways])), (h_inn_thingIn, aI E 4 v_inn_thingIn), (h_thingIn, aI E 4 v_thingIn), (h_inn_full, aZ E 4 v_inn_full), (h_full, aZ E 4 v_full), (h_heardBy, aJ E 3 v_heardBy), (a0, aI E 192 v_a0), (h_dreamOf, aI E 3 v_dreamOf), (h_stateOf, aI E 3 v_stateOf), (h_inn_bed, aI E 3 v_inn_bed), (h_roomOf, aI E 3 v_roomOf), (h_handOf, aI E 3 v_handOf), (h_awake, aZ E 3 v_awake), (h_inn_house_how, aI E 10 v_inn_house_how), (h_how, aI E 10 v_how), (h_passed, aI E 10 v_passed)]
def BX4_begind_54 (v_inn_sleepers : Int32) (v_inn_full : Nat → Int32) (N : Nat) (v_heardBy : Nat → Int64) (v_inn_thingIn : Nat → Int32) (v_thingIn : Nat → Int32) (v_full : Nat → Int32) (x52_how : Nat → Int32) (x52_passed : Nat → Int32) (p1 : Int32) (v_a0 : Nat → Int32) (v_inn_bed : Nat → Int32) (rec54 : (Int32 × (Nat → Int32) × (Nat → Int32) × (Nat → Int32) × (Nat → Int32) × (Nat → Int32)) → Option (Int32 × (Nat → Int32) × (Nat → Int32) × (Nat → Int64) × (Nat → Int32) × (Nat → Int32) × (Nat → Int32) × (Nat → Int32) × (Nat → Int32) × (Nat → Int32) × (Nat → Int32))) : (Int32 × (Nat → Int32) × (Nat → Int32) × (Nat → Int32) × (Nat → Int32) × (Nat → Int32)) → Option (Int32 × (Nat → Int32) × (Nat → Int32) × (Nat → Int64) × (Nat → Int32) × (Nat → Int32) × (Nat → Int32) × (Nat → Int32) × (Nat → Int32) × (Nat → Int32) × (Nat → Int32)) := un6 fun (x54_3 : Int32) (x54_dreamOf : Nat → Int32) (x54_stateOf : Nat → Int32) (x54_roomOf : Nat → Int32) (x54_handOf : Nat → Int32) (x54_awake : Nat → Int32) => if v_inn_sleepers ≤ x54_3 then (cpg 0 0 4 4 4 (cpg 0 0 4 4 4 (zcg v_inn_full 0 4 ((fJ7_fill_d0a16 N 0 v_heardBy).bind (un1 fun (v_heardBy_158 : Nat → Int64) => some (0, va_cpy v_inn_thingIn v_thingIn (0 : Int32).toNatClampNeg (0 : Int32).toNatClampNeg (4 : Int32).toNatClampNeg, va_cpy v_inn_full v_full (0 : Int32).toNatClampNeg (0 : Int32).toNatClampNeg (4 : Int32).toNatClampNeg, v_heardBy_158, x54_dreamOf, x54_stateOf, x54_roomOf, x54_handOf, x54_awake, x52_how, x52_passed)))))) else (gd (p1 + x54_3) 192 (gd x54_3 3 (gd x54_3 3 (gd x54_3 3 (gd x54_3 3 (gd x54_3 3 (gd x54_3 3 (rec54 (x54_3 + 1, upd x54_dreamOf x54_3.toNatClampNeg (v_a0 (p1 + x54_3).toNatClampNeg), upd x54_stateOf x54_3.toNatClampNeg 0, upd x54_roomOf x54_3.toNatClampNeg (v_inn_bed x54_3.toNatClampNeg), upd x54_handOf x54_3.toNatClampNeg (-2), upd x54_awake x54_3.toNatClampNeg 0)))))))))
def BX4_begind_7 (v_inn_house_doors : Int32) (N : Nat) (v_setting : Int32) (v_inn_house_how : Nat → Int32) (K52 : ((Nat → Int32) × (Nat → Int32)) → Option (Int32 × (Nat → Int32) × (Nat → Int32) × (Nat → Int64) × (Nat → Int32) × (Nat → Int32) × (Nat → Int32) × (Nat → Int32) × (Nat → Int32) × (Nat → Int32) × (Nat → Int32))) (rec7 : (Int32 × (Nat → Int32) × (Nat → Int32)) → Option (Int32 × (Nat → Int32) × (Nat → Int32) × (Nat → Int64) × (Nat → Int32) × (Nat → Int32) × (Nat → Int32) × (Nat → Int32) × (Nat → Int32) × (Nat → Int32) × (Nat → Int32))) : (Int32 × (Nat → Int32) × (Nat → Int32)) → Option (Int32 × (Nat → Int32) × (Nat → Int32) × (Nat → Int64) × (Nat → Int32) × (Nat → Int32) × (Nat → Int32) × (Nat → Int32) × (Nat → Int32) × (Nat → Int32) × (Nat → Int32)) := un3 fun (x7_3 : Int32) (x7_how : Nat → Int32) (x7_passed : Nat → Int32) => if v_inn_house_doors ≤ x7_3 then (K52 (x7_how, x7_passed)) else ((fX2_howAtNightfall N x7_3 v_setting v_inn_house_how).bind (un1 fun (r_35 : Int32) => gd x7_3 10 (gd x7_3 10 (rec7 (x7_3 + 1, upd x7_how x7_3.toNatClampNeg r_35, upd x7_passed x7_3.toNatClampNeg 0)))))
def fX4_begind (N : Nat) (p1 : Int32) (v_setting : Int32) (v_inn_sleepers : Int32) (v_inn_house_doors : Int32) (v_inn_thingIn : Nat → Int32) (v_thingIn : Nat → Int32) (v_inn_full : Nat → Int32) (v_full : Nat → Int32) (v_heardBy : Nat → Int64) (v_a0 : Nat → Int32) (v_dreamOf : Nat → Int32) (v_stateOf : Nat → Int32) (v_inn_bed : Nat → Int32) (v_roomOf : Nat → Int32) (v_handOf : Nat → Int32) (v_awake : Nat → Int32) (v_inn_house_how : Nat → Int32) (v_how : Nat → Int32) (v_passed : Nat → Int32) : Option (Int32 × (Nat → Int32) × (Nat → Int32) × (Nat → Int64) × (Nat → Int32) × (Nat → Int32) × (Nat → Int32) × (Nat → Int32) × (Nat → Int32) × (Nat → Int32) × (Nat → Int32)) := lp (BX4_begind_7 v_inn_house_doors N v_setting v_inn_house_how (un2 fun (x52_how : Nat → Int32) (x52_passed : Nat → Int32) => lp (BX4_begind_54 v_inn_sleepers v_inn_full N v_heardBy v_inn_thingIn v_thingIn v_full x52_how x52_passed p1 v_a0 v_inn_bed) N (0, v_dreamOf, v_stateOf, v_roomOf, v_handOf, v_awake))) N (0, v_how, v_passed)
set_option maxHeartbeats 4000000 in
set_option maxRecDepth 100000 in
theorem ctX4_begind (l : Launch) (E : EN) (h h_inn h_ways h_how h_passed h_dreamOf h_stateOf h_roomOf h_handOf h_awake h_thingIn h_full h_heardBy h_inn_house h_inn_thingIn h_inn_full h_inn_states h_inn_bed h_inn_dreamOf h_inn_listensIn h_inn_house_creak h_inn_house_cold h_inn_house_one h_inn_house_other h_inn_house_how h_inn_house_falls h_inn_house_ways a0 : Nat) (v_setting : Int32) (v_been : Int32) (v_inn_minutes : Int32) (v_inn_things : Int32) (v_inn_dreams : Int32) (v_inn_sleepers : Int32) (v_inn_listeners : Int32) (v_inn_house_rooms : Int32) (v_inn_house_doors : Int32) (v_inn_thingIn : Nat → Int32) (v_thingIn : Nat → Int32) (v_inn_full : Nat → Int32) (v_full : Nat → Int32) (v_heardBy : Nat → Int64) (v_a0 : Nat → Int32) (v_dreamOf : Nat → Int32) (v_stateOf : Nat → Int32) (v_inn_bed : Nat → Int32) (v_roomOf : Nat → Int32) (v_handOf : Nat → Int32) (v_awake : Nat → Int32) (v_inn_house_how : Nat → Int32) (v_how : Nat → Int32) (v_passed : Nat → Int32) (N : Nat) (p1 : Int32) (z : Int32 × (Nat → Int32) × (Nat → Int32) × (Nat → Int64) × (Nat → Int32) × (Nat → Int32) × (Nat → Int32) × (Nat → Int32) × (Nat → Int32) × (Nat → Int32) × (Nat → Int32)) (hf : fX4_begind N p1 v_setting v_inn_sleepers v_inn_house_doors v_inn_thingIn v_thingIn v_inn_full v_full v_heardBy v_a0 v_dreamOf v_stateOf v_inn_bed v_roomOf v_handOf v_awake v_inn_house_how v_how v_passed = some z) : CTv l E yX4_begin cX4_begin 4 1 26 [.ref h, .ref a0, .int p1] (wX4_begind E h h_inn h_ways h_how h_passed h_dreamOf h_stateOf h_roomOf h_handOf h_awake h_thingIn h_full h_heardBy h_inn_house h_inn_thingIn h_inn_full h_inn_states h_inn_bed h_inn_dreamOf h_inn_listensIn h_inn_house_creak h_inn_house_cold h_inn_house_one h_inn_house_other h_inn_house_how h_inn_house_falls h_inn_house_ways a0 v_setting v_been v_inn_minutes v_inn_things v_inn_dreams v_inn_sleepers v_inn_listeners v_inn_house_rooms v_inn_house_doors v_inn_thingIn v_thingIn v_inn_full v_full v_heardBy v_a0 v_dreamOf v_stateOf v_inn_bed v_roomOf v_handOf v_awake v_inn_house_how v_how v_passed) (wX4_begind E h h_inn h_ways h_how h_passed h_dreamOf h_stateOf h_roomOf h_handOf h_awake h_thingIn h_full h_heardBy h_inn_house h_inn_thingIn h_inn_full h_inn_states h_inn_bed h_inn_dreamOf h_inn_listensIn h_inn_house_creak h_inn_house_cold h_inn_house_one h_inn_house_other h_inn_house_how h_inn_house_falls h_inn_house_ways a0 v_setting z.1 v_inn_minutes v_inn_things v_inn_dreams v_inn_sleepers v_inn_listeners v_inn_house_rooms v_inn_house_doors v_inn_thingIn z.2.1 v_inn_full z.2.2.1 z.2.2.2.1 v_a0 z.2.2.2.2.1 z.2.2.2.2.2.1 v_inn_bed z.2.2.2.2.2.2.1 z.2.2.2.2.2.2.2.1 z.2.2.2.2.2.2.2.2.1 v_inn_house_how z.2.2.2.2.2.2.2.2.2.1 z.2.2.2.2.2.2.2.2.2.2) := by
  intro sz
  refine ct_body (by decide) (Nat.le_of_ble_eq_true rfl) ?_
  intro p e s m args below meth c A ls hAe C hr hin hP hD hS hl
  have C : CX p s m args meth c cX4_begin RX4 4 E A := C
  have hl : lv_has ls 4 [(0, .ref h), (1, .ref a0), (2, .int p1)] := hl
  have hx := C.1
  have hb := C.2.1
  rw [hAe]
  clear hAe
  obtain ⟨Q, hQ⟩ : ∃ Q, Q = MQ below (Qv E A (wX4_begind E h h_inn h_ways h_how h_passed h_dreamOf h_stateOf h_roomOf h_handOf h_awake h_thingIn h_full h_heardBy h_inn_house h_inn_thingIn h_inn_full h_inn_states h_inn_bed h_inn_dreamOf h_inn_listensIn h_inn_house_creak h_inn_house_cold h_inn_house_one h_inn_house_other h_inn_house_how h_inn_house_falls h_inn_house_ways a0 v_setting z.1 v_inn_minutes v_inn_things v_inn_dreams v_inn_sleepers v_inn_listeners v_inn_house_rooms v_inn_house_doors v_inn_thingIn z.2.1 v_inn_full z.2.2.1 z.2.2.2.1 v_a0 z.2.2.2.2.1 z.2.2.2.2.2.1 v_inn_bed z.2.2.2.2.2.2.1 z.2.2.2.2.2.2.2.1 z.2.2.2.2.2.2.2.2.1 v_inn_house_how z.2.2.2.2.2.2.2.2.2.1 z.2.2.2.2.2.2.2.2.2.2)) args s 0 0 A := ⟨_, rfl⟩
  rw [← hQ]
  unfold fX4_begind at hf
  refine lv_aload_n (pc := 0) hx hb dX4_begin_0 rfl (lv_at hl 0 rfl) ?_
  refine lv_iconst (pc := 1) (v := 0) hx hb dX4_begin_1 (by decide) ?_
  refine r_put (pc := 2) (ws' := (wX4_begind E h h_inn h_ways h_how h_passed h_dreamOf h_stateOf h_roomOf h_handOf h_awake h_thingIn h_full h_heardBy h_inn_house h_inn_thingIn h_inn_full h_inn_states h_inn_bed h_inn_dreamOf h_inn_listensIn h_inn_house_creak h_inn_house_cold h_inn_house_one h_inn_house_other h_inn_house_how h_inn_house_falls h_inn_house_ways a0 v_setting 0 v_inn_minutes v_inn_things v_inn_dreams v_inn_sleepers v_inn_listeners v_inn_house_rooms v_inn_house_doors v_inn_thingIn v_thingIn v_inn_full v_full v_heardBy v_a0 v_dreamOf v_stateOf v_inn_bed v_roomOf v_handOf v_awake v_inn_house_how v_how v_passed)) C hP hD hS 0 rfl fl_X4_73 rfl rfl (Nat.le_of_ble_eq_true rfl) rfl dX4_begin_2 ?_
  clear hP hD hS; intro H locs hP hD hS
  refine lv_iconst (pc := 5) (v := 0) hx hb dX4_begin_5 (by decide) ?_
  refine lv_istore_n (pc := 6) (lv' := [(3, .int 0), (0, .ref h), (1, .ref a0), (2, .int p1)]) hx hb dX4_begin_6 rfl hl (by decide) rfl (fun ls hl => ?_)
  refine lpK hf (fun K52 eK52 hf => ?_)
  have hK52 : ∀ (x52_how : Nat → Int32) (x52_passed : Nat → Int32) , K52 (x52_how, x52_passed) = some z → AT p l e (rmOf 1 26) s m args below meth c E A Q 0 0 4 [(0, .ref h), (1, .ref a0), (2, .int p1)] (wX4_begind E h h_inn h_ways h_how h_passed h_dreamOf h_stateOf h_roomOf h_handOf h_awake h_thingIn h_full h_heardBy h_inn_house h_inn_thingIn h_inn_full h_inn_states h_inn_bed h_inn_dreamOf h_inn_listensIn h_inn_house_creak h_inn_house_cold h_inn_house_one h_inn_house_other h_inn_house_how h_inn_house_falls h_inn_house_ways a0 v_setting 0 v_inn_minutes v_inn_things v_inn_dreams v_inn_sleepers v_inn_listeners v_inn_house_rooms v_inn_house_doors v_inn_thingIn v_thingIn v_inn_full v_full v_heardBy v_a0 v_dreamOf v_stateOf v_inn_bed v_roomOf v_handOf v_awake v_inn_house_how x52_how x52_passed) 52 [] := by
    intro x52_how x52_passed hf H locs ls hl hP hD hS
    rw [eK52] at hf
    replace hf := un2_s hf
    refine lv_iconst (pc := 52) (v := 0) hx hb dX4_begin_52 (by decide) ?_
    refine lv_istore_n (pc := 53) (lv' := [(3, .int 0), (0, .ref h), (1, .ref a0), (2, .int p1)]) hx hb dX4_begin_53 rfl hl (by decide) rfl (fun ls hl => ?_)
    have key54 : ∀ (n : Nat) (x54_3 : Int32) (x54_dreamOf : Nat → Int32) (x54_stateOf : Nat → Int32) (x54_roomOf : Nat → Int32) (x54_handOf : Nat → Int32) (x54_awake : Nat → Int32) , lp (BX4_begind_54 v_inn_sleepers v_inn_full N v_heardBy v_inn_thingIn v_thingIn v_full x52_how x52_passed p1 v_a0 v_inn_bed) n (x54_3, x54_dreamOf, x54_stateOf, x54_roomOf, x54_handOf, x54_awake) = some z → AT p l e (rmOf 1 26) s m args below meth c E A Q 0 0 4 [(0, .ref h), (1, .ref a0), (2, .int p1), (3, .int x54_3)] (wX4_begind E h h_inn h_ways h_how h_passed h_dreamOf h_stateOf h_roomOf h_handOf h_awake h_thingIn h_full h_heardBy h_inn_house h_inn_thingIn h_inn_full h_inn_states h_inn_bed h_inn_dreamOf h_inn_listensIn h_inn_house_creak h_inn_house_cold h_inn_house_one h_inn_house_other h_inn_house_how h_inn_house_falls h_inn_house_ways a0 v_setting 0 v_inn_minutes v_inn_things v_inn_dreams v_inn_sleepers v_inn_listeners v_inn_house_rooms v_inn_house_doors v_inn_thingIn v_thingIn v_inn_full v_full v_heardBy v_a0 x54_dreamOf x54_stateOf v_inn_bed x54_roomOf x54_handOf x54_awake v_inn_house_how x52_how x52_passed) 54 [] := by
      intro n
      induction n with
      | zero => intro x54_3 x54_dreamOf x54_stateOf x54_roomOf x54_handOf x54_awake hf; exact (lp_0 hf).elim
      | succ n ih54 =>
        intro x54_3 x54_dreamOf x54_stateOf x54_roomOf x54_handOf x54_awake hf H locs ls hl hP hD hS
        replace hf := lp_s hf
        generalize lp (BX4_begind_54 v_inn_sleepers v_inn_full N v_heardBy v_inn_thingIn v_thingIn v_full x52_how x52_passed p1 v_a0 v_inn_bed) n = rec54 at ih54 hf
        unfold BX4_begind_54 at hf
        replace hf := un6_s hf
        refine lv_iload_n (pc := 54) hx hb dX4_begin_54 rfl (lv_at hl 3 rfl) ?_
        refine lv_aload_n (pc := 55) hx hb dX4_begin_55 rfl (lv_at hl 0 rfl) ?_
        refine r_get (pc := 56) C hP 0 rfl fl_X4_51 rfl dX4_begin_56 ?_
        refine r_get (pc := 59) C hP 1 rfl fl_X4_85 rfl dX4_begin_59 ?_
        refine lv_icmp_ge (pc := 62) (tgt := 119) hx hb dX4_begin_62 (by decide) (fun c_62 => ?_) (fun c_62 => ?_)
        · replace hf := it_t c_62 hf
          refine lv_aload_n (pc := 119) hx hb dX4_begin_119 rfl (lv_at hl 0 rfl) ?_
          refine r_get (pc := 120) C hP 0 rfl fl_X4_51 rfl dX4_begin_120 ?_
          refine r_get (pc := 123) C hP 1 rfl fl_X4_91 rfl dX4_begin_123 ?_
          refine lv_iconst (pc := 126) (v := 0) hx hb dX4_begin_126 (by decide) ?_
          refine lv_aload_n (pc := 127) hx hb dX4_begin_127 rfl (lv_at hl 0 rfl) ?_
          refine r_get (pc := 128) C hP 0 rfl fl_X4_41 rfl dX4_begin_128 ?_
          refine lv_iconst (pc := 131) (v := 0) hx hb dX4_begin_131 (by decide) ?_
          refine lv_iconst (pc := 132) (v := 4) hx hb dX4_begin_132 (by decide) ?_
          obtain ⟨hg_133, hf⟩ := cpg_s hf
          refine r_copyi (pc := 133) (t0 := 0) (ws' := (wX4_begind E h h_inn h_ways h_how h_passed h_dreamOf h_stateOf h_roomOf h_handOf h_awake h_thingIn h_full h_heardBy h_inn_house h_inn_thingIn h_inn_full h_inn_states h_inn_bed h_inn_dreamOf h_inn_listensIn h_inn_house_creak h_inn_house_cold h_inn_house_one h_inn_house_other h_inn_house_how h_inn_house_falls h_inn_house_ways a0 v_setting 0 v_inn_minutes v_inn_things v_inn_dreams v_inn_sleepers v_inn_listeners v_inn_house_rooms v_inn_house_doors v_inn_thingIn (va_cpy v_inn_thingIn v_thingIn (0 : Int32).toNatClampNeg (0 : Int32).toNatClampNeg (4 : Int32).toNatClampNeg) v_inn_full v_full v_heardBy v_a0 x54_dreamOf x54_stateOf v_inn_bed x54_roomOf x54_handOf x54_awake v_inn_house_how x52_how x52_passed)) C sc_X4_92 (Nat.le_of_ble_eq_true rfl) (Nat.le_of_ble_eq_true rfl) hP hD hS hl.1 3 4 rfl rfl rfl rfl hg_133.1 hg_133.2.1 hg_133.2.2.1 hg_133.2.2.2.1 hg_133.2.2.2.2 (fun _ _ => rfl) rfl dX4_begin_133 ?_
          clear hP hD hS; intro H locs hP hD hS
          refine lv_aload_n (pc := 136) hx hb dX4_begin_136 rfl (lv_at hl 0 rfl) ?_
          refine r_get (pc := 137) C hP 0 rfl fl_X4_51 rfl dX4_begin_137 ?_
          refine r_get (pc := 140) C hP 1 rfl fl_X4_98 rfl dX4_begin_140 ?_
          refine lv_iconst (pc := 143) (v := 0) hx hb dX4_begin_143 (by decide) ?_
          refine lv_aload_n (pc := 144) hx hb dX4_begin_144 rfl (lv_at hl 0 rfl) ?_
          refine r_get (pc := 145) C hP 0 rfl fl_X4_44 rfl dX4_begin_145 ?_
          refine lv_iconst (pc := 148) (v := 0) hx hb dX4_begin_148 (by decide) ?_
          refine lv_iconst (pc := 149) (v := 4) hx hb dX4_begin_149 (by decide) ?_
          obtain ⟨hg_150, hf⟩ := cpg_s hf
          obtain ⟨hz_150, hf⟩ := zcg_s hf
          refine r_copyi (pc := 150) (t0 := 1) (ws' := (wX4_begind E h h_inn h_ways h_how h_passed h_dreamOf h_stateOf h_roomOf h_handOf h_awake h_thingIn h_full h_heardBy h_inn_house h_inn_thingIn h_inn_full h_inn_states h_inn_bed h_inn_dreamOf h_inn_listensIn h_inn_house_creak h_inn_house_cold h_inn_house_one h_inn_house_other h_inn_house_how h_inn_house_falls h_inn_house_ways a0 v_setting 0 v_inn_minutes v_inn_things v_inn_dreams v_inn_sleepers v_inn_listeners v_inn_house_rooms v_inn_house_doors v_inn_thingIn (va_cpy v_inn_thingIn v_thingIn (0 : Int32).toNatClampNeg (0 : Int32).toNatClampNeg (4 : Int32).toNatClampNeg) v_inn_full (va_cpy v_inn_full v_full (0 : Int32).toNatClampNeg (0 : Int32).toNatClampNeg (4 : Int32).toNatClampNeg) v_heardBy v_a0 x54_dreamOf x54_stateOf v_inn_bed x54_roomOf x54_handOf x54_awake v_inn_house_how x52_how x52_passed)) C sc_X4_92 (Nat.le_of_ble_eq_true rfl) (Nat.le_of_ble_eq_true rfl) hP hD hS hl.1 5 6 rfl rfl rfl rfl hg_150.1 hg_150.2.1 hg_150.2.2.1 hg_150.2.2.2.1 hg_150.2.2.2.2 (zall_fit hz_150) rfl dX4_begin_150 ?_
          clear hP hD hS; intro H locs hP hD hS
          refine lv_aload_n (pc := 153) hx hb dX4_begin_153 rfl (lv_at hl 0 rfl) ?_
          refine r_get (pc := 154) C hP 0 rfl fl_X4_47 rfl dX4_begin_154 ?_
          refine lv_lconst (pc := 157) (v := 0) hx hb dX4_begin_157 (by decide) ?_
          obtain ⟨v_heardBy_158, hc_158, hf⟩ := bd1 hf
          refine r_dalSv (pc := 158) (Cn := "") (h := 0) (ws' := (wX4_begind E h h_inn h_ways h_how h_passed h_dreamOf h_stateOf h_roomOf h_handOf h_awake h_thingIn h_full h_heardBy h_inn_house h_inn_thingIn h_inn_full h_inn_states h_inn_bed h_inn_dreamOf h_inn_listensIn h_inn_house_creak h_inn_house_cold h_inn_house_one h_inn_house_other h_inn_house_how h_inn_house_falls h_inn_house_ways a0 v_setting 0 v_inn_minutes v_inn_things v_inn_dreams v_inn_sleepers v_inn_listeners v_inn_house_rooms v_inn_house_doors v_inn_thingIn (va_cpy v_inn_thingIn v_thingIn (0 : Int32).toNatClampNeg (0 : Int32).toNatClampNeg (4 : Int32).toNatClampNeg) v_inn_full (va_cpy v_inn_full v_full (0 : Int32).toNatClampNeg (0 : Int32).toNatClampNeg (4 : Int32).toNatClampNeg) v_heardBy_158 v_a0 x54_dreamOf x54_stateOf v_inn_bed x54_roomOf x54_handOf x54_awake v_inn_house_how x52_how x52_passed)) (As := [.ref h_heardBy, .long 0]) (rest := []) C (ctJ7_fill_d0a16 l E h_heardBy v_heardBy N 0 v_heardBy_158 hc_158) ml_X4_99 ⟨Nat.le_of_ble_eq_true rfl, Nat.le_of_ble_eq_true rfl⟩ hP hD hS [7] [0, 1, 2, 3, 4, 5, 6, 18, 8, 9, 10, 11, 12, 13, 14, 15, 16, 17] 18 rfl rfl rfl rfl rfl rfl rfl hl.1 rfl (Nat.le_of_ble_eq_true rfl) ⟨Nat.zero_le _, Nat.zero_le _⟩ dX4_begin_158 ?_
          clear hP hD hS; intro H locs hP hD hS
          cases hf
          rw [hQ]
          exact r_vret C hr hP hD hS dX4_begin_161
        · replace hf := it_f c_62 hf
          refine lv_aload_n (pc := 65) hx hb dX4_begin_65 rfl (lv_at hl 0 rfl) ?_
          refine r_get (pc := 66) C hP 0 rfl fl_X4_25 rfl dX4_begin_66 ?_
          refine lv_iload_n (pc := 69) hx hb dX4_begin_69 rfl (lv_at hl 3 rfl) ?_
          refine lv_aload_n (pc := 70) hx hb dX4_begin_70 rfl (lv_at hl 1 rfl) ?_
          refine lv_iload_n (pc := 71) hx hb dX4_begin_71 rfl (lv_at hl 2 rfl) ?_
          refine lv_iload_n (pc := 72) hx hb dX4_begin_72 rfl (lv_at hl 3 rfl) ?_
          refine lv_iadd (pc := 73) hx hb dX4_begin_73 ?_
          obtain ⟨hi_74, hf⟩ := gd_s hf
          refine r_iald (pc := 74) C hP 8 rfl hi_74 dX4_begin_74 ?_
          obtain ⟨hi_75, hf⟩ := gd_s hf
          refine r_iast (pc := 75) (ws' := (wX4_begind E h h_inn h_ways h_how h_passed h_dreamOf h_stateOf h_roomOf h_handOf h_awake h_thingIn h_full h_heardBy h_inn_house h_inn_thingIn h_inn_full h_inn_states h_inn_bed h_inn_dreamOf h_inn_listensIn h_inn_house_creak h_inn_house_cold h_inn_house_one h_inn_house_other h_inn_house_how h_inn_house_falls h_inn_house_ways a0 v_setting 0 v_inn_minutes v_inn_things v_inn_dreams v_inn_sleepers v_inn_listeners v_inn_house_rooms v_inn_house_doors v_inn_thingIn v_thingIn v_inn_full v_full v_heardBy v_a0 (upd x54_dreamOf x54_3.toNatClampNeg (v_a0 (p1 + x54_3).toNatClampNeg)) x54_stateOf v_inn_bed x54_roomOf x54_handOf x54_awake v_inn_house_how x52_how x52_passed)) C hP hD hS 9 rfl hi_75 rfl dX4_begin_75 ?_
          clear hP hD hS; intro H locs hP hD hS
          refine lv_aload_n (pc := 76) hx hb dX4_begin_76 rfl (lv_at hl 0 rfl) ?_
          refine r_get (pc := 77) C hP 0 rfl fl_X4_28 rfl dX4_begin_77 ?_
          refine lv_iload_n (pc := 80) hx hb dX4_begin_80 rfl (lv_at hl 3 rfl) ?_
          refine lv_iconst (pc := 81) (v := 0) hx hb dX4_begin_81 (by decide) ?_
          obtain ⟨hi_82, hf⟩ := gd_s hf
          refine r_iast (pc := 82) (ws' := (wX4_begind E h h_inn h_ways h_how h_passed h_dreamOf h_stateOf h_roomOf h_handOf h_awake h_thingIn h_full h_heardBy h_inn_house h_inn_thingIn h_inn_full h_inn_states h_inn_bed h_inn_dreamOf h_inn_listensIn h_inn_house_creak h_inn_house_cold h_inn_house_one h_inn_house_other h_inn_house_how h_inn_house_falls h_inn_house_ways a0 v_setting 0 v_inn_minutes v_inn_things v_inn_dreams v_inn_sleepers v_inn_listeners v_inn_house_rooms v_inn_house_doors v_inn_thingIn v_thingIn v_inn_full v_full v_heardBy v_a0 (upd x54_dreamOf x54_3.toNatClampNeg (v_a0 (p1 + x54_3).toNatClampNeg)) (upd x54_stateOf x54_3.toNatClampNeg 0) v_inn_bed x54_roomOf x54_handOf x54_awake v_inn_house_how x52_how x52_passed)) C hP hD hS 10 rfl hi_82 rfl dX4_begin_82 ?_
          clear hP hD hS; intro H locs hP hD hS
          refine lv_aload_n (pc := 83) hx hb dX4_begin_83 rfl (lv_at hl 0 rfl) ?_
          refine r_get (pc := 84) C hP 0 rfl fl_X4_31 rfl dX4_begin_84 ?_
          refine lv_iload_n (pc := 87) hx hb dX4_begin_87 rfl (lv_at hl 3 rfl) ?_
          refine lv_aload_n (pc := 88) hx hb dX4_begin_88 rfl (lv_at hl 0 rfl) ?_
          refine r_get (pc := 89) C hP 0 rfl fl_X4_51 rfl dX4_begin_89 ?_
          refine r_get (pc := 92) C hP 1 rfl fl_X4_88 rfl dX4_begin_92 ?_
          refine lv_iload_n (pc := 95) hx hb dX4_begin_95 rfl (lv_at hl 3 rfl) ?_
          obtain ⟨hi_96, hf⟩ := gd_s hf
          refine r_iald (pc := 96) C hP 11 rfl hi_96 dX4_begin_96 ?_
          obtain ⟨hi_97, hf⟩ := gd_s hf
          refine r_iast (pc := 97) (ws' := (wX4_begind E h h_inn h_ways h_how h_passed h_dreamOf h_stateOf h_roomOf h_handOf h_awake h_thingIn h_full h_heardBy h_inn_house h_inn_thingIn h_inn_full h_inn_states h_inn_bed h_inn_dreamOf h_inn_listensIn h_inn_house_creak h_inn_house_cold h_inn_house_one h_inn_house_other h_inn_house_how h_inn_house_falls h_inn_house_ways a0 v_setting 0 v_inn_minutes v_inn_things v_inn_dreams v_inn_sleepers v_inn_listeners v_inn_house_rooms v_inn_house_doors v_inn_thingIn v_thingIn v_inn_full v_full v_heardBy v_a0 (upd x54_dreamOf x54_3.toNatClampNeg (v_a0 (p1 + x54_3).toNatClampNeg)) (upd x54_stateOf x54_3.toNatClampNeg 0) v_inn_bed (upd x54_roomOf x54_3.toNatClampNeg (v_inn_bed x54_3.toNatClampNeg)) x54_handOf x54_awake v_inn_house_how x52_how x52_passed)) C hP hD hS 12 rfl hi_97 rfl dX4_begin_97 ?_
          clear hP hD hS; intro H locs hP hD hS
          refine lv_aload_n (pc := 98) hx hb dX4_begin_98 rfl (lv_at hl 0 rfl) ?_
          refine r_get (pc := 99) C hP 0 rfl fl_X4_34 rfl dX4_begin_99 ?_
          refine lv_iload_n (pc := 102) hx hb dX4_begin_102 rfl (lv_at hl 3 rfl) ?_
          refine lv_bipush (pc := 103) (v := (-2)) hx hb dX4_begin_103 (by decide) ?_
          obtain ⟨hi_105, hf⟩ := gd_s hf
          refine r_iast (pc := 105) (ws' := (wX4_begind E h h_inn h_ways h_how h_passed h_dreamOf h_stateOf h_roomOf h_handOf h_awake h_thingIn h_full h_heardBy h_inn_house h_inn_thingIn h_inn_full h_inn_states h_inn_bed h_inn_dreamOf h_inn_listensIn h_inn_house_creak h_inn_house_cold h_inn_house_one h_inn_house_other h_inn_house_how h_inn_house_falls h_inn_house_ways a0 v_setting 0 v_inn_minutes v_inn_things v_inn_dreams v_inn_sleepers v_inn_listeners v_inn_house_rooms v_inn_house_doors v_inn_thingIn v_thingIn v_inn_full v_full v_heardBy v_a0 (upd x54_dreamOf x54_3.toNatClampNeg (v_a0 (p1 + x54_3).toNatClampNeg)) (upd x54_stateOf x54_3.toNatClampNeg 0) v_inn_bed (upd x54_roomOf x54_3.toNatClampNeg (v_inn_bed x54_3.toNatClampNeg)) (upd x54_handOf x54_3.toNatClampNeg (-2)) x54_awake v_inn_house_how x52_how x52_passed)) C hP hD hS 13 rfl hi_105 rfl dX4_begin_105 ?_
          clear hP hD hS; intro H locs hP hD hS
          refine lv_aload_n (pc := 106) hx hb dX4_begin_106 rfl (lv_at hl 0 rfl) ?_
          refine r_get (pc := 107) C hP 0 rfl fl_X4_37 rfl dX4_begin_107 ?_
          refine lv_iload_n (pc := 110) hx hb dX4_begin_110 rfl (lv_at hl 3 rfl) ?_
          refine lv_iconst (pc := 111) (v := 0) hx hb dX4_begin_111 (by decide) ?_
          obtain ⟨hi_112, hf⟩ := gd_s hf
          refine r_zast (pc := 112) (ws' := (wX4_begind E h h_inn h_ways h_how h_passed h_dreamOf h_stateOf h_roomOf h_handOf h_awake h_thingIn h_full h_heardBy h_inn_house h_inn_thingIn h_inn_full h_inn_states h_inn_bed h_inn_dreamOf h_inn_listensIn h_inn_house_creak h_inn_house_cold h_inn_house_one h_inn_house_other h_inn_house_how h_inn_house_falls h_inn_house_ways a0 v_setting 0 v_inn_minutes v_inn_things v_inn_dreams v_inn_sleepers v_inn_listeners v_inn_house_rooms v_inn_house_doors v_inn_thingIn v_thingIn v_inn_full v_full v_heardBy v_a0 (upd x54_dreamOf x54_3.toNatClampNeg (v_a0 (p1 + x54_3).toNatClampNeg)) (upd x54_stateOf x54_3.toNatClampNeg 0) v_inn_bed (upd x54_roomOf x54_3.toNatClampNeg (v_inn_bed x54_3.toNatClampNeg)) (upd x54_handOf x54_3.toNatClampNeg (-2)) (upd x54_awake x54_3.toNatClampNeg 0) v_inn_house_how x52_how x52_passed)) C hP hD hS 14 rfl hi_112 (Or.inl rfl) rfl dX4_begin_112 ?_
          clear hP hD hS; intro H locs hP hD hS
          refine lv_iinc (pc := 113) (v := x54_3 + 1) (lv' := [(3, .int (x54_3 + 1)), (0, .ref h), (1, .ref a0), (2, .int p1)]) hx hb dX4_begin_113 hl (k := 3) rfl rfl (by decide) rfl (fun ls hl => ?_)
          refine lv_goto (pc := 116) (tgt := 54) hx hb dX4_begin_116 (by decide) ?_
          exact ih54 (x54_3 + 1) (upd x54_dreamOf x54_3.toNatClampNeg (v_a0 (p1 + x54_3).toNatClampNeg)) (upd x54_stateOf x54_3.toNatClampNeg 0) (upd x54_roomOf x54_3.toNatClampNeg (v_inn_bed x54_3.toNatClampNeg)) (upd x54_handOf x54_3.toNatClampNeg (-2)) (upd x54_awake x54_3.toNatClampNeg 0) hf _ _ _ (lv_sub hl [1, 2, 3, 0] rfl) hP hD hS
    exact key54 _ 0 v_dreamOf v_stateOf v_roomOf v_handOf v_awake hf _ _ _ (lv_sub hl [1, 2, 3, 0] rfl) hP hD hS
  clear eK52
  have key7 : ∀ (n : Nat) (x7_3 : Int32) (x7_how : Nat → Int32) (x7_passed : Nat → Int32) , lp (BX4_begind_7 v_inn_house_doors N v_setting v_inn_house_how K52) n (x7_3, x7_how, x7_passed) = some z → AT p l e (rmOf 1 26) s m args below meth c E A Q 0 0 4 [(0, .ref h), (1, .ref a0), (2, .int p1), (3, .int x7_3)] (wX4_begind E h h_inn h_ways h_how h_passed h_dreamOf h_stateOf h_roomOf h_handOf h_awake h_thingIn h_full h_heardBy h_inn_house h_inn_thingIn h_inn_full h_inn_states h_inn_bed h_inn_dreamOf h_inn_listensIn h_inn_house_creak h_inn_house_cold h_inn_house_one h_inn_house_other h_inn_house_how h_inn_house_falls h_inn_house_ways a0 v_setting 0 v_inn_minutes v_inn_things v_inn_dreams v_inn_sleepers v_inn_listeners v_inn_house_rooms v_inn_house_doors v_inn_thingIn v_thingIn v_inn_full v_full v_heardBy v_a0 v_dreamOf v_stateOf v_inn_bed v_roomOf v_handOf v_awake v_inn_house_how x7_how x7_passed) 7 [] := by
    intro n
    induction n with
    | zero => intro x7_3 x7_how x7_passed hf; exact (lp_0 hf).elim
    | succ n ih7 =>
      intro x7_3 x7_how x7_passed hf H locs ls hl hP hD hS
      replace hf := lp_s hf
      generalize lp (BX4_begind_7 v_inn_house_doors N v_setting v_inn_house_how K52) n = rec7 at ih7 hf
      unfold BX4_begind_7 at hf
      replace hf := un3_s hf
      refine lv_iload_n (pc := 7) hx hb dX4_begin_7 rfl (lv_at hl 3 rfl) ?_
      refine lv_aload_n (pc := 8) hx hb dX4_begin_8 rfl (lv_at hl 0 rfl) ?_
      refine r_get (pc := 9) C hP 0 rfl fl_X4_51 rfl dX4_begin_9 ?_
      refine r_get (pc := 12) C hP 1 rfl fl_X4_59 rfl dX4_begin_12 ?_
      refine r_get (pc := 15) C hP 2 rfl fl_X4_76 rfl dX4_begin_15 ?_
      refine lv_icmp_ge (pc := 18) (tgt := 52) hx hb dX4_begin_18 (by decide) (fun c_18 => ?_) (fun c_18 => ?_)
      · replace hf := it_t c_18 hf
        exact hK52 x7_how x7_passed hf _ _ _ (lv_sub hl [0, 1, 2] rfl) hP hD hS
      · replace hf := it_f c_18 hf
        refine lv_aload_n (pc := 21) hx hb dX4_begin_21 rfl (lv_at hl 0 rfl) ?_
        refine r_get (pc := 22) C hP 0 rfl fl_X4_18 rfl dX4_begin_22 ?_
        refine lv_iload_n (pc := 25) hx hb dX4_begin_25 rfl (lv_at hl 3 rfl) ?_
        refine lv_aload_n (pc := 26) hx hb dX4_begin_26 rfl (lv_at hl 0 rfl) ?_
        refine r_get (pc := 27) C hP 0 rfl fl_X4_51 rfl dX4_begin_27 ?_
        refine lv_iload_n (pc := 30) hx hb dX4_begin_30 rfl (lv_at hl 3 rfl) ?_
        refine lv_aload_n (pc := 31) hx hb dX4_begin_31 rfl (lv_at hl 0 rfl) ?_
        refine r_get (pc := 32) C hP 0 rfl fl_X4_55 rfl dX4_begin_32 ?_
        obtain ⟨r_35, hc_35, hf⟩ := bd1 hf
        refine r_dalVi (pc := 35) (ws' := (wX4_begind E h h_inn h_ways h_how h_passed h_dreamOf h_stateOf h_roomOf h_handOf h_awake h_thingIn h_full h_heardBy h_inn_house h_inn_thingIn h_inn_full h_inn_states h_inn_bed h_inn_dreamOf h_inn_listensIn h_inn_house_creak h_inn_house_cold h_inn_house_one h_inn_house_other h_inn_house_how h_inn_house_falls h_inn_house_ways a0 v_setting 0 v_inn_minutes v_inn_things v_inn_dreams v_inn_sleepers v_inn_listeners v_inn_house_rooms v_inn_house_doors v_inn_thingIn v_thingIn v_inn_full v_full v_heardBy v_a0 v_dreamOf v_stateOf v_inn_bed v_roomOf v_handOf v_awake v_inn_house_how x7_how x7_passed)) (As := [.int x7_3, .int v_setting]) (rest := [.int x7_3, .ref h_how]) C (ctX2_howAtNightfall l E h_inn h_inn_house h_inn_thingIn h_inn_full h_inn_states h_inn_bed h_inn_dreamOf h_inn_listensIn h_inn_house_creak h_inn_house_cold h_inn_house_one h_inn_house_other h_inn_house_how h_inn_house_falls h_inn_house_ways v_inn_minutes v_inn_things v_inn_dreams v_inn_sleepers v_inn_listeners v_inn_house_rooms v_inn_house_doors v_inn_house_how N x7_3 v_setting r_35 hc_35) ml_X4_81 ⟨Nat.le_of_ble_eq_true rfl, Nat.le_of_ble_eq_true rfl⟩ hP hD hS 1 rfl rfl rfl [1, 2, 15] [0, 18, 19, 3, 4, 5, 6, 7, 8, 9, 10, 11, 12, 13, 14, 20, 16, 17] 18 rfl rfl rfl rfl rfl rfl rfl hl.1 rfl (Nat.le_of_ble_eq_true rfl) ⟨Nat.zero_le _, Nat.zero_le _⟩ dX4_begin_35 ?_
        clear hP hD hS; intro H locs hP hD hS
        obtain ⟨hi_38, hf⟩ := gd_s hf
        refine r_iast (pc := 38) (ws' := (wX4_begind E h h_inn h_ways h_how h_passed h_dreamOf h_stateOf h_roomOf h_handOf h_awake h_thingIn h_full h_heardBy h_inn_house h_inn_thingIn h_inn_full h_inn_states h_inn_bed h_inn_dreamOf h_inn_listensIn h_inn_house_creak h_inn_house_cold h_inn_house_one h_inn_house_other h_inn_house_how h_inn_house_falls h_inn_house_ways a0 v_setting 0 v_inn_minutes v_inn_things v_inn_dreams v_inn_sleepers v_inn_listeners v_inn_house_rooms v_inn_house_doors v_inn_thingIn v_thingIn v_inn_full v_full v_heardBy v_a0 v_dreamOf v_stateOf v_inn_bed v_roomOf v_handOf v_awake v_inn_house_how (upd x7_how x7_3.toNatClampNeg r_35) x7_passed)) C hP hD hS 16 rfl hi_38 rfl dX4_begin_38 ?_
        clear hP hD hS; intro H locs hP hD hS
        refine lv_aload_n (pc := 39) hx hb dX4_begin_39 rfl (lv_at hl 0 rfl) ?_
        refine r_get (pc := 40) C hP 0 rfl fl_X4_22 rfl dX4_begin_40 ?_
        refine lv_iload_n (pc := 43) hx hb dX4_begin_43 rfl (lv_at hl 3 rfl) ?_
        refine lv_iconst (pc := 44) (v := 0) hx hb dX4_begin_44 (by decide) ?_
        obtain ⟨hi_45, hf⟩ := gd_s hf
        refine r_iast (pc := 45) (ws' := (wX4_begind E h h_inn h_ways h_how h_passed h_dreamOf h_stateOf h_roomOf h_handOf h_awake h_thingIn h_full h_heardBy h_inn_house h_inn_thingIn h_inn_full h_inn_states h_inn_bed h_inn_dreamOf h_inn_listensIn h_inn_house_creak h_inn_house_cold h_inn_house_one h_inn_house_other h_inn_house_how h_inn_house_falls h_inn_house_ways a0 v_setting 0 v_inn_minutes v_inn_things v_inn_dreams v_inn_sleepers v_inn_listeners v_inn_house_rooms v_inn_house_doors v_inn_thingIn v_thingIn v_inn_full v_full v_heardBy v_a0 v_dreamOf v_stateOf v_inn_bed v_roomOf v_handOf v_awake v_inn_house_how (upd x7_how x7_3.toNatClampNeg r_35) (upd x7_passed x7_3.toNatClampNeg 0))) C hP hD hS 17 rfl hi_45 rfl dX4_begin_45 ?_
        clear hP hD hS; intro H locs hP hD hS
        refine lv_iinc (pc := 46) (v := x7_3 + 1) (lv' := [(3, .int (x7_3 + 1)), (0, .ref h), (1, .ref a0), (2, .int p1)]) hx hb dX4_begin_46 hl (k := 3) rfl rfl (by decide) rfl (fun ls hl => ?_)
        refine lv_goto (pc := 49) (tgt := 7) hx hb dX4_begin_49 (by decide) ?_
        exact ih7 (x7_3 + 1) (upd x7_how x7_3.toNatClampNeg r_35) (upd x7_passed x7_3.toNatClampNeg 0) hf _ _ _ (lv_sub hl [1, 2, 3, 0] rfl) hP hD hS
  exact key7 _ 0 v_how v_passed hf _ _ _ (lv_sub hl [1, 2, 3, 0] rfl) hP hD hS
def wX4_begin (E : EN) (h h_inn h_ways h_how h_passed h_dreamOf h_stateOf h_roomOf h_handOf h_awake h_thingIn h_full h_heardBy h_inn_house h_inn_thingIn h_inn_full h_inn_states h_inn_bed h_inn_dreamOf h_inn_listensIn h_inn_house_creak h_inn_house_cold h_inn_house_one h_inn_house_other h_inn_house_how h_inn_house_falls h_inn_house_ways a0 : Nat) (v_setting : Int32) (v_been : Int32) (v_inn_minutes : Int32) (v_inn_things : Int32) (v_inn_dreams : Int32) (v_inn_sleepers : Int32) (v_inn_listeners : Int32) (v_inn_house_rooms : Int32) (v_inn_house_doors : Int32) (v_inn_thingIn : Nat → Int32) (v_thingIn : Nat → Int32) (v_inn_full : Nat → Int32) (v_full : Nat → Int32) (v_heardBy : Nat → Int64) (v_a0 : Nat → Int32) (v_dreamOf : Nat → Int32) (v_stateOf : Nat → Int32) (v_inn_bed : Nat → Int32) (v_roomOf : Nat → Int32) (v_handOf : Nat → Int32) (v_awake : Nat → Int32) (v_inn_house_how : Nat → Int32) (v_how : Nat → Int32) (v_passed : Nat → Int32) : va_W := [(h, .inr (4, [.ref h_inn, .int v_setting, .int v_been, .ref h_ways, .ref h_how, .ref h_passed, .ref h_dreamOf, .ref h_stateOf, .ref h_roomOf, .ref h_handOf, .ref h_awake, .ref h_thingIn, .ref h_full, .ref h_heardBy])), (h_inn, .inr (2, [.ref h_inn_house, .int v_inn_minutes, .int v_inn_things, .ref h_inn_thingIn, .ref h_inn_full, .int v_inn_dreams, .ref h_inn_states, .int v_inn_sleepers, .ref h_inn_bed, .ref h_inn_dreamOf, .int v_inn_listeners, .ref h_inn_listensIn])), (h_inn_house, .inr (1, [.int v_inn_house_rooms, .ref h_inn_house_creak, .ref h_inn_house_cold, .int v_inn_house_doors, .ref h_inn_house_one, .ref h_inn_house_other, .ref h_inn_house_how, .ref h_inn_house_falls, .ref h_inn_house_ways])), (h_inn_thingIn, aI E 4 v_inn_thingIn), (h_thingIn, aI E 4 v_thingIn), (h_inn_full, aZ E 4 v_inn_full), (h_full, aZ E 4 v_full), (h_heardBy, aJ E 3 v_heardBy), (a0, aI E 3 v_a0), (h_dreamOf, aI E 3 v_dreamOf), (h_stateOf, aI E 3 v_stateOf), (h_inn_bed, aI E 3 v_inn_bed), (h_roomOf, aI E 3 v_roomOf), (h_handOf, aI E 3 v_handOf), (h_awake, aZ E 3 v_awake), (h_inn_house_how, aI E 10 v_inn_house_how), (h_how, aI E 10 v_how), (h_passed, aI E 10 v_passed)]
def BX4_begin_54 (v_inn_sleepers : Int32) (v_inn_full : Nat → Int32) (N : Nat) (v_heardBy : Nat → Int64) (v_inn_thingIn : Nat → Int32) (v_thingIn : Nat → Int32) (v_full : Nat → Int32) (x52_how : Nat → Int32) (x52_passed : Nat → Int32) (p1 : Int32) (v_a0 : Nat → Int32) (v_inn_bed : Nat → Int32) (rec54 : (Int32 × (Nat → Int32) × (Nat → Int32) × (Nat → Int32) × (Nat → Int32) × (Nat → Int32)) → Option (Int32 × (Nat → Int32) × (Nat → Int32) × (Nat → Int64) × (Nat → Int32) × (Nat → Int32) × (Nat → Int32) × (Nat → Int32) × (Nat → Int32) × (Nat → Int32) × (Nat → Int32))) : (Int32 × (Nat → Int32) × (Nat → Int32) × (Nat → Int32) × (Nat → Int32) × (Nat → Int32)) → Option (Int32 × (Nat → Int32) × (Nat → Int32) × (Nat → Int64) × (Nat → Int32) × (Nat → Int32) × (Nat → Int32) × (Nat → Int32) × (Nat → Int32) × (Nat → Int32) × (Nat → Int32)) := un6 fun (x54_3 : Int32) (x54_dreamOf : Nat → Int32) (x54_stateOf : Nat → Int32) (x54_roomOf : Nat → Int32) (x54_handOf : Nat → Int32) (x54_awake : Nat → Int32) => if v_inn_sleepers ≤ x54_3 then (cpg 0 0 4 4 4 (cpg 0 0 4 4 4 (zcg v_inn_full 0 4 ((fJ7_fill_d0a16 N 0 v_heardBy).bind (un1 fun (v_heardBy_158 : Nat → Int64) => some (0, va_cpy v_inn_thingIn v_thingIn (0 : Int32).toNatClampNeg (0 : Int32).toNatClampNeg (4 : Int32).toNatClampNeg, va_cpy v_inn_full v_full (0 : Int32).toNatClampNeg (0 : Int32).toNatClampNeg (4 : Int32).toNatClampNeg, v_heardBy_158, x54_dreamOf, x54_stateOf, x54_roomOf, x54_handOf, x54_awake, x52_how, x52_passed)))))) else (gd (p1 + x54_3) 3 (gd x54_3 3 (gd x54_3 3 (gd x54_3 3 (gd x54_3 3 (gd x54_3 3 (gd x54_3 3 (rec54 (x54_3 + 1, upd x54_dreamOf x54_3.toNatClampNeg (v_a0 (p1 + x54_3).toNatClampNeg), upd x54_stateOf x54_3.toNatClampNeg 0, upd x54_roomOf x54_3.toNatClampNeg (v_inn_bed x54_3.toNatClampNeg), upd x54_handOf x54_3.toNatClampNeg (-2), upd x54_awake x54_3.toNatClampNeg 0)))))))))
def BX4_begin_7 (v_inn_house_doors : Int32) (N : Nat) (v_setting : Int32) (v_inn_house_how : Nat → Int32) (K52 : ((Nat → Int32) × (Nat → Int32)) → Option (Int32 × (Nat → Int32) × (Nat → Int32) × (Nat → Int64) × (Nat → Int32) × (Nat → Int32) × (Nat → Int32) × (Nat → Int32) × (Nat → Int32) × (Nat → Int32) × (Nat → Int32))) (rec7 : (Int32 × (Nat → Int32) × (Nat → Int32)) → Option (Int32 × (Nat → Int32) × (Nat → Int32) × (Nat → Int64) × (Nat → Int32) × (Nat → Int32) × (Nat → Int32) × (Nat → Int32) × (Nat → Int32) × (Nat → Int32) × (Nat → Int32))) : (Int32 × (Nat → Int32) × (Nat → Int32)) → Option (Int32 × (Nat → Int32) × (Nat → Int32) × (Nat → Int64) × (Nat → Int32) × (Nat → Int32) × (Nat → Int32) × (Nat → Int32) × (Nat → Int32) × (Nat → Int32) × (Nat → Int32)) := un3 fun (x7_3 : Int32) (x7_how : Nat → Int32) (x7_passed : Nat → Int32) => if v_inn_house_doors ≤ x7_3 then (K52 (x7_how, x7_passed)) else ((fX2_howAtNightfall N x7_3 v_setting v_inn_house_how).bind (un1 fun (r_35 : Int32) => gd x7_3 10 (gd x7_3 10 (rec7 (x7_3 + 1, upd x7_how x7_3.toNatClampNeg r_35, upd x7_passed x7_3.toNatClampNeg 0)))))
def fX4_begin (N : Nat) (p1 : Int32) (v_setting : Int32) (v_inn_sleepers : Int32) (v_inn_house_doors : Int32) (v_inn_thingIn : Nat → Int32) (v_thingIn : Nat → Int32) (v_inn_full : Nat → Int32) (v_full : Nat → Int32) (v_heardBy : Nat → Int64) (v_a0 : Nat → Int32) (v_dreamOf : Nat → Int32) (v_stateOf : Nat → Int32) (v_inn_bed : Nat → Int32) (v_roomOf : Nat → Int32) (v_handOf : Nat → Int32) (v_awake : Nat → Int32) (v_inn_house_how : Nat → Int32) (v_how : Nat → Int32) (v_passed : Nat → Int32) : Option (Int32 × (Nat → Int32) × (Nat → Int32) × (Nat → Int64) × (Nat → Int32) × (Nat → Int32) × (Nat → Int32) × (Nat → Int32) × (Nat → Int32) × (Nat → Int32) × (Nat → Int32)) := lp (BX4_begin_7 v_inn_house_doors N v_setting v_inn_house_how (un2 fun (x52_how : Nat → Int32) (x52_passed : Nat → Int32) => lp (BX4_begin_54 v_inn_sleepers v_inn_full N v_heardBy v_inn_thingIn v_thingIn v_full x52_how x52_passed p1 v_a0 v_inn_bed) N (0, v_dreamOf, v_stateOf, v_roomOf, v_handOf, v_awake))) N (0, v_how, v_passed)
set_option maxHeartbeats 4000000 in
set_option maxRecDepth 100000 in
theorem ctX4_begin (l : Launch) (E : EN) (h h_inn h_ways h_how h_passed h_dreamOf h_stateOf h_roomOf h_handOf h_awake h_thingIn h_full h_heardBy h_inn_house h_inn_thingIn h_inn_full h_inn_states h_inn_bed h_inn_dreamOf h_inn_listensIn h_inn_house_creak h_inn_house_cold h_inn_house_one h_inn_house_other h_inn_house_how h_inn_house_falls h_inn_house_ways a0 : Nat) (v_setting : Int32) (v_been : Int32) (v_inn_minutes : Int32) (v_inn_things : Int32) (v_inn_dreams : Int32) (v_inn_sleepers : Int32) (v_inn_listeners : Int32) (v_inn_house_rooms : Int32) (v_inn_house_doors : Int32) (v_inn_thingIn : Nat → Int32) (v_thingIn : Nat → Int32) (v_inn_full : Nat → Int32) (v_full : Nat → Int32) (v_heardBy : Nat → Int64) (v_a0 : Nat → Int32) (v_dreamOf : Nat → Int32) (v_stateOf : Nat → Int32) (v_inn_bed : Nat → Int32) (v_roomOf : Nat → Int32) (v_handOf : Nat → Int32) (v_awake : Nat → Int32) (v_inn_house_how : Nat → Int32) (v_how : Nat → Int32) (v_passed : Nat → Int32) (N : Nat) (p1 : Int32) (z : Int32 × (Nat → Int32) × (Nat → Int32) × (Nat → Int64) × (Nat → Int32) × (Nat → Int32) × (Nat → Int32) × (Nat → Int32) × (Nat → Int32) × (Nat → Int32) × (Nat → Int32)) (hf : fX4_begin N p1 v_setting v_inn_sleepers v_inn_house_doors v_inn_thingIn v_thingIn v_inn_full v_full v_heardBy v_a0 v_dreamOf v_stateOf v_inn_bed v_roomOf v_handOf v_awake v_inn_house_how v_how v_passed = some z) : CTv l E yX4_begin cX4_begin 4 1 26 [.ref h, .ref a0, .int p1] (wX4_begin E h h_inn h_ways h_how h_passed h_dreamOf h_stateOf h_roomOf h_handOf h_awake h_thingIn h_full h_heardBy h_inn_house h_inn_thingIn h_inn_full h_inn_states h_inn_bed h_inn_dreamOf h_inn_listensIn h_inn_house_creak h_inn_house_cold h_inn_house_one h_inn_house_other h_inn_house_how h_inn_house_falls h_inn_house_ways a0 v_setting v_been v_inn_minutes v_inn_things v_inn_dreams v_inn_sleepers v_inn_listeners v_inn_house_rooms v_inn_house_doors v_inn_thingIn v_thingIn v_inn_full v_full v_heardBy v_a0 v_dreamOf v_stateOf v_inn_bed v_roomOf v_handOf v_awake v_inn_house_how v_how v_passed) (wX4_begin E h h_inn h_ways h_how h_passed h_dreamOf h_stateOf h_roomOf h_handOf h_awake h_thingIn h_full h_heardBy h_inn_house h_inn_thingIn h_inn_full h_inn_states h_inn_bed h_inn_dreamOf h_inn_listensIn h_inn_house_creak h_inn_house_cold h_inn_house_one h_inn_house_other h_inn_house_how h_inn_house_falls h_inn_house_ways a0 v_setting z.1 v_inn_minutes v_inn_things v_inn_dreams v_inn_sleepers v_inn_listeners v_inn_house_rooms v_inn_house_doors v_inn_thingIn z.2.1 v_inn_full z.2.2.1 z.2.2.2.1 v_a0 z.2.2.2.2.1 z.2.2.2.2.2.1 v_inn_bed z.2.2.2.2.2.2.1 z.2.2.2.2.2.2.2.1 z.2.2.2.2.2.2.2.2.1 v_inn_house_how z.2.2.2.2.2.2.2.2.2.1 z.2.2.2.2.2.2.2.2.2.2) := by
  intro sz
  refine ct_body (by decide) (Nat.le_of_ble_eq_true rfl) ?_
  intro p e s m args below meth c A ls hAe C hr hin hP hD hS hl
  have C : CX p s m args meth c cX4_begin RX4 4 E A := C
  have hl : lv_has ls 4 [(0, .ref h), (1, .ref a0), (2, .int p1)] := hl
  have hx := C.1
  have hb := C.2.1
  rw [hAe]
  clear hAe
  obtain ⟨Q, hQ⟩ : ∃ Q, Q = MQ below (Qv E A (wX4_begin E h h_inn h_ways h_how h_passed h_dreamOf h_stateOf h_roomOf h_handOf h_awake h_thingIn h_full h_heardBy h_inn_house h_inn_thingIn h_inn_full h_inn_states h_inn_bed h_inn_dreamOf h_inn_listensIn h_inn_house_creak h_inn_house_cold h_inn_house_one h_inn_house_other h_inn_house_how h_inn_house_falls h_inn_house_ways a0 v_setting z.1 v_inn_minutes v_inn_things v_inn_dreams v_inn_sleepers v_inn_listeners v_inn_house_rooms v_inn_house_doors v_inn_thingIn z.2.1 v_inn_full z.2.2.1 z.2.2.2.1 v_a0 z.2.2.2.2.1 z.2.2.2.2.2.1 v_inn_bed z.2.2.2.2.2.2.1 z.2.2.2.2.2.2.2.1 z.2.2.2.2.2.2.2.2.1 v_inn_house_how z.2.2.2.2.2.2.2.2.2.1 z.2.2.2.2.2.2.2.2.2.2)) args s 0 0 A := ⟨_, rfl⟩
  rw [← hQ]
  unfold fX4_begin at hf
  refine lv_aload_n (pc := 0) hx hb dX4_begin_0 rfl (lv_at hl 0 rfl) ?_
  refine lv_iconst (pc := 1) (v := 0) hx hb dX4_begin_1 (by decide) ?_
  refine r_put (pc := 2) (ws' := (wX4_begin E h h_inn h_ways h_how h_passed h_dreamOf h_stateOf h_roomOf h_handOf h_awake h_thingIn h_full h_heardBy h_inn_house h_inn_thingIn h_inn_full h_inn_states h_inn_bed h_inn_dreamOf h_inn_listensIn h_inn_house_creak h_inn_house_cold h_inn_house_one h_inn_house_other h_inn_house_how h_inn_house_falls h_inn_house_ways a0 v_setting 0 v_inn_minutes v_inn_things v_inn_dreams v_inn_sleepers v_inn_listeners v_inn_house_rooms v_inn_house_doors v_inn_thingIn v_thingIn v_inn_full v_full v_heardBy v_a0 v_dreamOf v_stateOf v_inn_bed v_roomOf v_handOf v_awake v_inn_house_how v_how v_passed)) C hP hD hS 0 rfl fl_X4_73 rfl rfl (Nat.le_of_ble_eq_true rfl) rfl dX4_begin_2 ?_
  clear hP hD hS; intro H locs hP hD hS
  refine lv_iconst (pc := 5) (v := 0) hx hb dX4_begin_5 (by decide) ?_
  refine lv_istore_n (pc := 6) (lv' := [(3, .int 0), (0, .ref h), (1, .ref a0), (2, .int p1)]) hx hb dX4_begin_6 rfl hl (by decide) rfl (fun ls hl => ?_)
  refine lpK hf (fun K52 eK52 hf => ?_)
  have hK52 : ∀ (x52_how : Nat → Int32) (x52_passed : Nat → Int32) , K52 (x52_how, x52_passed) = some z → AT p l e (rmOf 1 26) s m args below meth c E A Q 0 0 4 [(0, .ref h), (1, .ref a0), (2, .int p1)] (wX4_begin E h h_inn h_ways h_how h_passed h_dreamOf h_stateOf h_roomOf h_handOf h_awake h_thingIn h_full h_heardBy h_inn_house h_inn_thingIn h_inn_full h_inn_states h_inn_bed h_inn_dreamOf h_inn_listensIn h_inn_house_creak h_inn_house_cold h_inn_house_one h_inn_house_other h_inn_house_how h_inn_house_falls h_inn_house_ways a0 v_setting 0 v_inn_minutes v_inn_things v_inn_dreams v_inn_sleepers v_inn_listeners v_inn_house_rooms v_inn_house_doors v_inn_thingIn v_thingIn v_inn_full v_full v_heardBy v_a0 v_dreamOf v_stateOf v_inn_bed v_roomOf v_handOf v_awake v_inn_house_how x52_how x52_passed) 52 [] := by
    intro x52_how x52_passed hf H locs ls hl hP hD hS
    rw [eK52] at hf
    replace hf := un2_s hf
    refine lv_iconst (pc := 52) (v := 0) hx hb dX4_begin_52 (by decide) ?_
    refine lv_istore_n (pc := 53) (lv' := [(3, .int 0), (0, .ref h), (1, .ref a0), (2, .int p1)]) hx hb dX4_begin_53 rfl hl (by decide) rfl (fun ls hl => ?_)
    have key54 : ∀ (n : Nat) (x54_3 : Int32) (x54_dreamOf : Nat → Int32) (x54_stateOf : Nat → Int32) (x54_roomOf : Nat → Int32) (x54_handOf : Nat → Int32) (x54_awake : Nat → Int32) , lp (BX4_begin_54 v_inn_sleepers v_inn_full N v_heardBy v_inn_thingIn v_thingIn v_full x52_how x52_passed p1 v_a0 v_inn_bed) n (x54_3, x54_dreamOf, x54_stateOf, x54_roomOf, x54_handOf, x54_awake) = some z → AT p l e (rmOf 1 26) s m args below meth c E A Q 0 0 4 [(0, .ref h), (1, .ref a0), (2, .int p1), (3, .int x54_3)] (wX4_begin E h h_inn h_ways h_how h_passed h_dreamOf h_stateOf h_roomOf h_handOf h_awake h_thingIn h_full h_heardBy h_inn_house h_inn_thingIn h_inn_full h_inn_states h_inn_bed h_inn_dreamOf h_inn_listensIn h_inn_house_creak h_inn_house_cold h_inn_house_one h_inn_house_other h_inn_house_how h_inn_house_falls h_inn_house_ways a0 v_setting 0 v_inn_minutes v_inn_things v_inn_dreams v_inn_sleepers v_inn_listeners v_inn_house_rooms v_inn_house_doors v_inn_thingIn v_thingIn v_inn_full v_full v_heardBy v_a0 x54_dreamOf x54_stateOf v_inn_bed x54_roomOf x54_handOf x54_awake v_inn_house_how x52_how x52_passed) 54 [] := by
      intro n
      induction n with
      | zero => intro x54_3 x54_dreamOf x54_stateOf x54_roomOf x54_handOf x54_awake hf; exact (lp_0 hf).elim
      | succ n ih54 =>
        intro x54_3 x54_dreamOf x54_stateOf x54_roomOf x54_handOf x54_awake hf H locs ls hl hP hD hS
        replace hf := lp_s hf
        generalize lp (BX4_begin_54 v_inn_sleepers v_inn_full N v_heardBy v_inn_thingIn v_thingIn v_full x52_how x52_passed p1 v_a0 v_inn_bed) n = rec54 at ih54 hf
        unfold BX4_begin_54 at hf
        replace hf := un6_s hf
        refine lv_iload_n (pc := 54) hx hb dX4_begin_54 rfl (lv_at hl 3 rfl) ?_
        refine lv_aload_n (pc := 55) hx hb dX4_begin_55 rfl (lv_at hl 0 rfl) ?_
        refine r_get (pc := 56) C hP 0 rfl fl_X4_51 rfl dX4_begin_56 ?_
        refine r_get (pc := 59) C hP 1 rfl fl_X4_85 rfl dX4_begin_59 ?_
        refine lv_icmp_ge (pc := 62) (tgt := 119) hx hb dX4_begin_62 (by decide) (fun c_62 => ?_) (fun c_62 => ?_)
        · replace hf := it_t c_62 hf
          refine lv_aload_n (pc := 119) hx hb dX4_begin_119 rfl (lv_at hl 0 rfl) ?_
          refine r_get (pc := 120) C hP 0 rfl fl_X4_51 rfl dX4_begin_120 ?_
          refine r_get (pc := 123) C hP 1 rfl fl_X4_91 rfl dX4_begin_123 ?_
          refine lv_iconst (pc := 126) (v := 0) hx hb dX4_begin_126 (by decide) ?_
          refine lv_aload_n (pc := 127) hx hb dX4_begin_127 rfl (lv_at hl 0 rfl) ?_
          refine r_get (pc := 128) C hP 0 rfl fl_X4_41 rfl dX4_begin_128 ?_
          refine lv_iconst (pc := 131) (v := 0) hx hb dX4_begin_131 (by decide) ?_
          refine lv_iconst (pc := 132) (v := 4) hx hb dX4_begin_132 (by decide) ?_
          obtain ⟨hg_133, hf⟩ := cpg_s hf
          refine r_copyi (pc := 133) (t0 := 0) (ws' := (wX4_begin E h h_inn h_ways h_how h_passed h_dreamOf h_stateOf h_roomOf h_handOf h_awake h_thingIn h_full h_heardBy h_inn_house h_inn_thingIn h_inn_full h_inn_states h_inn_bed h_inn_dreamOf h_inn_listensIn h_inn_house_creak h_inn_house_cold h_inn_house_one h_inn_house_other h_inn_house_how h_inn_house_falls h_inn_house_ways a0 v_setting 0 v_inn_minutes v_inn_things v_inn_dreams v_inn_sleepers v_inn_listeners v_inn_house_rooms v_inn_house_doors v_inn_thingIn (va_cpy v_inn_thingIn v_thingIn (0 : Int32).toNatClampNeg (0 : Int32).toNatClampNeg (4 : Int32).toNatClampNeg) v_inn_full v_full v_heardBy v_a0 x54_dreamOf x54_stateOf v_inn_bed x54_roomOf x54_handOf x54_awake v_inn_house_how x52_how x52_passed)) C sc_X4_92 (Nat.le_of_ble_eq_true rfl) (Nat.le_of_ble_eq_true rfl) hP hD hS hl.1 3 4 rfl rfl rfl rfl hg_133.1 hg_133.2.1 hg_133.2.2.1 hg_133.2.2.2.1 hg_133.2.2.2.2 (fun _ _ => rfl) rfl dX4_begin_133 ?_
          clear hP hD hS; intro H locs hP hD hS
          refine lv_aload_n (pc := 136) hx hb dX4_begin_136 rfl (lv_at hl 0 rfl) ?_
          refine r_get (pc := 137) C hP 0 rfl fl_X4_51 rfl dX4_begin_137 ?_
          refine r_get (pc := 140) C hP 1 rfl fl_X4_98 rfl dX4_begin_140 ?_
          refine lv_iconst (pc := 143) (v := 0) hx hb dX4_begin_143 (by decide) ?_
          refine lv_aload_n (pc := 144) hx hb dX4_begin_144 rfl (lv_at hl 0 rfl) ?_
          refine r_get (pc := 145) C hP 0 rfl fl_X4_44 rfl dX4_begin_145 ?_
          refine lv_iconst (pc := 148) (v := 0) hx hb dX4_begin_148 (by decide) ?_
          refine lv_iconst (pc := 149) (v := 4) hx hb dX4_begin_149 (by decide) ?_
          obtain ⟨hg_150, hf⟩ := cpg_s hf
          obtain ⟨hz_150, hf⟩ := zcg_s hf
          refine r_copyi (pc := 150) (t0 := 1) (ws' := (wX4_begin E h h_inn h_ways h_how h_passed h_dreamOf h_stateOf h_roomOf h_handOf h_awake h_thingIn h_full h_heardBy h_inn_house h_inn_thingIn h_inn_full h_inn_states h_inn_bed h_inn_dreamOf h_inn_listensIn h_inn_house_creak h_inn_house_cold h_inn_house_one h_inn_house_other h_inn_house_how h_inn_house_falls h_inn_house_ways a0 v_setting 0 v_inn_minutes v_inn_things v_inn_dreams v_inn_sleepers v_inn_listeners v_inn_house_rooms v_inn_house_doors v_inn_thingIn (va_cpy v_inn_thingIn v_thingIn (0 : Int32).toNatClampNeg (0 : Int32).toNatClampNeg (4 : Int32).toNatClampNeg) v_inn_full (va_cpy v_inn_full v_full (0 : Int32).toNatClampNeg (0 : Int32).toNatClampNeg (4 : Int32).toNatClampNeg) v_heardBy v_a0 x54_dreamOf x54_stateOf v_inn_bed x54_roomOf x54_handOf x54_awake v_inn_house_how x52_how x52_passed)) C sc_X4_92 (Nat.le_of_ble_eq_true rfl) (Nat.le_of_ble_eq_true rfl) hP hD hS hl.1 5 6 rfl rfl rfl rfl hg_150.1 hg_150.2.1 hg_150.2.2.1 hg_150.2.2.2.1 hg_150.2.2.2.2 (zall_fit hz_150) rfl dX4_begin_150 ?_
          clear hP hD hS; intro H locs hP hD hS
          refine lv_aload_n (pc := 153) hx hb dX4_begin_153 rfl (lv_at hl 0 rfl) ?_
          refine r_get (pc := 154) C hP 0 rfl fl_X4_47 rfl dX4_begin_154 ?_
          refine lv_lconst (pc := 157) (v := 0) hx hb dX4_begin_157 (by decide) ?_
          obtain ⟨v_heardBy_158, hc_158, hf⟩ := bd1 hf
          refine r_dalSv (pc := 158) (Cn := "") (h := 0) (ws' := (wX4_begin E h h_inn h_ways h_how h_passed h_dreamOf h_stateOf h_roomOf h_handOf h_awake h_thingIn h_full h_heardBy h_inn_house h_inn_thingIn h_inn_full h_inn_states h_inn_bed h_inn_dreamOf h_inn_listensIn h_inn_house_creak h_inn_house_cold h_inn_house_one h_inn_house_other h_inn_house_how h_inn_house_falls h_inn_house_ways a0 v_setting 0 v_inn_minutes v_inn_things v_inn_dreams v_inn_sleepers v_inn_listeners v_inn_house_rooms v_inn_house_doors v_inn_thingIn (va_cpy v_inn_thingIn v_thingIn (0 : Int32).toNatClampNeg (0 : Int32).toNatClampNeg (4 : Int32).toNatClampNeg) v_inn_full (va_cpy v_inn_full v_full (0 : Int32).toNatClampNeg (0 : Int32).toNatClampNeg (4 : Int32).toNatClampNeg) v_heardBy_158 v_a0 x54_dreamOf x54_stateOf v_inn_bed x54_roomOf x54_handOf x54_awake v_inn_house_how x52_how x52_passed)) (As := [.ref h_heardBy, .long 0]) (rest := []) C (ctJ7_fill_d0a16 l E h_heardBy v_heardBy N 0 v_heardBy_158 hc_158) ml_X4_99 ⟨Nat.le_of_ble_eq_true rfl, Nat.le_of_ble_eq_true rfl⟩ hP hD hS [7] [0, 1, 2, 3, 4, 5, 6, 18, 8, 9, 10, 11, 12, 13, 14, 15, 16, 17] 18 rfl rfl rfl rfl rfl rfl rfl hl.1 rfl (Nat.le_of_ble_eq_true rfl) ⟨Nat.zero_le _, Nat.zero_le _⟩ dX4_begin_158 ?_
          clear hP hD hS; intro H locs hP hD hS
          cases hf
          rw [hQ]
          exact r_vret C hr hP hD hS dX4_begin_161
        · replace hf := it_f c_62 hf
          refine lv_aload_n (pc := 65) hx hb dX4_begin_65 rfl (lv_at hl 0 rfl) ?_
          refine r_get (pc := 66) C hP 0 rfl fl_X4_25 rfl dX4_begin_66 ?_
          refine lv_iload_n (pc := 69) hx hb dX4_begin_69 rfl (lv_at hl 3 rfl) ?_
          refine lv_aload_n (pc := 70) hx hb dX4_begin_70 rfl (lv_at hl 1 rfl) ?_
          refine lv_iload_n (pc := 71) hx hb dX4_begin_71 rfl (lv_at hl 2 rfl) ?_
          refine lv_iload_n (pc := 72) hx hb dX4_begin_72 rfl (lv_at hl 3 rfl) ?_
          refine lv_iadd (pc := 73) hx hb dX4_begin_73 ?_
          obtain ⟨hi_74, hf⟩ := gd_s hf
          refine r_iald (pc := 74) C hP 8 rfl hi_74 dX4_begin_74 ?_
          obtain ⟨hi_75, hf⟩ := gd_s hf
          refine r_iast (pc := 75) (ws' := (wX4_begin E h h_inn h_ways h_how h_passed h_dreamOf h_stateOf h_roomOf h_handOf h_awake h_thingIn h_full h_heardBy h_inn_house h_inn_thingIn h_inn_full h_inn_states h_inn_bed h_inn_dreamOf h_inn_listensIn h_inn_house_creak h_inn_house_cold h_inn_house_one h_inn_house_other h_inn_house_how h_inn_house_falls h_inn_house_ways a0 v_setting 0 v_inn_minutes v_inn_things v_inn_dreams v_inn_sleepers v_inn_listeners v_inn_house_rooms v_inn_house_doors v_inn_thingIn v_thingIn v_inn_full v_full v_heardBy v_a0 (upd x54_dreamOf x54_3.toNatClampNeg (v_a0 (p1 + x54_3).toNatClampNeg)) x54_stateOf v_inn_bed x54_roomOf x54_handOf x54_awake v_inn_house_how x52_how x52_passed)) C hP hD hS 9 rfl hi_75 rfl dX4_begin_75 ?_
          clear hP hD hS; intro H locs hP hD hS
          refine lv_aload_n (pc := 76) hx hb dX4_begin_76 rfl (lv_at hl 0 rfl) ?_
          refine r_get (pc := 77) C hP 0 rfl fl_X4_28 rfl dX4_begin_77 ?_
          refine lv_iload_n (pc := 80) hx hb dX4_begin_80 rfl (lv_at hl 3 rfl) ?_
          refine lv_iconst (pc := 81) (v := 0) hx hb dX4_begin_81 (by decide) ?_
          obtain ⟨hi_82, hf⟩ := gd_s hf
          refine r_iast (pc := 82) (ws' := (wX4_begin E h h_inn h_ways h_how h_passed h_dreamOf h_stateOf h_roomOf h_handOf h_awake h_thingIn h_full h_heardBy h_inn_house h_inn_thingIn h_inn_full h_inn_states h_inn_bed h_inn_dreamOf h_inn_listensIn h_inn_house_creak h_inn_house_cold h_inn_house_one h_inn_house_other h_inn_house_how h_inn_house_falls h_inn_house_ways a0 v_setting 0 v_inn_minutes v_inn_things v_inn_dreams v_inn_sleepers v_inn_listeners v_inn_house_rooms v_inn_house_doors v_inn_thingIn v_thingIn v_inn_full v_full v_heardBy v_a0 (upd x54_dreamOf x54_3.toNatClampNeg (v_a0 (p1 + x54_3).toNatClampNeg)) (upd x54_stateOf x54_3.toNatClampNeg 0) v_inn_bed x54_roomOf x54_handOf x54_awake v_inn_house_how x52_how x52_passed)) C hP hD hS 10 rfl hi_82 rfl dX4_begin_82 ?_
          clear hP hD hS; intro H locs hP hD hS
          refine lv_aload_n (pc := 83) hx hb dX4_begin_83 rfl (lv_at hl 0 rfl) ?_
          refine r_get (pc := 84) C hP 0 rfl fl_X4_31 rfl dX4_begin_84 ?_
          refine lv_iload_n (pc := 87) hx hb dX4_begin_87 rfl (lv_at hl 3 rfl) ?_
          refine lv_aload_n (pc := 88) hx hb dX4_begin_88 rfl (lv_at hl 0 rfl) ?_
          refine r_get (pc := 89) C hP 0 rfl fl_X4_51 rfl dX4_begin_89 ?_
          refine r_get (pc := 92) C hP 1 rfl fl_X4_88 rfl dX4_begin_92 ?_
          refine lv_iload_n (pc := 95) hx hb dX4_begin_95 rfl (lv_at hl 3 rfl) ?_
          obtain ⟨hi_96, hf⟩ := gd_s hf
          refine r_iald (pc := 96) C hP 11 rfl hi_96 dX4_begin_96 ?_
          obtain ⟨hi_97, hf⟩ := gd_s hf
          refine r_iast (pc := 97) (ws' := (wX4_begin E h h_inn h_ways h_how h_passed h_dreamOf h_stateOf h_roomOf h_handOf h_awake h_thingIn h_full h_heardBy h_inn_house h_inn_thingIn h_inn_full h_inn_states h_inn_bed h_inn_dreamOf h_inn_listensIn h_inn_house_creak h_inn_house_cold h_inn_house_one h_inn_house_other h_inn_house_how h_inn_house_falls h_inn_house_ways a0 v_setting 0 v_inn_minutes v_inn_things v_inn_dreams v_inn_sleepers v_inn_listeners v_inn_house_rooms v_inn_house_doors v_inn_thingIn v_thingIn v_inn_full v_full v_heardBy v_a0 (upd x54_dreamOf x54_3.toNatClampNeg (v_a0 (p1 + x54_3).toNatClampNeg)) (upd x54_stateOf x54_3.toNatClampNeg 0) v_inn_bed (upd x54_roomOf x54_3.toNatClampNeg (v_inn_bed x54_3.toNatClampNeg)) x54_handOf x54_awake v_inn_house_how x52_how x52_passed)) C hP hD hS 12 rfl hi_97 rfl dX4_begin_97 ?_
          clear hP hD hS; intro H locs hP hD hS
          refine lv_aload_n (pc := 98) hx hb dX4_begin_98 rfl (lv_at hl 0 rfl) ?_
          refine r_get (pc := 99) C hP 0 rfl fl_X4_34 rfl dX4_begin_99 ?_
          refine lv_iload_n (pc := 102) hx hb dX4_begin_102 rfl (lv_at hl 3 rfl) ?_
          refine lv_bipush (pc := 103) (v := (-2)) hx hb dX4_begin_103 (by decide) ?_
          obtain ⟨hi_105, hf⟩ := gd_s hf
          refine r_iast (pc := 105) (ws' := (wX4_begin E h h_inn h_ways h_how h_passed h_dreamOf h_stateOf h_roomOf h_handOf h_awake h_thingIn h_full h_heardBy h_inn_house h_inn_thingIn h_inn_full h_inn_states h_inn_bed h_inn_dreamOf h_inn_listensIn h_inn_house_creak h_inn_house_cold h_inn_house_one h_inn_house_other h_inn_house_how h_inn_house_falls h_inn_house_ways a0 v_setting 0 v_inn_minutes v_inn_things v_inn_dreams v_inn_sleepers v_inn_listeners v_inn_house_rooms v_inn_house_doors v_inn_thingIn v_thingIn v_inn_full v_full v_heardBy v_a0 (upd x54_dreamOf x54_3.toNatClampNeg (v_a0 (p1 + x54_3).toNatClampNeg)) (upd x54_stateOf x54_3.toNatClampNeg 0) v_inn_bed (upd x54_roomOf x54_3.toNatClampNeg (v_inn_bed x54_3.toNatClampNeg)) (upd x54_handOf x54_3.toNatClampNeg (-2)) x54_awake v_inn_house_how x52_how x52_passed)) C hP hD hS 13 rfl hi_105 rfl dX4_begin_105 ?_
          clear hP hD hS; intro H locs hP hD hS
          refine lv_aload_n (pc := 106) hx hb dX4_begin_106 rfl (lv_at hl 0 rfl) ?_
          refine r_get (pc := 107) C hP 0 rfl fl_X4_37 rfl dX4_begin_107 ?_
          refine lv_iload_n (pc := 110) hx hb dX4_begin_110 rfl (lv_at hl 3 rfl) ?_
          refine lv_iconst (pc := 111) (v := 0) hx hb dX4_begin_111 (by decide) ?_
          obtain ⟨hi_112, hf⟩ := gd_s hf
          refine r_zast (pc := 112) (ws' := (wX4_begin E h h_inn h_ways h_how h_passed h_dreamOf h_stateOf h_roomOf h_handOf h_awake h_thingIn h_full h_heardBy h_inn_house h_inn_thingIn h_inn_full h_inn_states h_inn_bed h_inn_dreamOf h_inn_listensIn h_inn_house_creak h_inn_house_cold h_inn_house_one h_inn_house_other h_inn_house_how h_inn_house_falls h_inn_house_ways a0 v_setting 0 v_inn_minutes v_inn_things v_inn_dreams v_inn_sleepers v_inn_listeners v_inn_house_rooms v_inn_house_doors v_inn_thingIn v_thingIn v_inn_full v_full v_heardBy v_a0 (upd x54_dreamOf x54_3.toNatClampNeg (v_a0 (p1 + x54_3).toNatClampNeg)) (upd x54_stateOf x54_3.toNatClampNeg 0) v_inn_bed (upd x54_roomOf x54_3.toNatClampNeg (v_inn_bed x54_3.toNatClampNeg)) (upd x54_handOf x54_3.toNatClampNeg (-2)) (upd x54_awake x54_3.toNatClampNeg 0) v_inn_house_how x52_how x52_passed)) C hP hD hS 14 rfl hi_112 (Or.inl rfl) rfl dX4_begin_112 ?_
          clear hP hD hS; intro H locs hP hD hS
          refine lv_iinc (pc := 113) (v := x54_3 + 1) (lv' := [(3, .int (x54_3 + 1)), (0, .ref h), (1, .ref a0), (2, .int p1)]) hx hb dX4_begin_113 hl (k := 3) rfl rfl (by decide) rfl (fun ls hl => ?_)
          refine lv_goto (pc := 116) (tgt := 54) hx hb dX4_begin_116 (by decide) ?_
          exact ih54 (x54_3 + 1) (upd x54_dreamOf x54_3.toNatClampNeg (v_a0 (p1 + x54_3).toNatClampNeg)) (upd x54_stateOf x54_3.toNatClampNeg 0) (upd x54_roomOf x54_3.toNatClampNeg (v_inn_bed x54_3.toNatClampNeg)) (upd x54_handOf x54_3.toNatClampNeg (-2)) (upd x54_awake x54_3.toNatClampNeg 0) hf _ _ _ (lv_sub hl [1, 2, 3, 0] rfl) hP hD hS
    exact key54 _ 0 v_dreamOf v_stateOf v_roomOf v_handOf v_awake hf _ _ _ (lv_sub hl [1, 2, 3, 0] rfl) hP hD hS
  clear eK52
  have key7 : ∀ (n : Nat) (x7_3 : Int32) (x7_how : Nat → Int32) (x7_passed : Nat → Int32) , lp (BX4_begin_7 v_inn_house_doors N v_setting v_inn_house_how K52) n (x7_3, x7_how, x7_passed) = some z → AT p l e (rmOf 1 26) s m args below meth c E A Q 0 0 4 [(0, .ref h), (1, .ref a0), (2, .int p1), (3, .int x7_3)] (wX4_begin E h h_inn h_ways h_how h_passed h_dreamOf h_stateOf h_roomOf h_handOf h_awake h_thingIn h_full h_heardBy h_inn_house h_inn_thingIn h_inn_full h_inn_states h_inn_bed h_inn_dreamOf h_inn_listensIn h_inn_house_creak h_inn_house_cold h_inn_house_one h_inn_house_other h_inn_house_how h_inn_house_falls h_inn_house_ways a0 v_setting 0 v_inn_minutes v_inn_things v_inn_dreams v_inn_sleepers v_inn_listeners v_inn_house_rooms v_inn_house_doors v_inn_thingIn v_thingIn v_inn_full v_full v_heardBy v_a0 v_dreamOf v_stateOf v_inn_bed v_roomOf v_handOf v_awake v_inn_house_how x7_how x7_passed) 7 [] := by
    intro n
    induction n with
    | zero => intro x7_3 x7_how x7_passed hf; exact (lp_0 hf).elim
    | succ n ih7 =>
      intro x7_3 x7_how x7_passed hf H locs ls hl hP hD hS
      replace hf := lp_s hf
      generalize lp (BX4_begin_7 v_inn_house_doors N v_setting v_inn_house_how K52) n = rec7 at ih7 hf
      unfold BX4_begin_7 at hf
      replace hf := un3_s hf
      refine lv_iload_n (pc := 7) hx hb dX4_begin_7 rfl (lv_at hl 3 rfl) ?_
      refine lv_aload_n (pc := 8) hx hb dX4_begin_8 rfl (lv_at hl 0 rfl) ?_
      refine r_get (pc := 9) C hP 0 rfl fl_X4_51 rfl dX4_begin_9 ?_
      refine r_get (pc := 12) C hP 1 rfl fl_X4_59 rfl dX4_begin_12 ?_
      refine r_get (pc := 15) C hP 2 rfl fl_X4_76 rfl dX4_begin_15 ?_
      refine lv_icmp_ge (pc := 18) (tgt := 52) hx hb dX4_begin_18 (by decide) (fun c_18 => ?_) (fun c_18 => ?_)
      · replace hf := it_t c_18 hf
        exact hK52 x7_how x7_passed hf _ _ _ (lv_sub hl [0, 1, 2] rfl) hP hD hS
      · replace hf := it_f c_18 hf
        refine lv_aload_n (pc := 21) hx hb dX4_begin_21 rfl (lv_at hl 0 rfl) ?_
        refine r_get (pc := 22) C hP 0 rfl fl_X4_18 rfl dX4_begin_22 ?_
        refine lv_iload_n (pc := 25) hx hb dX4_begin_25 rfl (lv_at hl 3 rfl) ?_
        refine lv_aload_n (pc := 26) hx hb dX4_begin_26 rfl (lv_at hl 0 rfl) ?_
        refine r_get (pc := 27) C hP 0 rfl fl_X4_51 rfl dX4_begin_27 ?_
        refine lv_iload_n (pc := 30) hx hb dX4_begin_30 rfl (lv_at hl 3 rfl) ?_
        refine lv_aload_n (pc := 31) hx hb dX4_begin_31 rfl (lv_at hl 0 rfl) ?_
        refine r_get (pc := 32) C hP 0 rfl fl_X4_55 rfl dX4_begin_32 ?_
        obtain ⟨r_35, hc_35, hf⟩ := bd1 hf
        refine r_dalVi (pc := 35) (ws' := (wX4_begin E h h_inn h_ways h_how h_passed h_dreamOf h_stateOf h_roomOf h_handOf h_awake h_thingIn h_full h_heardBy h_inn_house h_inn_thingIn h_inn_full h_inn_states h_inn_bed h_inn_dreamOf h_inn_listensIn h_inn_house_creak h_inn_house_cold h_inn_house_one h_inn_house_other h_inn_house_how h_inn_house_falls h_inn_house_ways a0 v_setting 0 v_inn_minutes v_inn_things v_inn_dreams v_inn_sleepers v_inn_listeners v_inn_house_rooms v_inn_house_doors v_inn_thingIn v_thingIn v_inn_full v_full v_heardBy v_a0 v_dreamOf v_stateOf v_inn_bed v_roomOf v_handOf v_awake v_inn_house_how x7_how x7_passed)) (As := [.int x7_3, .int v_setting]) (rest := [.int x7_3, .ref h_how]) C (ctX2_howAtNightfall l E h_inn h_inn_house h_inn_thingIn h_inn_full h_inn_states h_inn_bed h_inn_dreamOf h_inn_listensIn h_inn_house_creak h_inn_house_cold h_inn_house_one h_inn_house_other h_inn_house_how h_inn_house_falls h_inn_house_ways v_inn_minutes v_inn_things v_inn_dreams v_inn_sleepers v_inn_listeners v_inn_house_rooms v_inn_house_doors v_inn_house_how N x7_3 v_setting r_35 hc_35) ml_X4_81 ⟨Nat.le_of_ble_eq_true rfl, Nat.le_of_ble_eq_true rfl⟩ hP hD hS 1 rfl rfl rfl [1, 2, 15] [0, 18, 19, 3, 4, 5, 6, 7, 8, 9, 10, 11, 12, 13, 14, 20, 16, 17] 18 rfl rfl rfl rfl rfl rfl rfl hl.1 rfl (Nat.le_of_ble_eq_true rfl) ⟨Nat.zero_le _, Nat.zero_le _⟩ dX4_begin_35 ?_
        clear hP hD hS; intro H locs hP hD hS
        obtain ⟨hi_38, hf⟩ := gd_s hf
        refine r_iast (pc := 38) (ws' := (wX4_begin E h h_inn h_ways h_how h_passed h_dreamOf h_stateOf h_roomOf h_handOf h_awake h_thingIn h_full h_heardBy h_inn_house h_inn_thingIn h_inn_full h_inn_states h_inn_bed h_inn_dreamOf h_inn_listensIn h_inn_house_creak h_inn_house_cold h_inn_house_one h_inn_house_other h_inn_house_how h_inn_house_falls h_inn_house_ways a0 v_setting 0 v_inn_minutes v_inn_things v_inn_dreams v_inn_sleepers v_inn_listeners v_inn_house_rooms v_inn_house_doors v_inn_thingIn v_thingIn v_inn_full v_full v_heardBy v_a0 v_dreamOf v_stateOf v_inn_bed v_roomOf v_handOf v_awake v_inn_house_how (upd x7_how x7_3.toNatClampNeg r_35) x7_passed)) C hP hD hS 16 rfl hi_38 rfl dX4_begin_38 ?_
        clear hP hD hS; intro H locs hP hD hS
        refine lv_aload_n (pc := 39) hx hb dX4_begin_39 rfl (lv_at hl 0 rfl) ?_
        refine r_get (pc := 40) C hP 0 rfl fl_X4_22 rfl dX4_begin_40 ?_
        refine lv_iload_n (pc := 43) hx hb dX4_begin_43 rfl (lv_at hl 3 rfl) ?_
        refine lv_iconst (pc := 44) (v := 0) hx hb dX4_begin_44 (by decide) ?_
        obtain ⟨hi_45, hf⟩ := gd_s hf
        refine r_iast (pc := 45) (ws' := (wX4_begin E h h_inn h_ways h_how h_passed h_dreamOf h_stateOf h_roomOf h_handOf h_awake h_thingIn h_full h_heardBy h_inn_house h_inn_thingIn h_inn_full h_inn_states h_inn_bed h_inn_dreamOf h_inn_listensIn h_inn_house_creak h_inn_house_cold h_inn_house_one h_inn_house_other h_inn_house_how h_inn_house_falls h_inn_house_ways a0 v_setting 0 v_inn_minutes v_inn_things v_inn_dreams v_inn_sleepers v_inn_listeners v_inn_house_rooms v_inn_house_doors v_inn_thingIn v_thingIn v_inn_full v_full v_heardBy v_a0 v_dreamOf v_stateOf v_inn_bed v_roomOf v_handOf v_awake v_inn_house_how (upd x7_how x7_3.toNatClampNeg r_35) (upd x7_passed x7_3.toNatClampNeg 0))) C hP hD hS 17 rfl hi_45 rfl dX4_begin_45 ?_
        clear hP hD hS; intro H locs hP hD hS
        refine lv_iinc (pc := 46) (v := x7_3 + 1) (lv' := [(3, .int (x7_3 + 1)), (0, .ref h), (1, .ref a0), (2, .int p1)]) hx hb dX4_begin_46 hl (k := 3) rfl rfl (by decide) rfl (fun ls hl => ?_)
        refine lv_goto (pc := 49) (tgt := 7) hx hb dX4_begin_49 (by decide) ?_
        exact ih7 (x7_3 + 1) (upd x7_how x7_3.toNatClampNeg r_35) (upd x7_passed x7_3.toNatClampNeg 0) hf _ _ _ (lv_sub hl [1, 2, 3, 0] rfl) hP hD hS
  exact key7 _ 0 v_how v_passed hf _ _ _ (lv_sub hl [1, 2, 3, 0] rfl) hP hD hS
