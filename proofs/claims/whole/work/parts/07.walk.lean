theorem dX0_fillFromBefore_0 : decode cX0_fillFromBefore 0 = .ok (.iload_n 1, 1) := by decide +kernel
theorem dX0_fillFromBefore_1 : decode cX0_fillFromBefore 1 = .ok (.iconst 3, 1) := by decide +kernel
theorem dX0_fillFromBefore_2 : decode cX0_fillFromBefore 2 = .ok (.imul, 1) := by decide +kernel
theorem dX0_fillFromBefore_3 : decode cX0_fillFromBefore 3 = .ok (.istore_n 2, 1) := by decide +kernel
theorem dX0_fillFromBefore_4 : decode cX0_fillFromBefore 4 = .ok (.aload_n 0, 1) := by decide +kernel
theorem dX0_fillFromBefore_5 : decode cX0_fillFromBefore 5 = .ok (.getfield 9, 3) := by decide +kernel
theorem dX0_fillFromBefore_8 : decode cX0_fillFromBefore 8 = .ok (.iload_n 2, 1) := by decide +kernel
theorem dX0_fillFromBefore_9 : decode cX0_fillFromBefore 9 = .ok (.iconst 3, 1) := by decide +kernel
theorem dX0_fillFromBefore_10 : decode cX0_fillFromBefore 10 = .ok (.isub, 1) := by decide +kernel
theorem dX0_fillFromBefore_11 : decode cX0_fillFromBefore 11 = .ok (.aload_n 0, 1) := by decide +kernel
theorem dX0_fillFromBefore_12 : decode cX0_fillFromBefore 12 = .ok (.getfield 9, 3) := by decide +kernel
theorem dX0_fillFromBefore_15 : decode cX0_fillFromBefore 15 = .ok (.iload_n 2, 1) := by decide +kernel
theorem dX0_fillFromBefore_16 : decode cX0_fillFromBefore 16 = .ok (.iconst 3, 1) := by decide +kernel
theorem dX0_fillFromBefore_17 : decode cX0_fillFromBefore 17 = .ok (.invokestatic 63, 3) := by decide +kernel
theorem dX0_fillFromBefore_20 : decode cX0_fillFromBefore 20 = .ok (.aload_n 0, 1) := by decide +kernel
theorem dX0_fillFromBefore_21 : decode cX0_fillFromBefore 21 = .ok (.getfield 35, 3) := by decide +kernel
theorem dX0_fillFromBefore_24 : decode cX0_fillFromBefore 24 = .ok (.getfield 52, 3) := by decide +kernel
theorem dX0_fillFromBefore_27 : decode cX0_fillFromBefore 27 = .ok (.iconst 1, 1) := by decide +kernel
theorem dX0_fillFromBefore_28 : decode cX0_fillFromBefore 28 = .ok (.isub, 1) := by decide +kernel
theorem dX0_fillFromBefore_29 : decode cX0_fillFromBefore 29 = .ok (.istore_n 3, 1) := by decide +kernel
theorem dX0_fillFromBefore_30 : decode cX0_fillFromBefore 30 = .ok (.iload_n 3, 1) := by decide +kernel
theorem dX0_fillFromBefore_31 : decode cX0_fillFromBefore 31 = .ok (.ifCond .lt 49, 3) := by decide +kernel
theorem dX0_fillFromBefore_34 : decode cX0_fillFromBefore 34 = .ok (.aload_n 0, 1) := by decide +kernel
theorem dX0_fillFromBefore_35 : decode cX0_fillFromBefore 35 = .ok (.getfield 9, 3) := by decide +kernel
theorem dX0_fillFromBefore_38 : decode cX0_fillFromBefore 38 = .ok (.iload_n 2, 1) := by decide +kernel
theorem dX0_fillFromBefore_39 : decode cX0_fillFromBefore 39 = .ok (.iload_n 3, 1) := by decide +kernel
theorem dX0_fillFromBefore_40 : decode cX0_fillFromBefore 40 = .ok (.iadd, 1) := by decide +kernel
theorem dX0_fillFromBefore_41 : decode cX0_fillFromBefore 41 = .ok (.dup2, 1) := by decide +kernel
theorem dX0_fillFromBefore_42 : decode cX0_fillFromBefore 42 = .ok (.iaload, 1) := by decide +kernel
theorem dX0_fillFromBefore_43 : decode cX0_fillFromBefore 43 = .ok (.iconst 1, 1) := by decide +kernel
theorem dX0_fillFromBefore_44 : decode cX0_fillFromBefore 44 = .ok (.iadd, 1) := by decide +kernel
theorem dX0_fillFromBefore_45 : decode cX0_fillFromBefore 45 = .ok (.iastore, 1) := by decide +kernel
theorem dX0_fillFromBefore_46 : decode cX0_fillFromBefore 46 = .ok (.aload_n 0, 1) := by decide +kernel
theorem dX0_fillFromBefore_47 : decode cX0_fillFromBefore 47 = .ok (.getfield 9, 3) := by decide +kernel
theorem dX0_fillFromBefore_50 : decode cX0_fillFromBefore 50 = .ok (.iload_n 2, 1) := by decide +kernel
theorem dX0_fillFromBefore_51 : decode cX0_fillFromBefore 51 = .ok (.iload_n 3, 1) := by decide +kernel
theorem dX0_fillFromBefore_52 : decode cX0_fillFromBefore 52 = .ok (.iadd, 1) := by decide +kernel
theorem dX0_fillFromBefore_53 : decode cX0_fillFromBefore 53 = .ok (.iaload, 1) := by decide +kernel
theorem dX0_fillFromBefore_54 : decode cX0_fillFromBefore 54 = .ok (.aload_n 0, 1) := by decide +kernel
theorem dX0_fillFromBefore_55 : decode cX0_fillFromBefore 55 = .ok (.getfield 35, 3) := by decide +kernel
theorem dX0_fillFromBefore_58 : decode cX0_fillFromBefore 58 = .ok (.getfield 57, 3) := by decide +kernel
theorem dX0_fillFromBefore_61 : decode cX0_fillFromBefore 61 = .ok (.if_icmp .ge 4, 3) := by decide +kernel
theorem dX0_fillFromBefore_64 : decode cX0_fillFromBefore 64 = .ok (.return_, 1) := by decide +kernel
theorem dX0_fillFromBefore_65 : decode cX0_fillFromBefore 65 = .ok (.aload_n 0, 1) := by decide +kernel
theorem dX0_fillFromBefore_66 : decode cX0_fillFromBefore 66 = .ok (.getfield 9, 3) := by decide +kernel
theorem dX0_fillFromBefore_69 : decode cX0_fillFromBefore 69 = .ok (.iload_n 2, 1) := by decide +kernel
theorem dX0_fillFromBefore_70 : decode cX0_fillFromBefore 70 = .ok (.iload_n 3, 1) := by decide +kernel
theorem dX0_fillFromBefore_71 : decode cX0_fillFromBefore 71 = .ok (.iadd, 1) := by decide +kernel
theorem dX0_fillFromBefore_72 : decode cX0_fillFromBefore 72 = .ok (.iconst 0, 1) := by decide +kernel
theorem dX0_fillFromBefore_73 : decode cX0_fillFromBefore 73 = .ok (.iastore, 1) := by decide +kernel
theorem dX0_fillFromBefore_74 : decode cX0_fillFromBefore 74 = .ok (.iinc 3 (-1), 3) := by decide +kernel
theorem dX0_fillFromBefore_77 : decode cX0_fillFromBefore 77 = .ok (.goto (-47), 3) := by decide +kernel
theorem dX0_fillFromBefore_80 : decode cX0_fillFromBefore 80 = .ok (.return_, 1) := by decide +kernel
theorem dX0_moveTo_0 : decode cX0_moveTo 0 = .ok (.aload_n 0, 1) := by decide +kernel
theorem dX0_moveTo_1 : decode cX0_moveTo 1 = .ok (.aload_n 1, 1) := by decide +kernel
theorem dX0_moveTo_2 : decode cX0_moveTo 2 = .ok (.putfield 35, 3) := by decide +kernel
theorem dX0_moveTo_5 : decode cX0_moveTo 5 = .ok (.iconst 0, 1) := by decide +kernel
theorem dX0_moveTo_6 : decode cX0_moveTo 6 = .ok (.istore_n 2, 1) := by decide +kernel
theorem dX0_moveTo_7 : decode cX0_moveTo 7 = .ok (.iload_n 2, 1) := by decide +kernel
theorem dX0_moveTo_8 : decode cX0_moveTo 8 = .ok (.bipush 21, 2) := by decide +kernel
theorem dX0_moveTo_10 : decode cX0_moveTo 10 = .ok (.if_icmp .ge 16, 3) := by decide +kernel
theorem dX0_moveTo_13 : decode cX0_moveTo 13 = .ok (.aload_n 0, 1) := by decide +kernel
theorem dX0_moveTo_14 : decode cX0_moveTo 14 = .ok (.getfield 25, 3) := by decide +kernel
theorem dX0_moveTo_17 : decode cX0_moveTo 17 = .ok (.iload_n 2, 1) := by decide +kernel
theorem dX0_moveTo_18 : decode cX0_moveTo 18 = .ok (.iconst 0, 1) := by decide +kernel
theorem dX0_moveTo_19 : decode cX0_moveTo 19 = .ok (.bastore, 1) := by decide +kernel
theorem dX0_moveTo_20 : decode cX0_moveTo 20 = .ok (.iinc 2 1, 3) := by decide +kernel
theorem dX0_moveTo_23 : decode cX0_moveTo 23 = .ok (.goto (-16), 3) := by decide +kernel
theorem dX0_moveTo_26 : decode cX0_moveTo 26 = .ok (.aload_n 0, 1) := by decide +kernel
theorem dX0_moveTo_27 : decode cX0_moveTo 27 = .ok (.iconst 1, 1) := by decide +kernel
theorem dX0_moveTo_28 : decode cX0_moveTo 28 = .ok (.putfield 48, 3) := by decide +kernel
theorem dX0_moveTo_31 : decode cX0_moveTo 31 = .ok (.iconst 0, 1) := by decide +kernel
theorem dX0_moveTo_32 : decode cX0_moveTo 32 = .ok (.istore_n 2, 1) := by decide +kernel
theorem dX0_moveTo_33 : decode cX0_moveTo 33 = .ok (.iload_n 2, 1) := by decide +kernel
theorem dX0_moveTo_34 : decode cX0_moveTo 34 = .ok (.aload_n 0, 1) := by decide +kernel
theorem dX0_moveTo_35 : decode cX0_moveTo 35 = .ok (.getfield 35, 3) := by decide +kernel
theorem dX0_moveTo_38 : decode cX0_moveTo 38 = .ok (.getfield 52, 3) := by decide +kernel
theorem dX0_moveTo_41 : decode cX0_moveTo 41 = .ok (.if_icmp .ge 25, 3) := by decide +kernel
theorem dX0_moveTo_44 : decode cX0_moveTo 44 = .ok (.aload_n 0, 1) := by decide +kernel
theorem dX0_moveTo_45 : decode cX0_moveTo 45 = .ok (.dup, 1) := by decide +kernel
theorem dX0_moveTo_46 : decode cX0_moveTo 46 = .ok (.getfield 48, 3) := by decide +kernel
theorem dX0_moveTo_49 : decode cX0_moveTo 49 = .ok (.aload_n 0, 1) := by decide +kernel
theorem dX0_moveTo_50 : decode cX0_moveTo 50 = .ok (.getfield 35, 3) := by decide +kernel
theorem dX0_moveTo_53 : decode cX0_moveTo 53 = .ok (.getfield 57, 3) := by decide +kernel
theorem dX0_moveTo_56 : decode cX0_moveTo 56 = .ok (.imul, 1) := by decide +kernel
theorem dX0_moveTo_57 : decode cX0_moveTo 57 = .ok (.putfield 48, 3) := by decide +kernel
theorem dX0_moveTo_60 : decode cX0_moveTo 60 = .ok (.iinc 2 1, 3) := by decide +kernel
theorem dX0_moveTo_63 : decode cX0_moveTo 63 = .ok (.goto (-30), 3) := by decide +kernel
theorem dX0_moveTo_66 : decode cX0_moveTo 66 = .ok (.iconst 1, 1) := by decide +kernel
theorem dX0_moveTo_67 : decode cX0_moveTo 67 = .ok (.istore_n 2, 1) := by decide +kernel
theorem dX0_moveTo_68 : decode cX0_moveTo 68 = .ok (.iload_n 2, 1) := by decide +kernel
theorem dX0_moveTo_69 : decode cX0_moveTo 69 = .ok (.aload_n 0, 1) := by decide +kernel
theorem dX0_moveTo_70 : decode cX0_moveTo 70 = .ok (.getfield 48, 3) := by decide +kernel
theorem dX0_moveTo_73 : decode cX0_moveTo 73 = .ok (.if_icmp .ge 14, 3) := by decide +kernel
theorem dX0_moveTo_76 : decode cX0_moveTo 76 = .ok (.aload_n 0, 1) := by decide +kernel
theorem dX0_moveTo_77 : decode cX0_moveTo 77 = .ok (.iload_n 2, 1) := by decide +kernel
theorem dX0_moveTo_78 : decode cX0_moveTo 78 = .ok (.invokevirtual 59, 3) := by decide +kernel
theorem dX0_moveTo_81 : decode cX0_moveTo 81 = .ok (.iinc 2 1, 3) := by decide +kernel
theorem dX0_moveTo_84 : decode cX0_moveTo 84 = .ok (.goto (-16), 3) := by decide +kernel
theorem dX0_moveTo_87 : decode cX0_moveTo 87 = .ok (.return_, 1) := by decide +kernel
theorem dX10_moveIn_0 : decode cX10_moveIn 0 = .ok (.aload_n 0, 1) := by decide +kernel
theorem dX10_moveIn_1 : decode cX10_moveIn 1 = .ok (.getfield 19, 3) := by decide +kernel
theorem dX10_moveIn_4 : decode cX10_moveIn 4 = .ok (.getfield 322, 3) := by decide +kernel
theorem dX10_moveIn_7 : decode cX10_moveIn 7 = .ok (.iconst 0, 1) := by decide +kernel
theorem dX10_moveIn_8 : decode cX10_moveIn 8 = .ok (.aload_n 0, 1) := by decide +kernel
theorem dX10_moveIn_9 : decode cX10_moveIn 9 = .ok (.getfield 23, 3) := by decide +kernel
theorem dX10_moveIn_12 : decode cX10_moveIn 12 = .ok (.iconst 0, 1) := by decide +kernel
theorem dX10_moveIn_13 : decode cX10_moveIn 13 = .ok (.iconst 3, 1) := by decide +kernel
theorem dX10_moveIn_14 : decode cX10_moveIn 14 = .ok (.invokestatic 323, 3) := by decide +kernel
theorem dX10_moveIn_17 : decode cX10_moveIn 17 = .ok (.aload_n 0, 1) := by decide +kernel
theorem dX10_moveIn_18 : decode cX10_moveIn 18 = .ok (.getfield 32, 3) := by decide +kernel
theorem dX10_moveIn_21 : decode cX10_moveIn 21 = .ok (.aload_n 0, 1) := by decide +kernel
theorem dX10_moveIn_22 : decode cX10_moveIn 22 = .ok (.getfield 19, 3) := by decide +kernel
theorem dX10_moveIn_25 : decode cX10_moveIn 25 = .ok (.iconst 0, 1) := by decide +kernel
theorem dX10_moveIn_26 : decode cX10_moveIn 26 = .ok (.invokevirtual 155, 3) := by decide +kernel
theorem dX10_moveIn_29 : decode cX10_moveIn 29 = .ok (.aload_n 0, 1) := by decide +kernel
theorem dX10_moveIn_30 : decode cX10_moveIn 30 = .ok (.getfield 32, 3) := by decide +kernel
theorem dX10_moveIn_33 : decode cX10_moveIn 33 = .ok (.aload_n 0, 1) := by decide +kernel
theorem dX10_moveIn_34 : decode cX10_moveIn 34 = .ok (.getfield 23, 3) := by decide +kernel
theorem dX10_moveIn_37 : decode cX10_moveIn 37 = .ok (.iconst 0, 1) := by decide +kernel
theorem dX10_moveIn_38 : decode cX10_moveIn 38 = .ok (.invokevirtual 159, 3) := by decide +kernel
theorem dX10_moveIn_41 : decode cX10_moveIn 41 = .ok (.aload_n 0, 1) := by decide +kernel
theorem dX10_moveIn_42 : decode cX10_moveIn 42 = .ok (.iconst 0, 1) := by decide +kernel
theorem dX10_moveIn_43 : decode cX10_moveIn 43 = .ok (.putfield 242, 3) := by decide +kernel
theorem dX10_moveIn_46 : decode cX10_moveIn 46 = .ok (.aload_n 0, 1) := by decide +kernel
theorem dX10_moveIn_47 : decode cX10_moveIn 47 = .ok (.getfield 43, 3) := by decide +kernel
theorem dX10_moveIn_50 : decode cX10_moveIn 50 = .ok (.iconst 0, 1) := by decide +kernel
theorem dX10_moveIn_51 : decode cX10_moveIn 51 = .ok (.putfield 256, 3) := by decide +kernel
theorem dX10_moveIn_54 : decode cX10_moveIn 54 = .ok (.aload_n 0, 1) := by decide +kernel
theorem dX10_moveIn_55 : decode cX10_moveIn 55 = .ok (.getfield 50, 3) := by decide +kernel
theorem dX10_moveIn_58 : decode cX10_moveIn 58 = .ok (.aload_n 0, 1) := by decide +kernel
theorem dX10_moveIn_59 : decode cX10_moveIn 59 = .ok (.getfield 19, 3) := by decide +kernel
theorem dX10_moveIn_62 : decode cX10_moveIn 62 = .ok (.invokevirtual 329, 3) := by decide +kernel
theorem dX10_moveIn_65 : decode cX10_moveIn 65 = .ok (.return_, 1) := by decide +kernel
theorem dX8_roomToward_0 : decode cX8_roomToward 0 = .ok (.aload_n 0, 1) := by decide +kernel
theorem dX8_roomToward_1 : decode cX8_roomToward 1 = .ok (.iload_n 1, 1) := by decide +kernel
theorem dX8_roomToward_2 : decode cX8_roomToward 2 = .ok (.iload_n 2, 1) := by decide +kernel
theorem dX8_roomToward_3 : decode cX8_roomToward 3 = .ok (.invokevirtual 45, 3) := by decide +kernel
theorem dX8_roomToward_6 : decode cX8_roomToward 6 = .ok (.iconst 1, 1) := by decide +kernel
theorem dX8_roomToward_7 : decode cX8_roomToward 7 = .ok (.isub, 1) := by decide +kernel
theorem dX8_roomToward_8 : decode cX8_roomToward 8 = .ok (.istore_n 3, 1) := by decide +kernel
theorem dX8_roomToward_9 : decode cX8_roomToward 9 = .ok (.iconst 0, 1) := by decide +kernel
theorem dX8_roomToward_10 : decode cX8_roomToward 10 = .ok (.istore 4, 2) := by decide +kernel
theorem dX8_roomToward_12 : decode cX8_roomToward 12 = .ok (.iload 4, 2) := by decide +kernel
theorem dX8_roomToward_14 : decode cX8_roomToward 14 = .ok (.aload_n 0, 1) := by decide +kernel
theorem dX8_roomToward_15 : decode cX8_roomToward 15 = .ok (.getfield 21, 3) := by decide +kernel
theorem dX8_roomToward_18 : decode cX8_roomToward 18 = .ok (.if_icmp .ge 34, 3) := by decide +kernel
theorem dX8_roomToward_21 : decode cX8_roomToward 21 = .ok (.aload_n 0, 1) := by decide +kernel
theorem dX8_roomToward_22 : decode cX8_roomToward 22 = .ok (.iload_n 1, 1) := by decide +kernel
theorem dX8_roomToward_23 : decode cX8_roomToward 23 = .ok (.iload 4, 2) := by decide +kernel
theorem dX8_roomToward_25 : decode cX8_roomToward 25 = .ok (.invokevirtual 45, 3) := by decide +kernel
theorem dX8_roomToward_28 : decode cX8_roomToward 28 = .ok (.iconst 1, 1) := by decide +kernel
theorem dX8_roomToward_29 : decode cX8_roomToward 29 = .ok (.if_icmp .ne 17, 3) := by decide +kernel
theorem dX8_roomToward_32 : decode cX8_roomToward 32 = .ok (.aload_n 0, 1) := by decide +kernel
theorem dX8_roomToward_33 : decode cX8_roomToward 33 = .ok (.iload 4, 2) := by decide +kernel
theorem dX8_roomToward_35 : decode cX8_roomToward 35 = .ok (.iload_n 2, 1) := by decide +kernel
theorem dX8_roomToward_36 : decode cX8_roomToward 36 = .ok (.invokevirtual 45, 3) := by decide +kernel
theorem dX8_roomToward_39 : decode cX8_roomToward 39 = .ok (.iload_n 3, 1) := by decide +kernel
theorem dX8_roomToward_40 : decode cX8_roomToward 40 = .ok (.if_icmp .ne 6, 3) := by decide +kernel
theorem dX8_roomToward_43 : decode cX8_roomToward 43 = .ok (.iload 4, 2) := by decide +kernel
theorem dX8_roomToward_45 : decode cX8_roomToward 45 = .ok (.ireturn, 1) := by decide +kernel
theorem dX8_roomToward_46 : decode cX8_roomToward 46 = .ok (.iinc 4 1, 3) := by decide +kernel
theorem dX8_roomToward_49 : decode cX8_roomToward 49 = .ok (.goto (-37), 3) := by decide +kernel
theorem dX8_roomToward_52 : decode cX8_roomToward 52 = .ok (.iconst (-1), 1) := by decide +kernel
theorem dX8_roomToward_53 : decode cX8_roomToward 53 = .ok (.ireturn, 1) := by decide +kernel
theorem dX4_creakIn_0 : decode cX4_creakIn 0 = .ok (.iconst 0, 1) := by decide +kernel
theorem dX4_creakIn_1 : decode cX4_creakIn 1 = .ok (.istore_n 2, 1) := by decide +kernel
theorem dX4_creakIn_2 : decode cX4_creakIn 2 = .ok (.iload_n 2, 1) := by decide +kernel
theorem dX4_creakIn_3 : decode cX4_creakIn 3 = .ok (.aload_n 0, 1) := by decide +kernel
theorem dX4_creakIn_4 : decode cX4_creakIn 4 = .ok (.getfield 51, 3) := by decide +kernel
theorem dX4_creakIn_7 : decode cX4_creakIn 7 = .ok (.getfield 156, 3) := by decide +kernel
theorem dX4_creakIn_10 : decode cX4_creakIn 10 = .ok (.if_icmp .ge 62, 3) := by decide +kernel
theorem dX4_creakIn_13 : decode cX4_creakIn 13 = .ok (.aload_n 0, 1) := by decide +kernel
theorem dX4_creakIn_14 : decode cX4_creakIn 14 = .ok (.getfield 51, 3) := by decide +kernel
theorem dX4_creakIn_17 : decode cX4_creakIn 17 = .ok (.getfield 59, 3) := by decide +kernel
theorem dX4_creakIn_20 : decode cX4_creakIn 20 = .ok (.getfield 159, 3) := by decide +kernel
theorem dX4_creakIn_23 : decode cX4_creakIn 23 = .ok (.iload_n 1, 1) := by decide +kernel
theorem dX4_creakIn_24 : decode cX4_creakIn 24 = .ok (.iaload, 1) := by decide +kernel
theorem dX4_creakIn_25 : decode cX4_creakIn 25 = .ok (.aload_n 0, 1) := by decide +kernel
theorem dX4_creakIn_26 : decode cX4_creakIn 26 = .ok (.getfield 51, 3) := by decide +kernel
theorem dX4_creakIn_29 : decode cX4_creakIn 29 = .ok (.getfield 59, 3) := by decide +kernel
theorem dX4_creakIn_32 : decode cX4_creakIn 32 = .ok (.getfield 162, 3) := by decide +kernel
theorem dX4_creakIn_35 : decode cX4_creakIn 35 = .ok (.iload_n 1, 1) := by decide +kernel
theorem dX4_creakIn_36 : decode cX4_creakIn 36 = .ok (.aload_n 0, 1) := by decide +kernel
theorem dX4_creakIn_37 : decode cX4_creakIn 37 = .ok (.getfield 51, 3) := by decide +kernel
theorem dX4_creakIn_40 : decode cX4_creakIn 40 = .ok (.getfield 163, 3) := by decide +kernel
theorem dX4_creakIn_43 : decode cX4_creakIn 43 = .ok (.iload_n 2, 1) := by decide +kernel
theorem dX4_creakIn_44 : decode cX4_creakIn 44 = .ok (.iaload, 1) := by decide +kernel
theorem dX4_creakIn_45 : decode cX4_creakIn 45 = .ok (.invokevirtual 166, 3) := by decide +kernel
theorem dX4_creakIn_48 : decode cX4_creakIn 48 = .ok (.if_icmp .le 18, 3) := by decide +kernel
theorem dX4_creakIn_51 : decode cX4_creakIn 51 = .ok (.aload_n 0, 1) := by decide +kernel
theorem dX4_creakIn_52 : decode cX4_creakIn 52 = .ok (.getfield 47, 3) := by decide +kernel
theorem dX4_creakIn_55 : decode cX4_creakIn 55 = .ok (.iload_n 2, 1) := by decide +kernel
theorem dX4_creakIn_56 : decode cX4_creakIn 56 = .ok (.dup2, 1) := by decide +kernel
theorem dX4_creakIn_57 : decode cX4_creakIn 57 = .ok (.laload, 1) := by decide +kernel
theorem dX4_creakIn_58 : decode cX4_creakIn 58 = .ok (.lconst 1, 1) := by decide +kernel
theorem dX4_creakIn_59 : decode cX4_creakIn 59 = .ok (.aload_n 0, 1) := by decide +kernel
theorem dX4_creakIn_60 : decode cX4_creakIn 60 = .ok (.getfield 73, 3) := by decide +kernel
theorem dX4_creakIn_63 : decode cX4_creakIn 63 = .ok (.lshl, 1) := by decide +kernel
theorem dX4_creakIn_64 : decode cX4_creakIn 64 = .ok (.lor, 1) := by decide +kernel
theorem dX4_creakIn_65 : decode cX4_creakIn 65 = .ok (.lastore, 1) := by decide +kernel
theorem dX4_creakIn_66 : decode cX4_creakIn 66 = .ok (.iinc 2 1, 3) := by decide +kernel
theorem dX4_creakIn_69 : decode cX4_creakIn 69 = .ok (.goto (-67), 3) := by decide +kernel
theorem dX4_creakIn_72 : decode cX4_creakIn 72 = .ok (.return_, 1) := by decide +kernel
theorem dX4_isAsleepIn_0 : decode cX4_isAsleepIn 0 = .ok (.aload_n 0, 1) := by decide +kernel
theorem dX4_isAsleepIn_1 : decode cX4_isAsleepIn 1 = .ok (.getfield 31, 3) := by decide +kernel
theorem dX4_isAsleepIn_4 : decode cX4_isAsleepIn 4 = .ok (.iload_n 1, 1) := by decide +kernel
theorem dX4_isAsleepIn_5 : decode cX4_isAsleepIn 5 = .ok (.iaload, 1) := by decide +kernel
theorem dX4_isAsleepIn_6 : decode cX4_isAsleepIn 6 = .ok (.iload_n 2, 1) := by decide +kernel
theorem dX4_isAsleepIn_7 : decode cX4_isAsleepIn 7 = .ok (.if_icmp .ne 16, 3) := by decide +kernel
theorem dX4_isAsleepIn_10 : decode cX4_isAsleepIn 10 = .ok (.aload_n 0, 1) := by decide +kernel
theorem dX4_isAsleepIn_11 : decode cX4_isAsleepIn 11 = .ok (.getfield 37, 3) := by decide +kernel
theorem dX4_isAsleepIn_14 : decode cX4_isAsleepIn 14 = .ok (.iload_n 1, 1) := by decide +kernel
theorem dX4_isAsleepIn_15 : decode cX4_isAsleepIn 15 = .ok (.baload, 1) := by decide +kernel
theorem dX4_isAsleepIn_16 : decode cX4_isAsleepIn 16 = .ok (.ifCond .ne 7, 3) := by decide +kernel
theorem dX4_isAsleepIn_19 : decode cX4_isAsleepIn 19 = .ok (.iconst 1, 1) := by decide +kernel
theorem dX4_isAsleepIn_20 : decode cX4_isAsleepIn 20 = .ok (.goto 4, 3) := by decide +kernel
theorem dX4_isAsleepIn_23 : decode cX4_isAsleepIn 23 = .ok (.iconst 0, 1) := by decide +kernel
theorem dX4_isAsleepIn_24 : decode cX4_isAsleepIn 24 = .ok (.ireturn, 1) := by decide +kernel
theorem dX10_bit_0 : decode cX10_bit 0 = .ok (.iload_n 0, 1) := by decide +kernel
theorem dX10_bit_1 : decode cX10_bit 1 = .ok (.ifCond .eq 7, 3) := by decide +kernel
theorem dX10_bit_4 : decode cX10_bit 4 = .ok (.iconst 1, 1) := by decide +kernel
theorem dX10_bit_5 : decode cX10_bit 5 = .ok (.goto 4, 3) := by decide +kernel
theorem dX10_bit_8 : decode cX10_bit 8 = .ok (.iconst 0, 1) := by decide +kernel
theorem dX10_bit_9 : decode cX10_bit 9 = .ok (.ireturn, 1) := by decide +kernel
theorem dX4_meetIn_0 : decode cX4_meetIn 0 = .ok (.iconst 0, 1) := by decide +kernel
theorem dX4_meetIn_1 : decode cX4_meetIn 1 = .ok (.istore_n 2, 1) := by decide +kernel
theorem dX4_meetIn_2 : decode cX4_meetIn 2 = .ok (.iconst 0, 1) := by decide +kernel
theorem dX4_meetIn_3 : decode cX4_meetIn 3 = .ok (.istore_n 3, 1) := by decide +kernel
theorem dX4_meetIn_4 : decode cX4_meetIn 4 = .ok (.iload_n 3, 1) := by decide +kernel
theorem dX4_meetIn_5 : decode cX4_meetIn 5 = .ok (.aload_n 0, 1) := by decide +kernel
theorem dX4_meetIn_6 : decode cX4_meetIn 6 = .ok (.getfield 51, 3) := by decide +kernel
theorem dX4_meetIn_9 : decode cX4_meetIn 9 = .ok (.getfield 85, 3) := by decide +kernel
theorem dX4_meetIn_12 : decode cX4_meetIn 12 = .ok (.if_icmp .ge 21, 3) := by decide +kernel
theorem dX4_meetIn_15 : decode cX4_meetIn 15 = .ok (.iload_n 2, 1) := by decide +kernel
theorem dX4_meetIn_16 : decode cX4_meetIn 16 = .ok (.aload_n 0, 1) := by decide +kernel
theorem dX4_meetIn_17 : decode cX4_meetIn 17 = .ok (.iload_n 3, 1) := by decide +kernel
theorem dX4_meetIn_18 : decode cX4_meetIn 18 = .ok (.iload_n 1, 1) := by decide +kernel
theorem dX4_meetIn_19 : decode cX4_meetIn 19 = .ok (.invokevirtual 169, 3) := by decide +kernel
theorem dX4_meetIn_22 : decode cX4_meetIn 22 = .ok (.invokestatic 172, 3) := by decide +kernel
theorem dX4_meetIn_25 : decode cX4_meetIn 25 = .ok (.iadd, 1) := by decide +kernel
theorem dX4_meetIn_26 : decode cX4_meetIn 26 = .ok (.istore_n 2, 1) := by decide +kernel
theorem dX4_meetIn_27 : decode cX4_meetIn 27 = .ok (.iinc 3 1, 3) := by decide +kernel
theorem dX4_meetIn_30 : decode cX4_meetIn 30 = .ok (.goto (-26), 3) := by decide +kernel
theorem dX4_meetIn_33 : decode cX4_meetIn 33 = .ok (.iconst 0, 1) := by decide +kernel
theorem dX4_meetIn_34 : decode cX4_meetIn 34 = .ok (.istore_n 3, 1) := by decide +kernel
theorem dX4_meetIn_35 : decode cX4_meetIn 35 = .ok (.iload_n 3, 1) := by decide +kernel
theorem dX4_meetIn_36 : decode cX4_meetIn 36 = .ok (.aload_n 0, 1) := by decide +kernel
theorem dX4_meetIn_37 : decode cX4_meetIn 37 = .ok (.getfield 51, 3) := by decide +kernel
theorem dX4_meetIn_40 : decode cX4_meetIn 40 = .ok (.getfield 85, 3) := by decide +kernel
theorem dX4_meetIn_43 : decode cX4_meetIn 43 = .ok (.if_icmp .ge 58, 3) := by decide +kernel
theorem dX4_meetIn_46 : decode cX4_meetIn 46 = .ok (.iload_n 2, 1) := by decide +kernel
theorem dX4_meetIn_47 : decode cX4_meetIn 47 = .ok (.iconst 1, 1) := by decide +kernel
theorem dX4_meetIn_48 : decode cX4_meetIn 48 = .ok (.if_icmp .le 53, 3) := by decide +kernel
theorem dX4_meetIn_51 : decode cX4_meetIn 51 = .ok (.aload_n 0, 1) := by decide +kernel
theorem dX4_meetIn_52 : decode cX4_meetIn 52 = .ok (.getfield 51, 3) := by decide +kernel
theorem dX4_meetIn_55 : decode cX4_meetIn 55 = .ok (.aload_n 0, 1) := by decide +kernel
theorem dX4_meetIn_56 : decode cX4_meetIn 56 = .ok (.getfield 25, 3) := by decide +kernel
theorem dX4_meetIn_59 : decode cX4_meetIn 59 = .ok (.iload_n 3, 1) := by decide +kernel
theorem dX4_meetIn_60 : decode cX4_meetIn 60 = .ok (.iaload, 1) := by decide +kernel
theorem dX4_meetIn_61 : decode cX4_meetIn 61 = .ok (.aload_n 0, 1) := by decide +kernel
theorem dX4_meetIn_62 : decode cX4_meetIn 62 = .ok (.getfield 28, 3) := by decide +kernel
theorem dX4_meetIn_65 : decode cX4_meetIn 65 = .ok (.iload_n 3, 1) := by decide +kernel
theorem dX4_meetIn_66 : decode cX4_meetIn 66 = .ok (.iaload, 1) := by decide +kernel
theorem dX4_meetIn_67 : decode cX4_meetIn 67 = .ok (.iconst 3, 1) := by decide +kernel
theorem dX4_meetIn_68 : decode cX4_meetIn 68 = .ok (.invokevirtual 117, 3) := by decide +kernel
theorem dX4_meetIn_71 : decode cX4_meetIn 71 = .ok (.istore 4, 2) := by decide +kernel
theorem dX4_meetIn_73 : decode cX4_meetIn 73 = .ok (.aload_n 0, 1) := by decide +kernel
theorem dX4_meetIn_74 : decode cX4_meetIn 74 = .ok (.iload_n 3, 1) := by decide +kernel
theorem dX4_meetIn_75 : decode cX4_meetIn 75 = .ok (.iload_n 1, 1) := by decide +kernel
theorem dX4_meetIn_76 : decode cX4_meetIn 76 = .ok (.invokevirtual 169, 3) := by decide +kernel
theorem dX4_meetIn_79 : decode cX4_meetIn 79 = .ok (.ifCond .eq 16, 3) := by decide +kernel
theorem dX4_meetIn_82 : decode cX4_meetIn 82 = .ok (.iload 4, 2) := by decide +kernel
theorem dX4_meetIn_84 : decode cX4_meetIn 84 = .ok (.ifCond .lt 11, 3) := by decide +kernel
theorem dX4_meetIn_87 : decode cX4_meetIn 87 = .ok (.aload_n 0, 1) := by decide +kernel
theorem dX4_meetIn_88 : decode cX4_meetIn 88 = .ok (.getfield 28, 3) := by decide +kernel
theorem dX4_meetIn_91 : decode cX4_meetIn 91 = .ok (.iload_n 3, 1) := by decide +kernel
theorem dX4_meetIn_92 : decode cX4_meetIn 92 = .ok (.iload 4, 2) := by decide +kernel
theorem dX4_meetIn_94 : decode cX4_meetIn 94 = .ok (.iastore, 1) := by decide +kernel
theorem dX4_meetIn_95 : decode cX4_meetIn 95 = .ok (.iinc 3 1, 3) := by decide +kernel
theorem dX4_meetIn_98 : decode cX4_meetIn 98 = .ok (.goto (-63), 3) := by decide +kernel
theorem dX4_meetIn_101 : decode cX4_meetIn 101 = .ok (.return_, 1) := by decide +kernel
theorem dX4_goToward_0 : decode cX4_goToward 0 = .ok (.aload_n 0, 1) := by decide +kernel
theorem dX4_goToward_1 : decode cX4_goToward 1 = .ok (.getfield 12, 3) := by decide +kernel
theorem dX4_goToward_4 : decode cX4_goToward 4 = .ok (.aload_n 0, 1) := by decide +kernel
theorem dX4_goToward_5 : decode cX4_goToward 5 = .ok (.getfield 31, 3) := by decide +kernel
theorem dX4_goToward_8 : decode cX4_goToward 8 = .ok (.iload_n 1, 1) := by decide +kernel
theorem dX4_goToward_9 : decode cX4_goToward 9 = .ok (.iaload, 1) := by decide +kernel
theorem dX4_goToward_10 : decode cX4_goToward 10 = .ok (.iload_n 2, 1) := by decide +kernel
theorem dX4_goToward_11 : decode cX4_goToward 11 = .ok (.invokevirtual 138, 3) := by decide +kernel
theorem dX4_goToward_14 : decode cX4_goToward 14 = .ok (.istore_n 3, 1) := by decide +kernel
theorem dX4_goToward_15 : decode cX4_goToward 15 = .ok (.iload_n 3, 1) := by decide +kernel
theorem dX4_goToward_16 : decode cX4_goToward 16 = .ok (.iconst (-1), 1) := by decide +kernel
theorem dX4_goToward_17 : decode cX4_goToward 17 = .ok (.if_icmp .ne 4, 3) := by decide +kernel
theorem dX4_goToward_20 : decode cX4_goToward 20 = .ok (.return_, 1) := by decide +kernel
theorem dX4_goToward_21 : decode cX4_goToward 21 = .ok (.aload_n 0, 1) := by decide +kernel
theorem dX4_goToward_22 : decode cX4_goToward 22 = .ok (.getfield 51, 3) := by decide +kernel
theorem dX4_goToward_25 : decode cX4_goToward 25 = .ok (.getfield 59, 3) := by decide +kernel
theorem dX4_goToward_28 : decode cX4_goToward 28 = .ok (.aload_n 0, 1) := by decide +kernel
theorem dX4_goToward_29 : decode cX4_goToward 29 = .ok (.getfield 31, 3) := by decide +kernel
theorem dX4_goToward_32 : decode cX4_goToward 32 = .ok (.iload_n 1, 1) := by decide +kernel
theorem dX4_goToward_33 : decode cX4_goToward 33 = .ok (.iaload, 1) := by decide +kernel
theorem dX4_goToward_34 : decode cX4_goToward 34 = .ok (.iload_n 3, 1) := by decide +kernel
theorem dX4_goToward_35 : decode cX4_goToward 35 = .ok (.invokevirtual 141, 3) := by decide +kernel
theorem dX4_goToward_38 : decode cX4_goToward 38 = .ok (.istore 4, 2) := by decide +kernel
theorem dX4_goToward_40 : decode cX4_goToward 40 = .ok (.iload 4, 2) := by decide +kernel
theorem dX4_goToward_42 : decode cX4_goToward 42 = .ok (.ifCond .lt 42, 3) := by decide +kernel
theorem dX4_goToward_45 : decode cX4_goToward 45 = .ok (.aload_n 0, 1) := by decide +kernel
theorem dX4_goToward_46 : decode cX4_goToward 46 = .ok (.getfield 18, 3) := by decide +kernel
theorem dX4_goToward_49 : decode cX4_goToward 49 = .ok (.iload 4, 2) := by decide +kernel
theorem dX4_goToward_51 : decode cX4_goToward 51 = .ok (.aload_n 0, 1) := by decide +kernel
theorem dX4_goToward_52 : decode cX4_goToward 52 = .ok (.getfield 51, 3) := by decide +kernel
theorem dX4_goToward_55 : decode cX4_goToward 55 = .ok (.getfield 59, 3) := by decide +kernel
theorem dX4_goToward_58 : decode cX4_goToward 58 = .ok (.getfield 144, 3) := by decide +kernel
theorem dX4_goToward_61 : decode cX4_goToward 61 = .ok (.iload 4, 2) := by decide +kernel
theorem dX4_goToward_63 : decode cX4_goToward 63 = .ok (.baload, 1) := by decide +kernel
theorem dX4_goToward_64 : decode cX4_goToward 64 = .ok (.ifCond .eq 7, 3) := by decide +kernel
theorem dX4_goToward_67 : decode cX4_goToward 67 = .ok (.iconst 1, 1) := by decide +kernel
theorem dX4_goToward_68 : decode cX4_goToward 68 = .ok (.goto 4, 3) := by decide +kernel
theorem dX4_goToward_71 : decode cX4_goToward 71 = .ok (.iconst 0, 1) := by decide +kernel
theorem dX4_goToward_72 : decode cX4_goToward 72 = .ok (.iastore, 1) := by decide +kernel
theorem dX4_goToward_73 : decode cX4_goToward 73 = .ok (.aload_n 0, 1) := by decide +kernel
theorem dX4_goToward_74 : decode cX4_goToward 74 = .ok (.getfield 22, 3) := by decide +kernel
theorem dX4_goToward_77 : decode cX4_goToward 77 = .ok (.iload 4, 2) := by decide +kernel
theorem dX4_goToward_79 : decode cX4_goToward 79 = .ok (.dup2, 1) := by decide +kernel
theorem dX4_goToward_80 : decode cX4_goToward 80 = .ok (.iaload, 1) := by decide +kernel
theorem dX4_goToward_81 : decode cX4_goToward 81 = .ok (.iconst 1, 1) := by decide +kernel
theorem dX4_goToward_82 : decode cX4_goToward 82 = .ok (.iadd, 1) := by decide +kernel
theorem dX4_goToward_83 : decode cX4_goToward 83 = .ok (.iastore, 1) := by decide +kernel
theorem dX4_goToward_84 : decode cX4_goToward 84 = .ok (.aload_n 0, 1) := by decide +kernel
theorem dX4_goToward_85 : decode cX4_goToward 85 = .ok (.getfield 31, 3) := by decide +kernel
theorem dX4_goToward_88 : decode cX4_goToward 88 = .ok (.iload_n 1, 1) := by decide +kernel
theorem dX4_goToward_89 : decode cX4_goToward 89 = .ok (.iload_n 3, 1) := by decide +kernel
theorem dX4_goToward_90 : decode cX4_goToward 90 = .ok (.iastore, 1) := by decide +kernel
theorem dX4_goToward_91 : decode cX4_goToward 91 = .ok (.aload_n 0, 1) := by decide +kernel
theorem dX4_goToward_92 : decode cX4_goToward 92 = .ok (.getfield 34, 3) := by decide +kernel
theorem dX4_goToward_95 : decode cX4_goToward 95 = .ok (.iload_n 1, 1) := by decide +kernel
theorem dX4_goToward_96 : decode cX4_goToward 96 = .ok (.iaload, 1) := by decide +kernel
theorem dX4_goToward_97 : decode cX4_goToward 97 = .ok (.ifCond .lt 15, 3) := by decide +kernel
theorem dX4_goToward_100 : decode cX4_goToward 100 = .ok (.aload_n 0, 1) := by decide +kernel
theorem dX4_goToward_101 : decode cX4_goToward 101 = .ok (.getfield 41, 3) := by decide +kernel
theorem dX4_goToward_104 : decode cX4_goToward 104 = .ok (.aload_n 0, 1) := by decide +kernel
theorem dX4_goToward_105 : decode cX4_goToward 105 = .ok (.getfield 34, 3) := by decide +kernel
theorem dX4_goToward_108 : decode cX4_goToward 108 = .ok (.iload_n 1, 1) := by decide +kernel
theorem dX4_goToward_109 : decode cX4_goToward 109 = .ok (.iaload, 1) := by decide +kernel
theorem dX4_goToward_110 : decode cX4_goToward 110 = .ok (.iload_n 3, 1) := by decide +kernel
theorem dX4_goToward_111 : decode cX4_goToward 111 = .ok (.iastore, 1) := by decide +kernel
theorem dX4_goToward_112 : decode cX4_goToward 112 = .ok (.aload_n 0, 1) := by decide +kernel
theorem dX4_goToward_113 : decode cX4_goToward 113 = .ok (.iload_n 3, 1) := by decide +kernel
theorem dX4_goToward_114 : decode cX4_goToward 114 = .ok (.invokevirtual 147, 3) := by decide +kernel
theorem dX4_goToward_117 : decode cX4_goToward 117 = .ok (.aload_n 0, 1) := by decide +kernel
theorem dX4_goToward_118 : decode cX4_goToward 118 = .ok (.getfield 51, 3) := by decide +kernel
theorem dX4_goToward_121 : decode cX4_goToward 121 = .ok (.getfield 59, 3) := by decide +kernel
theorem dX4_goToward_124 : decode cX4_goToward 124 = .ok (.getfield 150, 3) := by decide +kernel
theorem dX4_goToward_127 : decode cX4_goToward 127 = .ok (.iload_n 3, 1) := by decide +kernel
theorem dX4_goToward_128 : decode cX4_goToward 128 = .ok (.baload, 1) := by decide +kernel
theorem dX4_goToward_129 : decode cX4_goToward 129 = .ok (.ifCond .eq 13, 3) := by decide +kernel
theorem dX4_goToward_132 : decode cX4_goToward 132 = .ok (.aload_n 0, 1) := by decide +kernel
theorem dX4_goToward_133 : decode cX4_goToward 133 = .ok (.getfield 37, 3) := by decide +kernel
theorem dX4_goToward_136 : decode cX4_goToward 136 = .ok (.iload_n 1, 1) := by decide +kernel
theorem dX4_goToward_137 : decode cX4_goToward 137 = .ok (.iconst 1, 1) := by decide +kernel
theorem dX4_goToward_138 : decode cX4_goToward 138 = .ok (.bastore, 1) := by decide +kernel
theorem dX4_goToward_139 : decode cX4_goToward 139 = .ok (.goto 8, 3) := by decide +kernel
theorem dX4_goToward_142 : decode cX4_goToward 142 = .ok (.aload_n 0, 1) := by decide +kernel
theorem dX4_goToward_143 : decode cX4_goToward 143 = .ok (.iload_n 3, 1) := by decide +kernel
theorem dX4_goToward_144 : decode cX4_goToward 144 = .ok (.invokevirtual 153, 3) := by decide +kernel
theorem dX4_goToward_147 : decode cX4_goToward 147 = .ok (.return_, 1) := by decide +kernel
theorem dX4_holderOf_0 : decode cX4_holderOf 0 = .ok (.iconst 0, 1) := by decide +kernel
theorem dX4_holderOf_1 : decode cX4_holderOf 1 = .ok (.istore_n 2, 1) := by decide +kernel
theorem dX4_holderOf_2 : decode cX4_holderOf 2 = .ok (.iload_n 2, 1) := by decide +kernel
theorem dX4_holderOf_3 : decode cX4_holderOf 3 = .ok (.aload_n 0, 1) := by decide +kernel
theorem dX4_holderOf_4 : decode cX4_holderOf 4 = .ok (.getfield 51, 3) := by decide +kernel
theorem dX4_holderOf_7 : decode cX4_holderOf 7 = .ok (.getfield 85, 3) := by decide +kernel
theorem dX4_holderOf_10 : decode cX4_holderOf 10 = .ok (.if_icmp .ge 21, 3) := by decide +kernel
theorem dX4_holderOf_13 : decode cX4_holderOf 13 = .ok (.aload_n 0, 1) := by decide +kernel
theorem dX4_holderOf_14 : decode cX4_holderOf 14 = .ok (.getfield 34, 3) := by decide +kernel
theorem dX4_holderOf_17 : decode cX4_holderOf 17 = .ok (.iload_n 2, 1) := by decide +kernel
theorem dX4_holderOf_18 : decode cX4_holderOf 18 = .ok (.iaload, 1) := by decide +kernel
theorem dX4_holderOf_19 : decode cX4_holderOf 19 = .ok (.iload_n 1, 1) := by decide +kernel
theorem dX4_holderOf_20 : decode cX4_holderOf 20 = .ok (.if_icmp .ne 5, 3) := by decide +kernel
theorem dX4_holderOf_23 : decode cX4_holderOf 23 = .ok (.iload_n 2, 1) := by decide +kernel
theorem dX4_holderOf_24 : decode cX4_holderOf 24 = .ok (.ireturn, 1) := by decide +kernel
theorem dX4_holderOf_25 : decode cX4_holderOf 25 = .ok (.iinc 2 1, 3) := by decide +kernel
theorem dX4_holderOf_28 : decode cX4_holderOf 28 = .ok (.goto (-26), 3) := by decide +kernel
theorem dX4_holderOf_31 : decode cX4_holderOf 31 = .ok (.bipush (-2), 2) := by decide +kernel
theorem dX4_holderOf_33 : decode cX4_holderOf 33 = .ok (.ireturn, 1) := by decide +kernel
theorem dX4_takes_0 : decode cX4_takes 0 = .ok (.aload_n 0, 1) := by decide +kernel
theorem dX4_takes_1 : decode cX4_takes 1 = .ok (.getfield 41, 3) := by decide +kernel
theorem dX4_takes_4 : decode cX4_takes 4 = .ok (.iload_n 2, 1) := by decide +kernel
theorem dX4_takes_5 : decode cX4_takes 5 = .ok (.iaload, 1) := by decide +kernel
theorem dX4_takes_6 : decode cX4_takes 6 = .ok (.aload_n 0, 1) := by decide +kernel
theorem dX4_takes_7 : decode cX4_takes 7 = .ok (.getfield 31, 3) := by decide +kernel
theorem dX4_takes_10 : decode cX4_takes 10 = .ok (.iload_n 1, 1) := by decide +kernel
theorem dX4_takes_11 : decode cX4_takes 11 = .ok (.iaload, 1) := by decide +kernel
theorem dX4_takes_12 : decode cX4_takes 12 = .ok (.if_icmp .ne 24, 3) := by decide +kernel
theorem dX4_takes_15 : decode cX4_takes 15 = .ok (.aload_n 0, 1) := by decide +kernel
theorem dX4_takes_16 : decode cX4_takes 16 = .ok (.getfield 34, 3) := by decide +kernel
theorem dX4_takes_19 : decode cX4_takes 19 = .ok (.iload_n 1, 1) := by decide +kernel
theorem dX4_takes_20 : decode cX4_takes 20 = .ok (.iaload, 1) := by decide +kernel
theorem dX4_takes_21 : decode cX4_takes 21 = .ok (.bipush (-2), 2) := by decide +kernel
theorem dX4_takes_23 : decode cX4_takes 23 = .ok (.if_icmp .ne 13, 3) := by decide +kernel
theorem dX4_takes_26 : decode cX4_takes 26 = .ok (.aload_n 0, 1) := by decide +kernel
theorem dX4_takes_27 : decode cX4_takes 27 = .ok (.iload_n 2, 1) := by decide +kernel
theorem dX4_takes_28 : decode cX4_takes 28 = .ok (.invokevirtual 176, 3) := by decide +kernel
theorem dX4_takes_31 : decode cX4_takes 31 = .ok (.bipush (-2), 2) := by decide +kernel
theorem dX4_takes_33 : decode cX4_takes 33 = .ok (.if_icmp .eq 5, 3) := by decide +kernel
theorem dX4_takes_36 : decode cX4_takes 36 = .ok (.iconst 0, 1) := by decide +kernel
theorem dX4_takes_37 : decode cX4_takes 37 = .ok (.ireturn, 1) := by decide +kernel
theorem dX4_takes_38 : decode cX4_takes 38 = .ok (.aload_n 0, 1) := by decide +kernel
theorem dX4_takes_39 : decode cX4_takes 39 = .ok (.getfield 34, 3) := by decide +kernel
theorem dX4_takes_42 : decode cX4_takes 42 = .ok (.iload_n 1, 1) := by decide +kernel
theorem dX4_takes_43 : decode cX4_takes 43 = .ok (.iload_n 2, 1) := by decide +kernel
theorem dX4_takes_44 : decode cX4_takes 44 = .ok (.iastore, 1) := by decide +kernel
theorem dX4_takes_45 : decode cX4_takes 45 = .ok (.iconst 1, 1) := by decide +kernel
theorem dX4_takes_46 : decode cX4_takes 46 = .ok (.ireturn, 1) := by decide +kernel
theorem dX4_puts_0 : decode cX4_puts 0 = .ok (.aload_n 0, 1) := by decide +kernel
theorem dX4_puts_1 : decode cX4_puts 1 = .ok (.getfield 34, 3) := by decide +kernel
theorem dX4_puts_4 : decode cX4_puts 4 = .ok (.iload_n 1, 1) := by decide +kernel
theorem dX4_puts_5 : decode cX4_puts 5 = .ok (.iaload, 1) := by decide +kernel
theorem dX4_puts_6 : decode cX4_puts 6 = .ok (.bipush (-2), 2) := by decide +kernel
theorem dX4_puts_8 : decode cX4_puts 8 = .ok (.if_icmp .eq 7, 3) := by decide +kernel
theorem dX4_puts_11 : decode cX4_puts 11 = .ok (.iconst 1, 1) := by decide +kernel
theorem dX4_puts_12 : decode cX4_puts 12 = .ok (.goto 4, 3) := by decide +kernel
theorem dX4_puts_15 : decode cX4_puts 15 = .ok (.iconst 0, 1) := by decide +kernel
theorem dX4_puts_16 : decode cX4_puts 16 = .ok (.istore_n 2, 1) := by decide +kernel
theorem dX4_puts_17 : decode cX4_puts 17 = .ok (.aload_n 0, 1) := by decide +kernel
theorem dX4_puts_18 : decode cX4_puts 18 = .ok (.getfield 34, 3) := by decide +kernel
theorem dX4_puts_21 : decode cX4_puts 21 = .ok (.iload_n 1, 1) := by decide +kernel
theorem dX4_puts_22 : decode cX4_puts 22 = .ok (.bipush (-2), 2) := by decide +kernel
theorem dX4_puts_24 : decode cX4_puts 24 = .ok (.iastore, 1) := by decide +kernel
theorem dX4_puts_25 : decode cX4_puts 25 = .ok (.iload_n 2, 1) := by decide +kernel
theorem dX4_puts_26 : decode cX4_puts 26 = .ok (.ireturn, 1) := by decide +kernel
theorem dX4_tips_0 : decode cX4_tips 0 = .ok (.aload_n 0, 1) := by decide +kernel
theorem dX4_tips_1 : decode cX4_tips 1 = .ok (.getfield 41, 3) := by decide +kernel
theorem dX4_tips_4 : decode cX4_tips 4 = .ok (.iload_n 2, 1) := by decide +kernel
theorem dX4_tips_5 : decode cX4_tips 5 = .ok (.iaload, 1) := by decide +kernel
theorem dX4_tips_6 : decode cX4_tips 6 = .ok (.aload_n 0, 1) := by decide +kernel
theorem dX4_tips_7 : decode cX4_tips 7 = .ok (.getfield 31, 3) := by decide +kernel
theorem dX4_tips_10 : decode cX4_tips 10 = .ok (.iload_n 1, 1) := by decide +kernel
theorem dX4_tips_11 : decode cX4_tips 11 = .ok (.iaload, 1) := by decide +kernel
theorem dX4_tips_12 : decode cX4_tips 12 = .ok (.if_icmp .ne 12, 3) := by decide +kernel
theorem dX4_tips_15 : decode cX4_tips 15 = .ok (.aload_n 0, 1) := by decide +kernel
theorem dX4_tips_16 : decode cX4_tips 16 = .ok (.getfield 44, 3) := by decide +kernel
theorem dX4_tips_19 : decode cX4_tips 19 = .ok (.iload_n 2, 1) := by decide +kernel
theorem dX4_tips_20 : decode cX4_tips 20 = .ok (.baload, 1) := by decide +kernel
theorem dX4_tips_21 : decode cX4_tips 21 = .ok (.ifCond .ne 5, 3) := by decide +kernel
theorem dX4_tips_24 : decode cX4_tips 24 = .ok (.iconst 0, 1) := by decide +kernel
theorem dX4_tips_25 : decode cX4_tips 25 = .ok (.ireturn, 1) := by decide +kernel
theorem dX4_tips_26 : decode cX4_tips 26 = .ok (.aload_n 0, 1) := by decide +kernel
theorem dX4_tips_27 : decode cX4_tips 27 = .ok (.getfield 44, 3) := by decide +kernel
theorem dX4_tips_30 : decode cX4_tips 30 = .ok (.iload_n 2, 1) := by decide +kernel
theorem dX4_tips_31 : decode cX4_tips 31 = .ok (.iconst 0, 1) := by decide +kernel
theorem dX4_tips_32 : decode cX4_tips 32 = .ok (.bastore, 1) := by decide +kernel
theorem dX4_tips_33 : decode cX4_tips 33 = .ok (.iconst 1, 1) := by decide +kernel
theorem dX4_tips_34 : decode cX4_tips 34 = .ok (.ireturn, 1) := by decide +kernel
theorem dX4_shuts_0 : decode cX4_shuts 0 = .ok (.aload_n 0, 1) := by decide +kernel
theorem dX4_shuts_1 : decode cX4_shuts 1 = .ok (.getfield 51, 3) := by decide +kernel
theorem dX4_shuts_4 : decode cX4_shuts 4 = .ok (.getfield 59, 3) := by decide +kernel
theorem dX4_shuts_7 : decode cX4_shuts 7 = .ok (.aload_n 0, 1) := by decide +kernel
theorem dX4_shuts_8 : decode cX4_shuts 8 = .ok (.getfield 31, 3) := by decide +kernel
theorem dX4_shuts_11 : decode cX4_shuts 11 = .ok (.iload_n 1, 1) := by decide +kernel
theorem dX4_shuts_12 : decode cX4_shuts 12 = .ok (.iaload, 1) := by decide +kernel
theorem dX4_shuts_13 : decode cX4_shuts 13 = .ok (.iload_n 2, 1) := by decide +kernel
theorem dX4_shuts_14 : decode cX4_shuts 14 = .ok (.invokevirtual 141, 3) := by decide +kernel
theorem dX4_shuts_17 : decode cX4_shuts 17 = .ok (.istore_n 3, 1) := by decide +kernel
theorem dX4_shuts_18 : decode cX4_shuts 18 = .ok (.iload_n 3, 1) := by decide +kernel
theorem dX4_shuts_19 : decode cX4_shuts 19 = .ok (.ifCond .lt 12, 3) := by decide +kernel
theorem dX4_shuts_22 : decode cX4_shuts 22 = .ok (.aload_n 0, 1) := by decide +kernel
theorem dX4_shuts_23 : decode cX4_shuts 23 = .ok (.getfield 18, 3) := by decide +kernel
theorem dX4_shuts_26 : decode cX4_shuts 26 = .ok (.iload_n 3, 1) := by decide +kernel
theorem dX4_shuts_27 : decode cX4_shuts 27 = .ok (.iaload, 1) := by decide +kernel
theorem dX4_shuts_28 : decode cX4_shuts 28 = .ok (.ifCond .eq 5, 3) := by decide +kernel
theorem dX4_shuts_31 : decode cX4_shuts 31 = .ok (.iconst 0, 1) := by decide +kernel
theorem dX4_shuts_32 : decode cX4_shuts 32 = .ok (.ireturn, 1) := by decide +kernel
theorem dX4_shuts_33 : decode cX4_shuts 33 = .ok (.aload_n 0, 1) := by decide +kernel
theorem dX4_shuts_34 : decode cX4_shuts 34 = .ok (.getfield 18, 3) := by decide +kernel
theorem dX4_shuts_37 : decode cX4_shuts 37 = .ok (.iload_n 3, 1) := by decide +kernel
theorem dX4_shuts_38 : decode cX4_shuts 38 = .ok (.iconst 1, 1) := by decide +kernel
theorem dX4_shuts_39 : decode cX4_shuts 39 = .ok (.iastore, 1) := by decide +kernel
theorem dX4_shuts_40 : decode cX4_shuts 40 = .ok (.iconst 1, 1) := by decide +kernel
theorem dX4_shuts_41 : decode cX4_shuts 41 = .ok (.ireturn, 1) := by decide +kernel
theorem dX4_follow_0 : decode cX4_follow 0 = .ok (.aload_n 0, 1) := by decide +kernel
theorem dX4_follow_1 : decode cX4_follow 1 = .ok (.getfield 25, 3) := by decide +kernel
theorem dX4_follow_4 : decode cX4_follow 4 = .ok (.iload_n 1, 1) := by decide +kernel
theorem dX4_follow_5 : decode cX4_follow 5 = .ok (.iaload, 1) := by decide +kernel
theorem dX4_follow_6 : decode cX4_follow 6 = .ok (.istore_n 2, 1) := by decide +kernel
theorem dX4_follow_7 : decode cX4_follow 7 = .ok (.aload_n 0, 1) := by decide +kernel
theorem dX4_follow_8 : decode cX4_follow 8 = .ok (.getfield 28, 3) := by decide +kernel
theorem dX4_follow_11 : decode cX4_follow 11 = .ok (.iload_n 1, 1) := by decide +kernel
theorem dX4_follow_12 : decode cX4_follow 12 = .ok (.iaload, 1) := by decide +kernel
theorem dX4_follow_13 : decode cX4_follow 13 = .ok (.istore_n 3, 1) := by decide +kernel
theorem dX4_follow_14 : decode cX4_follow 14 = .ok (.aload_n 0, 1) := by decide +kernel
theorem dX4_follow_15 : decode cX4_follow 15 = .ok (.getfield 51, 3) := by decide +kernel
theorem dX4_follow_18 : decode cX4_follow 18 = .ok (.iload_n 2, 1) := by decide +kernel
theorem dX4_follow_19 : decode cX4_follow 19 = .ok (.iload_n 3, 1) := by decide +kernel
theorem dX4_follow_20 : decode cX4_follow 20 = .ok (.iconst 1, 1) := by decide +kernel
theorem dX4_follow_21 : decode cX4_follow 21 = .ok (.invokevirtual 117, 3) := by decide +kernel
theorem dX4_follow_24 : decode cX4_follow 24 = .ok (.istore 4, 2) := by decide +kernel
theorem dX4_follow_26 : decode cX4_follow 26 = .ok (.iconst 0, 1) := by decide +kernel
theorem dX4_follow_27 : decode cX4_follow 27 = .ok (.istore 5, 2) := by decide +kernel
theorem dX4_follow_29 : decode cX4_follow 29 = .ok (.aload_n 0, 1) := by decide +kernel
theorem dX4_follow_30 : decode cX4_follow 30 = .ok (.getfield 51, 3) := by decide +kernel
theorem dX4_follow_33 : decode cX4_follow 33 = .ok (.iload_n 2, 1) := by decide +kernel
theorem dX4_follow_34 : decode cX4_follow 34 = .ok (.iload_n 3, 1) := by decide +kernel
theorem dX4_follow_35 : decode cX4_follow 35 = .ok (.iconst 0, 1) := by decide +kernel
theorem dX4_follow_36 : decode cX4_follow 36 = .ok (.invokevirtual 117, 3) := by decide +kernel
theorem dX4_follow_39 : decode cX4_follow 39 = .ok (.tableswitch 122 0 5 #[37, 70, 82, 92, 104, 110], 37) := by decide +kernel
theorem dX4_follow_76 : decode cX4_follow 76 = .ok (.aload_n 0, 1) := by decide +kernel
theorem dX4_follow_77 : decode cX4_follow 77 = .ok (.getfield 31, 3) := by decide +kernel
theorem dX4_follow_80 : decode cX4_follow 80 = .ok (.iload_n 1, 1) := by decide +kernel
theorem dX4_follow_81 : decode cX4_follow 81 = .ok (.iaload, 1) := by decide +kernel
theorem dX4_follow_82 : decode cX4_follow 82 = .ok (.iload 4, 2) := by decide +kernel
theorem dX4_follow_84 : decode cX4_follow 84 = .ok (.if_icmp .ne 7, 3) := by decide +kernel
theorem dX4_follow_87 : decode cX4_follow 87 = .ok (.iconst 1, 1) := by decide +kernel
theorem dX4_follow_88 : decode cX4_follow 88 = .ok (.goto 4, 3) := by decide +kernel
theorem dX4_follow_91 : decode cX4_follow 91 = .ok (.iconst 0, 1) := by decide +kernel
theorem dX4_follow_92 : decode cX4_follow 92 = .ok (.istore 5, 2) := by decide +kernel
theorem dX4_follow_94 : decode cX4_follow 94 = .ok (.iload 5, 2) := by decide +kernel
theorem dX4_follow_96 : decode cX4_follow 96 = .ok (.ifCond .ne 65, 3) := by decide +kernel
theorem dX4_follow_99 : decode cX4_follow 99 = .ok (.aload_n 0, 1) := by decide +kernel
theorem dX4_follow_100 : decode cX4_follow 100 = .ok (.iload_n 1, 1) := by decide +kernel
theorem dX4_follow_101 : decode cX4_follow 101 = .ok (.iload 4, 2) := by decide +kernel
theorem dX4_follow_103 : decode cX4_follow 103 = .ok (.invokevirtual 121, 3) := by decide +kernel
theorem dX4_follow_106 : decode cX4_follow 106 = .ok (.goto 55, 3) := by decide +kernel
theorem dX4_follow_109 : decode cX4_follow 109 = .ok (.aload_n 0, 1) := by decide +kernel
theorem dX4_follow_110 : decode cX4_follow 110 = .ok (.iload_n 1, 1) := by decide +kernel
theorem dX4_follow_111 : decode cX4_follow 111 = .ok (.iload 4, 2) := by decide +kernel
theorem dX4_follow_113 : decode cX4_follow 113 = .ok (.invokevirtual 125, 3) := by decide +kernel
theorem dX4_follow_116 : decode cX4_follow 116 = .ok (.istore 5, 2) := by decide +kernel
theorem dX4_follow_118 : decode cX4_follow 118 = .ok (.goto 43, 3) := by decide +kernel
theorem dX4_follow_121 : decode cX4_follow 121 = .ok (.aload_n 0, 1) := by decide +kernel
theorem dX4_follow_122 : decode cX4_follow 122 = .ok (.iload_n 1, 1) := by decide +kernel
theorem dX4_follow_123 : decode cX4_follow 123 = .ok (.invokevirtual 128, 3) := by decide +kernel
theorem dX4_follow_126 : decode cX4_follow 126 = .ok (.istore 5, 2) := by decide +kernel
theorem dX4_follow_128 : decode cX4_follow 128 = .ok (.goto 33, 3) := by decide +kernel
theorem dX4_follow_131 : decode cX4_follow 131 = .ok (.aload_n 0, 1) := by decide +kernel
theorem dX4_follow_132 : decode cX4_follow 132 = .ok (.iload_n 1, 1) := by decide +kernel
theorem dX4_follow_133 : decode cX4_follow 133 = .ok (.iload 4, 2) := by decide +kernel
theorem dX4_follow_135 : decode cX4_follow 135 = .ok (.invokevirtual 132, 3) := by decide +kernel
theorem dX4_follow_138 : decode cX4_follow 138 = .ok (.istore 5, 2) := by decide +kernel
theorem dX4_follow_140 : decode cX4_follow 140 = .ok (.goto 21, 3) := by decide +kernel
theorem dX4_follow_143 : decode cX4_follow 143 = .ok (.iconst 1, 1) := by decide +kernel
theorem dX4_follow_144 : decode cX4_follow 144 = .ok (.istore 5, 2) := by decide +kernel
theorem dX4_follow_146 : decode cX4_follow 146 = .ok (.goto 15, 3) := by decide +kernel
theorem dX4_follow_149 : decode cX4_follow 149 = .ok (.aload_n 0, 1) := by decide +kernel
theorem dX4_follow_150 : decode cX4_follow 150 = .ok (.iload_n 1, 1) := by decide +kernel
theorem dX4_follow_151 : decode cX4_follow 151 = .ok (.iload 4, 2) := by decide +kernel
theorem dX4_follow_153 : decode cX4_follow 153 = .ok (.invokevirtual 135, 3) := by decide +kernel
theorem dX4_follow_156 : decode cX4_follow 156 = .ok (.istore 5, 2) := by decide +kernel
theorem dX4_follow_158 : decode cX4_follow 158 = .ok (.goto 3, 3) := by decide +kernel
theorem dX4_follow_161 : decode cX4_follow 161 = .ok (.iload 5, 2) := by decide +kernel
theorem dX4_follow_163 : decode cX4_follow 163 = .ok (.ifCond .eq 19, 3) := by decide +kernel
theorem dX4_follow_166 : decode cX4_follow 166 = .ok (.aload_n 0, 1) := by decide +kernel
theorem dX4_follow_167 : decode cX4_follow 167 = .ok (.getfield 28, 3) := by decide +kernel
theorem dX4_follow_170 : decode cX4_follow 170 = .ok (.iload_n 1, 1) := by decide +kernel
theorem dX4_follow_171 : decode cX4_follow 171 = .ok (.aload_n 0, 1) := by decide +kernel
theorem dX4_follow_172 : decode cX4_follow 172 = .ok (.getfield 51, 3) := by decide +kernel
theorem dX4_follow_175 : decode cX4_follow 175 = .ok (.iload_n 2, 1) := by decide +kernel
theorem dX4_follow_176 : decode cX4_follow 176 = .ok (.iload_n 3, 1) := by decide +kernel
theorem dX4_follow_177 : decode cX4_follow 177 = .ok (.iconst 2, 1) := by decide +kernel
theorem dX4_follow_178 : decode cX4_follow 178 = .ok (.invokevirtual 117, 3) := by decide +kernel
theorem dX4_follow_181 : decode cX4_follow 181 = .ok (.iastore, 1) := by decide +kernel
theorem dX4_follow_182 : decode cX4_follow 182 = .ok (.return_, 1) := by decide +kernel
theorem dX4_pass_0 : decode cX4_pass 0 = .ok (.iconst 0, 1) := by decide +kernel
theorem dX4_pass_1 : decode cX4_pass 1 = .ok (.istore_n 2, 1) := by decide +kernel
theorem dX4_pass_2 : decode cX4_pass 2 = .ok (.iload_n 2, 1) := by decide +kernel
theorem dX4_pass_3 : decode cX4_pass 3 = .ok (.iload_n 1, 1) := by decide +kernel
theorem dX4_pass_4 : decode cX4_pass 4 = .ok (.if_icmp .ge 74, 3) := by decide +kernel
theorem dX4_pass_7 : decode cX4_pass 7 = .ok (.aload_n 0, 1) := by decide +kernel
theorem dX4_pass_8 : decode cX4_pass 8 = .ok (.dup, 1) := by decide +kernel
theorem dX4_pass_9 : decode cX4_pass 9 = .ok (.getfield 73, 3) := by decide +kernel
theorem dX4_pass_12 : decode cX4_pass 12 = .ok (.iconst 1, 1) := by decide +kernel
theorem dX4_pass_13 : decode cX4_pass 13 = .ok (.iadd, 1) := by decide +kernel
theorem dX4_pass_14 : decode cX4_pass 14 = .ok (.putfield 73, 3) := by decide +kernel
theorem dX4_pass_17 : decode cX4_pass 17 = .ok (.iconst 0, 1) := by decide +kernel
theorem dX4_pass_18 : decode cX4_pass 18 = .ok (.istore_n 3, 1) := by decide +kernel
theorem dX4_pass_19 : decode cX4_pass 19 = .ok (.iload_n 3, 1) := by decide +kernel
theorem dX4_pass_20 : decode cX4_pass 20 = .ok (.aload_n 0, 1) := by decide +kernel
theorem dX4_pass_21 : decode cX4_pass 21 = .ok (.getfield 51, 3) := by decide +kernel
theorem dX4_pass_24 : decode cX4_pass 24 = .ok (.getfield 85, 3) := by decide +kernel
theorem dX4_pass_27 : decode cX4_pass 27 = .ok (.if_icmp .ge 45, 3) := by decide +kernel
theorem dX4_pass_30 : decode cX4_pass 30 = .ok (.aload_n 0, 1) := by decide +kernel
theorem dX4_pass_31 : decode cX4_pass 31 = .ok (.getfield 37, 3) := by decide +kernel
theorem dX4_pass_34 : decode cX4_pass 34 = .ok (.iload_n 3, 1) := by decide +kernel
theorem dX4_pass_35 : decode cX4_pass 35 = .ok (.baload, 1) := by decide +kernel
theorem dX4_pass_36 : decode cX4_pass 36 = .ok (.ifCond .ne 30, 3) := by decide +kernel
theorem dX4_pass_39 : decode cX4_pass 39 = .ok (.aload_n 0, 1) := by decide +kernel
theorem dX4_pass_40 : decode cX4_pass 40 = .ok (.getfield 51, 3) := by decide +kernel
theorem dX4_pass_43 : decode cX4_pass 43 = .ok (.aload_n 0, 1) := by decide +kernel
theorem dX4_pass_44 : decode cX4_pass 44 = .ok (.getfield 25, 3) := by decide +kernel
theorem dX4_pass_47 : decode cX4_pass 47 = .ok (.iload_n 3, 1) := by decide +kernel
theorem dX4_pass_48 : decode cX4_pass 48 = .ok (.iaload, 1) := by decide +kernel
theorem dX4_pass_49 : decode cX4_pass 49 = .ok (.aload_n 0, 1) := by decide +kernel
theorem dX4_pass_50 : decode cX4_pass 50 = .ok (.getfield 28, 3) := by decide +kernel
theorem dX4_pass_53 : decode cX4_pass 53 = .ok (.iload_n 3, 1) := by decide +kernel
theorem dX4_pass_54 : decode cX4_pass 54 = .ok (.iaload, 1) := by decide +kernel
theorem dX4_pass_55 : decode cX4_pass 55 = .ok (.invokevirtual 109, 3) := by decide +kernel
theorem dX4_pass_58 : decode cX4_pass 58 = .ok (.ifCond .eq 8, 3) := by decide +kernel
theorem dX4_pass_61 : decode cX4_pass 61 = .ok (.aload_n 0, 1) := by decide +kernel
theorem dX4_pass_62 : decode cX4_pass 62 = .ok (.iload_n 3, 1) := by decide +kernel
theorem dX4_pass_63 : decode cX4_pass 63 = .ok (.invokevirtual 113, 3) := by decide +kernel
theorem dX4_pass_66 : decode cX4_pass 66 = .ok (.iinc 3 1, 3) := by decide +kernel
theorem dX4_pass_69 : decode cX4_pass 69 = .ok (.goto (-50), 3) := by decide +kernel
theorem dX4_pass_72 : decode cX4_pass 72 = .ok (.iinc 2 1, 3) := by decide +kernel
theorem dX4_pass_75 : decode cX4_pass 75 = .ok (.goto (-73), 3) := by decide +kernel
theorem dX4_pass_78 : decode cX4_pass 78 = .ok (.iload_n 1, 1) := by decide +kernel
theorem dX4_pass_79 : decode cX4_pass 79 = .ok (.ireturn, 1) := by decide +kernel
theorem dX3_keep_0 : decode cX3_keep 0 = .ok (.iload_n 1, 1) := by decide +kernel
theorem dX3_keep_1 : decode cX3_keep 1 = .ok (.iconst 4, 1) := by decide +kernel
theorem dX3_keep_2 : decode cX3_keep 2 = .ok (.imul, 1) := by decide +kernel
theorem dX3_keep_3 : decode cX3_keep 3 = .ok (.istore_n 3, 1) := by decide +kernel
theorem dX3_keep_4 : decode cX3_keep 4 = .ok (.aload_n 2, 1) := by decide +kernel
theorem dX3_keep_5 : decode cX3_keep 5 = .ok (.getfield 15, 3) := by decide +kernel
theorem dX3_keep_8 : decode cX3_keep 8 = .ok (.iconst 0, 1) := by decide +kernel
theorem dX3_keep_9 : decode cX3_keep 9 = .ok (.aload_n 0, 1) := by decide +kernel
theorem dX3_keep_10 : decode cX3_keep 10 = .ok (.getfield 11, 3) := by decide +kernel
theorem dX3_keep_13 : decode cX3_keep 13 = .ok (.iload_n 3, 1) := by decide +kernel
theorem dX3_keep_14 : decode cX3_keep 14 = .ok (.iconst 3, 1) := by decide +kernel
theorem dX3_keep_15 : decode cX3_keep 15 = .ok (.invokestatic 20, 3) := by decide +kernel
theorem dX3_keep_18 : decode cX3_keep 18 = .ok (.lconst 0, 1) := by decide +kernel
theorem dX3_keep_19 : decode cX3_keep 19 = .ok (.lstore 4, 2) := by decide +kernel
theorem dX3_keep_21 : decode cX3_keep 21 = .ok (.iconst 0, 1) := by decide +kernel
theorem dX3_keep_22 : decode cX3_keep 22 = .ok (.istore 6, 2) := by decide +kernel
theorem dX3_keep_24 : decode cX3_keep 24 = .ok (.iload 6, 2) := by decide +kernel
theorem dX3_keep_26 : decode cX3_keep 26 = .ok (.aload_n 2, 1) := by decide +kernel
theorem dX3_keep_27 : decode cX3_keep 27 = .ok (.getfield 26, 3) := by decide +kernel
theorem dX3_keep_30 : decode cX3_keep 30 = .ok (.getfield 30, 3) := by decide +kernel
theorem dX3_keep_33 : decode cX3_keep 33 = .ok (.if_icmp .ge 40, 3) := by decide +kernel
theorem dX3_keep_36 : decode cX3_keep 36 = .ok (.lload 4, 2) := by decide +kernel
theorem dX3_keep_38 : decode cX3_keep 38 = .ok (.iconst 2, 1) := by decide +kernel
theorem dX3_keep_39 : decode cX3_keep 39 = .ok (.aload_n 2, 1) := by decide +kernel
theorem dX3_keep_40 : decode cX3_keep 40 = .ok (.getfield 36, 3) := by decide +kernel
theorem dX3_keep_43 : decode cX3_keep 43 = .ok (.iload 6, 2) := by decide +kernel
theorem dX3_keep_45 : decode cX3_keep 45 = .ok (.iaload, 1) := by decide +kernel
theorem dX3_keep_46 : decode cX3_keep 46 = .ok (.imul, 1) := by decide +kernel
theorem dX3_keep_47 : decode cX3_keep 47 = .ok (.aload_n 2, 1) := by decide +kernel
theorem dX3_keep_48 : decode cX3_keep 48 = .ok (.getfield 40, 3) := by decide +kernel
theorem dX3_keep_51 : decode cX3_keep 51 = .ok (.iload 6, 2) := by decide +kernel
theorem dX3_keep_53 : decode cX3_keep 53 = .ok (.baload, 1) := by decide +kernel
theorem dX3_keep_54 : decode cX3_keep 54 = .ok (.invokestatic 44, 3) := by decide +kernel
theorem dX3_keep_57 : decode cX3_keep 57 = .ok (.iadd, 1) := by decide +kernel
theorem dX3_keep_58 : decode cX3_keep 58 = .ok (.i2l, 1) := by decide +kernel
theorem dX3_keep_59 : decode cX3_keep 59 = .ok (.iconst 4, 1) := by decide +kernel
theorem dX3_keep_60 : decode cX3_keep 60 = .ok (.iload 6, 2) := by decide +kernel
theorem dX3_keep_62 : decode cX3_keep 62 = .ok (.imul, 1) := by decide +kernel
theorem dX3_keep_63 : decode cX3_keep 63 = .ok (.lshl, 1) := by decide +kernel
theorem dX3_keep_64 : decode cX3_keep 64 = .ok (.lor, 1) := by decide +kernel
theorem dX3_keep_65 : decode cX3_keep 65 = .ok (.lstore 4, 2) := by decide +kernel
theorem dX3_keep_67 : decode cX3_keep 67 = .ok (.iinc 6 1, 3) := by decide +kernel
theorem dX3_keep_70 : decode cX3_keep 70 = .ok (.goto (-46), 3) := by decide +kernel
theorem dX3_keep_73 : decode cX3_keep 73 = .ok (.iconst 0, 1) := by decide +kernel
theorem dX3_keep_74 : decode cX3_keep 74 = .ok (.istore 6, 2) := by decide +kernel
theorem dX3_keep_76 : decode cX3_keep 76 = .ok (.iload 6, 2) := by decide +kernel
theorem dX3_keep_78 : decode cX3_keep 78 = .ok (.aload_n 2, 1) := by decide +kernel
theorem dX3_keep_79 : decode cX3_keep 79 = .ok (.getfield 26, 3) := by decide +kernel
theorem dX3_keep_82 : decode cX3_keep 82 = .ok (.getfield 48, 3) := by decide +kernel
theorem dX3_keep_85 : decode cX3_keep 85 = .ok (.getfield 52, 3) := by decide +kernel
theorem dX3_keep_88 : decode cX3_keep 88 = .ok (.if_icmp .ge 30, 3) := by decide +kernel
theorem dX3_keep_91 : decode cX3_keep 91 = .ok (.lload 4, 2) := by decide +kernel
theorem dX3_keep_93 : decode cX3_keep 93 = .ok (.aload_n 2, 1) := by decide +kernel
theorem dX3_keep_94 : decode cX3_keep 94 = .ok (.getfield 57, 3) := by decide +kernel
theorem dX3_keep_97 : decode cX3_keep 97 = .ok (.iload 6, 2) := by decide +kernel
theorem dX3_keep_99 : decode cX3_keep 99 = .ok (.iaload, 1) := by decide +kernel
theorem dX3_keep_100 : decode cX3_keep 100 = .ok (.i2l, 1) := by decide +kernel
theorem dX3_keep_101 : decode cX3_keep 101 = .ok (.bipush 16, 2) := by decide +kernel
theorem dX3_keep_103 : decode cX3_keep 103 = .ok (.iconst 2, 1) := by decide +kernel
theorem dX3_keep_104 : decode cX3_keep 104 = .ok (.iload 6, 2) := by decide +kernel
theorem dX3_keep_106 : decode cX3_keep 106 = .ok (.imul, 1) := by decide +kernel
theorem dX3_keep_107 : decode cX3_keep 107 = .ok (.iadd, 1) := by decide +kernel
theorem dX3_keep_108 : decode cX3_keep 108 = .ok (.lshl, 1) := by decide +kernel
theorem dX3_keep_109 : decode cX3_keep 109 = .ok (.lor, 1) := by decide +kernel
theorem dX3_keep_110 : decode cX3_keep 110 = .ok (.lstore 4, 2) := by decide +kernel
theorem dX3_keep_112 : decode cX3_keep 112 = .ok (.iinc 6 1, 3) := by decide +kernel
theorem dX3_keep_115 : decode cX3_keep 115 = .ok (.goto (-39), 3) := by decide +kernel
theorem dX3_keep_118 : decode cX3_keep 118 = .ok (.iconst 0, 1) := by decide +kernel
theorem dX3_keep_119 : decode cX3_keep 119 = .ok (.istore 6, 2) := by decide +kernel
theorem dX3_keep_121 : decode cX3_keep 121 = .ok (.iload 6, 2) := by decide +kernel
theorem dX3_keep_123 : decode cX3_keep 123 = .ok (.aload_n 2, 1) := by decide +kernel
theorem dX3_keep_124 : decode cX3_keep 124 = .ok (.getfield 26, 3) := by decide +kernel
theorem dX3_keep_127 : decode cX3_keep 127 = .ok (.getfield 60, 3) := by decide +kernel
theorem dX3_keep_130 : decode cX3_keep 130 = .ok (.if_icmp .ge 43, 3) := by decide +kernel
theorem dX3_keep_133 : decode cX3_keep 133 = .ok (.lload 4, 2) := by decide +kernel
theorem dX3_keep_135 : decode cX3_keep 135 = .ok (.iconst 2, 1) := by decide +kernel
theorem dX3_keep_136 : decode cX3_keep 136 = .ok (.aload_n 2, 1) := by decide +kernel
theorem dX3_keep_137 : decode cX3_keep 137 = .ok (.getfield 63, 3) := by decide +kernel
theorem dX3_keep_140 : decode cX3_keep 140 = .ok (.iload 6, 2) := by decide +kernel
theorem dX3_keep_142 : decode cX3_keep 142 = .ok (.iaload, 1) := by decide +kernel
theorem dX3_keep_143 : decode cX3_keep 143 = .ok (.imul, 1) := by decide +kernel
theorem dX3_keep_144 : decode cX3_keep 144 = .ok (.aload_n 2, 1) := by decide +kernel
theorem dX3_keep_145 : decode cX3_keep 145 = .ok (.getfield 66, 3) := by decide +kernel
theorem dX3_keep_148 : decode cX3_keep 148 = .ok (.iload 6, 2) := by decide +kernel
theorem dX3_keep_150 : decode cX3_keep 150 = .ok (.baload, 1) := by decide +kernel
theorem dX3_keep_151 : decode cX3_keep 151 = .ok (.invokestatic 44, 3) := by decide +kernel
theorem dX3_keep_154 : decode cX3_keep 154 = .ok (.iadd, 1) := by decide +kernel
theorem dX3_keep_155 : decode cX3_keep 155 = .ok (.i2l, 1) := by decide +kernel
theorem dX3_keep_156 : decode cX3_keep 156 = .ok (.bipush 36, 2) := by decide +kernel
theorem dX3_keep_158 : decode cX3_keep 158 = .ok (.iconst 4, 1) := by decide +kernel
theorem dX3_keep_159 : decode cX3_keep 159 = .ok (.iload 6, 2) := by decide +kernel
theorem dX3_keep_161 : decode cX3_keep 161 = .ok (.imul, 1) := by decide +kernel
theorem dX3_keep_162 : decode cX3_keep 162 = .ok (.iadd, 1) := by decide +kernel
theorem dX3_keep_163 : decode cX3_keep 163 = .ok (.lshl, 1) := by decide +kernel
theorem dX3_keep_164 : decode cX3_keep 164 = .ok (.lor, 1) := by decide +kernel
theorem dX3_keep_165 : decode cX3_keep 165 = .ok (.lstore 4, 2) := by decide +kernel
theorem dX3_keep_167 : decode cX3_keep 167 = .ok (.iinc 6 1, 3) := by decide +kernel
theorem dX3_keep_170 : decode cX3_keep 170 = .ok (.goto (-49), 3) := by decide +kernel
theorem dX3_keep_173 : decode cX3_keep 173 = .ok (.aload_n 0, 1) := by decide +kernel
theorem dX3_keep_174 : decode cX3_keep 174 = .ok (.getfield 11, 3) := by decide +kernel
theorem dX3_keep_177 : decode cX3_keep 177 = .ok (.iload_n 3, 1) := by decide +kernel
theorem dX3_keep_178 : decode cX3_keep 178 = .ok (.iconst 3, 1) := by decide +kernel
theorem dX3_keep_179 : decode cX3_keep 179 = .ok (.iadd, 1) := by decide +kernel
theorem dX3_keep_180 : decode cX3_keep 180 = .ok (.lload 4, 2) := by decide +kernel
theorem dX3_keep_182 : decode cX3_keep 182 = .ok (.lastore, 1) := by decide +kernel
theorem dX3_keep_183 : decode cX3_keep 183 = .ok (.return_, 1) := by decide +kernel
theorem dX3_areSame_0 : decode cX3_areSame 0 = .ok (.iconst 0, 1) := by decide +kernel
theorem dX3_areSame_1 : decode cX3_areSame 1 = .ok (.istore_n 3, 1) := by decide +kernel
theorem dX3_areSame_2 : decode cX3_areSame 2 = .ok (.iload_n 3, 1) := by decide +kernel
theorem dX3_areSame_3 : decode cX3_areSame 3 = .ok (.iconst 4, 1) := by decide +kernel
theorem dX3_areSame_4 : decode cX3_areSame 4 = .ok (.if_icmp .ge 35, 3) := by decide +kernel
theorem dX3_areSame_7 : decode cX3_areSame 7 = .ok (.aload_n 0, 1) := by decide +kernel
theorem dX3_areSame_8 : decode cX3_areSame 8 = .ok (.getfield 11, 3) := by decide +kernel
theorem dX3_areSame_11 : decode cX3_areSame 11 = .ok (.iload_n 1, 1) := by decide +kernel
theorem dX3_areSame_12 : decode cX3_areSame 12 = .ok (.iconst 4, 1) := by decide +kernel
theorem dX3_areSame_13 : decode cX3_areSame 13 = .ok (.imul, 1) := by decide +kernel
theorem dX3_areSame_14 : decode cX3_areSame 14 = .ok (.iload_n 3, 1) := by decide +kernel
theorem dX3_areSame_15 : decode cX3_areSame 15 = .ok (.iadd, 1) := by decide +kernel
theorem dX3_areSame_16 : decode cX3_areSame 16 = .ok (.laload, 1) := by decide +kernel
theorem dX3_areSame_17 : decode cX3_areSame 17 = .ok (.aload_n 0, 1) := by decide +kernel
theorem dX3_areSame_18 : decode cX3_areSame 18 = .ok (.getfield 11, 3) := by decide +kernel
theorem dX3_areSame_21 : decode cX3_areSame 21 = .ok (.iload_n 2, 1) := by decide +kernel
theorem dX3_areSame_22 : decode cX3_areSame 22 = .ok (.iconst 4, 1) := by decide +kernel
theorem dX3_areSame_23 : decode cX3_areSame 23 = .ok (.imul, 1) := by decide +kernel
theorem dX3_areSame_24 : decode cX3_areSame 24 = .ok (.iload_n 3, 1) := by decide +kernel
theorem dX3_areSame_25 : decode cX3_areSame 25 = .ok (.iadd, 1) := by decide +kernel
theorem dX3_areSame_26 : decode cX3_areSame 26 = .ok (.laload, 1) := by decide +kernel
theorem dX3_areSame_27 : decode cX3_areSame 27 = .ok (.lcmp, 1) := by decide +kernel
theorem dX3_areSame_28 : decode cX3_areSame 28 = .ok (.ifCond .eq 5, 3) := by decide +kernel
theorem dX3_areSame_31 : decode cX3_areSame 31 = .ok (.iconst 0, 1) := by decide +kernel
theorem dX3_areSame_32 : decode cX3_areSame 32 = .ok (.ireturn, 1) := by decide +kernel
theorem dX3_areSame_33 : decode cX3_areSame 33 = .ok (.iinc 3 1, 3) := by decide +kernel
theorem dX3_areSame_36 : decode cX3_areSame 36 = .ok (.goto (-34), 3) := by decide +kernel
theorem dX3_areSame_39 : decode cX3_areSame 39 = .ok (.iconst 1, 1) := by decide +kernel
theorem dX3_areSame_40 : decode cX3_areSame 40 = .ok (.ireturn, 1) := by decide +kernel
theorem dX3_firstLike_0 : decode cX3_firstLike 0 = .ok (.iconst 0, 1) := by decide +kernel
theorem dX3_firstLike_1 : decode cX3_firstLike 1 = .ok (.istore_n 2, 1) := by decide +kernel
theorem dX3_firstLike_2 : decode cX3_firstLike 2 = .ok (.iload_n 2, 1) := by decide +kernel
theorem dX3_firstLike_3 : decode cX3_firstLike 3 = .ok (.iload_n 1, 1) := by decide +kernel
theorem dX3_firstLike_4 : decode cX3_firstLike 4 = .ok (.if_icmp .ge 18, 3) := by decide +kernel
theorem dX3_firstLike_7 : decode cX3_firstLike 7 = .ok (.aload_n 0, 1) := by decide +kernel
theorem dX3_firstLike_8 : decode cX3_firstLike 8 = .ok (.iload_n 2, 1) := by decide +kernel
theorem dX3_firstLike_9 : decode cX3_firstLike 9 = .ok (.iload_n 1, 1) := by decide +kernel
theorem dX3_firstLike_10 : decode cX3_firstLike 10 = .ok (.invokevirtual 69, 3) := by decide +kernel
theorem dX3_firstLike_13 : decode cX3_firstLike 13 = .ok (.ifCond .ne 9, 3) := by decide +kernel
theorem dX3_firstLike_16 : decode cX3_firstLike 16 = .ok (.iinc 2 1, 3) := by decide +kernel
theorem dX3_firstLike_19 : decode cX3_firstLike 19 = .ok (.goto (-17), 3) := by decide +kernel
theorem dX3_firstLike_22 : decode cX3_firstLike 22 = .ok (.iload_n 2, 1) := by decide +kernel
theorem dX3_firstLike_23 : decode cX3_firstLike 23 = .ok (.ireturn, 1) := by decide +kernel
theorem dX0_tryOut_0 : decode cX0_tryOut 0 = .ok (.iload_n 1, 1) := by decide +kernel
theorem dX0_tryOut_1 : decode cX0_tryOut 1 = .ok (.istore_n 3, 1) := by decide +kernel
theorem dX0_tryOut_2 : decode cX0_tryOut 2 = .ok (.iload_n 3, 1) := by decide +kernel
theorem dX0_tryOut_3 : decode cX0_tryOut 3 = .ok (.iload_n 2, 1) := by decide +kernel
theorem dX0_tryOut_4 : decode cX0_tryOut 4 = .ok (.if_icmp .gt 135, 3) := by decide +kernel
theorem dX0_tryOut_7 : decode cX0_tryOut 7 = .ok (.aload_n 0, 1) := by decide +kernel
theorem dX0_tryOut_8 : decode cX0_tryOut 8 = .ok (.getfield 25, 3) := by decide +kernel
theorem dX0_tryOut_11 : decode cX0_tryOut 11 = .ok (.iload_n 3, 1) := by decide +kernel
theorem dX0_tryOut_12 : decode cX0_tryOut 12 = .ok (.baload, 1) := by decide +kernel
theorem dX0_tryOut_13 : decode cX0_tryOut 13 = .ok (.ifCond .eq 6, 3) := by decide +kernel
theorem dX0_tryOut_16 : decode cX0_tryOut 16 = .ok (.goto 117, 3) := by decide +kernel
theorem dX0_tryOut_19 : decode cX0_tryOut 19 = .ok (.aload_n 0, 1) := by decide +kernel
theorem dX0_tryOut_20 : decode cX0_tryOut 20 = .ok (.getfield 25, 3) := by decide +kernel
theorem dX0_tryOut_23 : decode cX0_tryOut 23 = .ok (.iload_n 3, 1) := by decide +kernel
theorem dX0_tryOut_24 : decode cX0_tryOut 24 = .ok (.iconst 1, 1) := by decide +kernel
theorem dX0_tryOut_25 : decode cX0_tryOut 25 = .ok (.bastore, 1) := by decide +kernel
theorem dX0_tryOut_26 : decode cX0_tryOut 26 = .ok (.iload_n 3, 1) := by decide +kernel
theorem dX0_tryOut_27 : decode cX0_tryOut 27 = .ok (.ifCond .ne 10, 3) := by decide +kernel
theorem dX0_tryOut_30 : decode cX0_tryOut 30 = .ok (.aload_n 0, 1) := by decide +kernel
theorem dX0_tryOut_31 : decode cX0_tryOut 31 = .ok (.getfield 18, 3) := by decide +kernel
theorem dX0_tryOut_34 : decode cX0_tryOut 34 = .ok (.goto 7, 3) := by decide +kernel
theorem dX0_tryOut_37 : decode cX0_tryOut 37 = .ok (.aload_n 0, 1) := by decide +kernel
theorem dX0_tryOut_38 : decode cX0_tryOut 38 = .ok (.getfield 22, 3) := by decide +kernel
theorem dX0_tryOut_41 : decode cX0_tryOut 41 = .ok (.astore 4, 2) := by decide +kernel
theorem dX0_tryOut_43 : decode cX0_tryOut 43 = .ok (.aload_n 0, 1) := by decide +kernel
theorem dX0_tryOut_44 : decode cX0_tryOut 44 = .ok (.getfield 44, 3) := by decide +kernel
theorem dX0_tryOut_47 : decode cX0_tryOut 47 = .ok (.aload_n 0, 1) := by decide +kernel
theorem dX0_tryOut_48 : decode cX0_tryOut 48 = .ok (.getfield 35, 3) := by decide +kernel
theorem dX0_tryOut_51 : decode cX0_tryOut 51 = .ok (.iload_n 3, 1) := by decide +kernel
theorem dX0_tryOut_52 : decode cX0_tryOut 52 = .ok (.invokevirtual 69, 3) := by decide +kernel
theorem dX0_tryOut_55 : decode cX0_tryOut 55 = .ok (.iconst 0, 1) := by decide +kernel
theorem dX0_tryOut_56 : decode cX0_tryOut 56 = .ok (.istore 5, 2) := by decide +kernel
theorem dX0_tryOut_58 : decode cX0_tryOut 58 = .ok (.iload 5, 2) := by decide +kernel
theorem dX0_tryOut_60 : decode cX0_tryOut 60 = .ok (.aload_n 0, 1) := by decide +kernel
theorem dX0_tryOut_61 : decode cX0_tryOut 61 = .ok (.getfield 48, 3) := by decide +kernel
theorem dX0_tryOut_64 : decode cX0_tryOut 64 = .ok (.if_icmp .ge 69, 3) := by decide +kernel
theorem dX0_tryOut_67 : decode cX0_tryOut 67 = .ok (.aload_n 0, 1) := by decide +kernel
theorem dX0_tryOut_68 : decode cX0_tryOut 68 = .ok (.getfield 44, 3) := by decide +kernel
theorem dX0_tryOut_71 : decode cX0_tryOut 71 = .ok (.aload_n 0, 1) := by decide +kernel
theorem dX0_tryOut_72 : decode cX0_tryOut 72 = .ok (.getfield 9, 3) := by decide +kernel
theorem dX0_tryOut_75 : decode cX0_tryOut 75 = .ok (.iload 5, 2) := by decide +kernel
theorem dX0_tryOut_77 : decode cX0_tryOut 77 = .ok (.iconst 3, 1) := by decide +kernel
theorem dX0_tryOut_78 : decode cX0_tryOut 78 = .ok (.imul, 1) := by decide +kernel
theorem dX0_tryOut_79 : decode cX0_tryOut 79 = .ok (.invokevirtual 73, 3) := by decide +kernel
theorem dX0_tryOut_82 : decode cX0_tryOut 82 = .ok (.aload_n 0, 1) := by decide +kernel
theorem dX0_tryOut_83 : decode cX0_tryOut 83 = .ok (.getfield 44, 3) := by decide +kernel
theorem dX0_tryOut_86 : decode cX0_tryOut 86 = .ok (.aload_n 0, 1) := by decide +kernel
theorem dX0_tryOut_87 : decode cX0_tryOut 87 = .ok (.getfield 35, 3) := by decide +kernel
theorem dX0_tryOut_90 : decode cX0_tryOut 90 = .ok (.getfield 77, 3) := by decide +kernel
theorem dX0_tryOut_93 : decode cX0_tryOut 93 = .ok (.invokevirtual 80, 3) := by decide +kernel
theorem dX0_tryOut_96 : decode cX0_tryOut 96 = .ok (.pop, 1) := by decide +kernel
theorem dX0_tryOut_97 : decode cX0_tryOut 97 = .ok (.aload 4, 2) := by decide +kernel
theorem dX0_tryOut_99 : decode cX0_tryOut 99 = .ok (.iload 5, 2) := by decide +kernel
theorem dX0_tryOut_101 : decode cX0_tryOut 101 = .ok (.aload_n 0, 1) := by decide +kernel
theorem dX0_tryOut_102 : decode cX0_tryOut 102 = .ok (.getfield 44, 3) := by decide +kernel
theorem dX0_tryOut_105 : decode cX0_tryOut 105 = .ok (.invokevirtual 84, 3) := by decide +kernel
theorem dX0_tryOut_108 : decode cX0_tryOut 108 = .ok (.aload_n 0, 1) := by decide +kernel
theorem dX0_tryOut_109 : decode cX0_tryOut 109 = .ok (.getfield 29, 3) := by decide +kernel
theorem dX0_tryOut_112 : decode cX0_tryOut 112 = .ok (.iload_n 3, 1) := by decide +kernel
theorem dX0_tryOut_113 : decode cX0_tryOut 113 = .ok (.bipush 64, 2) := by decide +kernel
theorem dX0_tryOut_115 : decode cX0_tryOut 115 = .ok (.imul, 1) := by decide +kernel
theorem dX0_tryOut_116 : decode cX0_tryOut 116 = .ok (.iload 5, 2) := by decide +kernel
theorem dX0_tryOut_118 : decode cX0_tryOut 118 = .ok (.iadd, 1) := by decide +kernel
theorem dX0_tryOut_119 : decode cX0_tryOut 119 = .ok (.aload 4, 2) := by decide +kernel
theorem dX0_tryOut_121 : decode cX0_tryOut 121 = .ok (.iload 5, 2) := by decide +kernel
theorem dX0_tryOut_123 : decode cX0_tryOut 123 = .ok (.invokevirtual 88, 3) := by decide +kernel
theorem dX0_tryOut_126 : decode cX0_tryOut 126 = .ok (.iastore, 1) := by decide +kernel
theorem dX0_tryOut_127 : decode cX0_tryOut 127 = .ok (.iinc 5 1, 3) := by decide +kernel
theorem dX0_tryOut_130 : decode cX0_tryOut 130 = .ok (.goto (-72), 3) := by decide +kernel
theorem dX0_tryOut_133 : decode cX0_tryOut 133 = .ok (.iinc 3 1, 3) := by decide +kernel
theorem dX0_tryOut_136 : decode cX0_tryOut 136 = .ok (.goto (-134), 3) := by decide +kernel
theorem dX0_tryOut_139 : decode cX0_tryOut 139 = .ok (.return_, 1) := by decide +kernel
theorem dX10_answer_0 : decode cX10_answer 0 = .ok (.aload_n 0, 1) := by decide +kernel
theorem dX10_answer_1 : decode cX10_answer 1 = .ok (.iconst 0, 1) := by decide +kernel
theorem dX10_answer_2 : decode cX10_answer 2 = .ok (.putfield 98, 3) := by decide +kernel
theorem dX10_answer_5 : decode cX10_answer 5 = .ok (.iload_n 1, 1) := by decide +kernel
theorem dX10_answer_6 : decode cX10_answer 6 = .ok (.ireturn, 1) := by decide +kernel
def wX0_fillFromBefore (E : EN) (h h_trial h_inn h_dreams h_plain h_set h_tried h_kin h_fitters h_inn_house h_inn_thingIn h_inn_full h_inn_states h_inn_bed h_inn_dreamOf h_inn_listensIn : Nat) (v_count : Int32) (v_fitting : Int32) (v_dreams : Nat → Int32) (v_inn_minutes : Int32) (v_inn_things : Int32) (v_inn_dreams : Int32) (v_inn_sleepers : Int32) (v_inn_listeners : Int32) : va_W := [(h, .inr (0, [.ref h_trial, .ref h_inn, .int v_count, .ref h_dreams, .ref h_plain, .ref h_set, .ref h_tried, .ref h_kin, .int v_fitting, .ref h_fitters])), (h_dreams, aI E 192 v_dreams), (h_inn, .inr (2, [.ref h_inn_house, .int v_inn_minutes, .int v_inn_things, .ref h_inn_thingIn, .ref h_inn_full, .int v_inn_dreams, .ref h_inn_states, .int v_inn_sleepers, .ref h_inn_bed, .ref h_inn_dreamOf, .int v_inn_listeners, .ref h_inn_listensIn]))]
def BX0_fillFromBefore_30 (p0 : Int32) (v_inn_dreams : Int32) (rec30 : (Int32 × (Nat → Int32)) → Option (Nat → Int32)) : (Int32 × (Nat → Int32)) → Option (Nat → Int32) := un2 fun (x30_3 : Int32) (x30_dreams : Nat → Int32) => if x30_3 < 0 then (some x30_dreams) else (gd ((p0 * 3) + x30_3) 192 (gd ((p0 * 3) + x30_3) 192 (gd ((p0 * 3) + x30_3) 192 (if v_inn_dreams ≤ ((upd x30_dreams ((p0 * 3) + x30_3).toNatClampNeg ((x30_dreams ((p0 * 3) + x30_3).toNatClampNeg) + 1)) ((p0 * 3) + x30_3).toNatClampNeg) then (gd ((p0 * 3) + x30_3) 192 (rec30 (x30_3 + (-1), upd (upd x30_dreams ((p0 * 3) + x30_3).toNatClampNeg ((x30_dreams ((p0 * 3) + x30_3).toNatClampNeg) + 1)) ((p0 * 3) + x30_3).toNatClampNeg 0))) else (some (upd x30_dreams ((p0 * 3) + x30_3).toNatClampNeg ((x30_dreams ((p0 * 3) + x30_3).toNatClampNeg) + 1)))))))
def fX0_fillFromBefore (N : Nat) (p0 : Int32) (v_dreams : Nat → Int32) (v_inn_dreams : Int32) (v_inn_sleepers : Int32) : Option (Nat → Int32) := cpg ((p0 * 3) - 3) (p0 * 3) 3 192 192 (lp (BX0_fillFromBefore_30 p0 v_inn_dreams) N (v_inn_sleepers - 1, va_cpy v_dreams v_dreams ((p0 * 3) - 3).toNatClampNeg (p0 * 3).toNatClampNeg (3 : Int32).toNatClampNeg))
set_option maxHeartbeats 4000000 in
set_option maxRecDepth 100000 in
theorem ctX0_fillFromBefore (l : Launch) (E : EN) (h h_trial h_inn h_dreams h_plain h_set h_tried h_kin h_fitters h_inn_house h_inn_thingIn h_inn_full h_inn_states h_inn_bed h_inn_dreamOf h_inn_listensIn : Nat) (v_count : Int32) (v_fitting : Int32) (v_dreams : Nat → Int32) (v_inn_minutes : Int32) (v_inn_things : Int32) (v_inn_dreams : Int32) (v_inn_sleepers : Int32) (v_inn_listeners : Int32) (N : Nat) (p0 : Int32) (z : Nat → Int32) (hf : fX0_fillFromBefore N p0 v_dreams v_inn_dreams v_inn_sleepers = some z) : CTv l E yX0_fillFromBefore cX0_fillFromBefore 4 1 26 [.ref h, .int p0] (wX0_fillFromBefore E h h_trial h_inn h_dreams h_plain h_set h_tried h_kin h_fitters h_inn_house h_inn_thingIn h_inn_full h_inn_states h_inn_bed h_inn_dreamOf h_inn_listensIn v_count v_fitting v_dreams v_inn_minutes v_inn_things v_inn_dreams v_inn_sleepers v_inn_listeners) (wX0_fillFromBefore E h h_trial h_inn h_dreams h_plain h_set h_tried h_kin h_fitters h_inn_house h_inn_thingIn h_inn_full h_inn_states h_inn_bed h_inn_dreamOf h_inn_listensIn v_count v_fitting z v_inn_minutes v_inn_things v_inn_dreams v_inn_sleepers v_inn_listeners) := by
  intro sz
  refine ct_body (by decide) (Nat.le_of_ble_eq_true rfl) ?_
  intro p e s m args below meth c A ls hAe C hr hin hP hD hS hl
  have C : CX p s m args meth c cX0_fillFromBefore RX0 4 E A := C
  have hl : lv_has ls 4 [(0, .ref h), (1, .int p0)] := hl
  have hx := C.1
  have hb := C.2.1
  rw [hAe]
  clear hAe
  obtain ⟨Q, hQ⟩ : ∃ Q, Q = MQ below (Qv E A (wX0_fillFromBefore E h h_trial h_inn h_dreams h_plain h_set h_tried h_kin h_fitters h_inn_house h_inn_thingIn h_inn_full h_inn_states h_inn_bed h_inn_dreamOf h_inn_listensIn v_count v_fitting z v_inn_minutes v_inn_things v_inn_dreams v_inn_sleepers v_inn_listeners)) args s 0 0 A := ⟨_, rfl⟩
  rw [← hQ]
  unfold fX0_fillFromBefore at hf
  refine lv_iload_n (pc := 0) hx hb dX0_fillFromBefore_0 rfl (lv_at hl 1 rfl) ?_
  refine lv_iconst (pc := 1) (v := 3) hx hb dX0_fillFromBefore_1 (by decide) ?_
  refine lv_imul (pc := 2) hx hb dX0_fillFromBefore_2 ?_
  refine lv_istore_n (pc := 3) (lv' := [(2, .int (p0 * 3)), (0, .ref h), (1, .int p0)]) hx hb dX0_fillFromBefore_3 rfl hl (by decide) rfl (fun ls hl => ?_)
  refine lv_aload_n (pc := 4) hx hb dX0_fillFromBefore_4 rfl (lv_at hl 1 rfl) ?_
  refine r_get (pc := 5) C hP 0 rfl fl_X0_9 rfl dX0_fillFromBefore_5 ?_
  refine lv_iload_n (pc := 8) hx hb dX0_fillFromBefore_8 rfl (lv_at hl 0 rfl) ?_
  refine lv_iconst (pc := 9) (v := 3) hx hb dX0_fillFromBefore_9 (by decide) ?_
  refine lv_isub (pc := 10) hx hb dX0_fillFromBefore_10 ?_
  refine lv_aload_n (pc := 11) hx hb dX0_fillFromBefore_11 rfl (lv_at hl 1 rfl) ?_
  refine r_get (pc := 12) C hP 0 rfl fl_X0_9 rfl dX0_fillFromBefore_12 ?_
  refine lv_iload_n (pc := 15) hx hb dX0_fillFromBefore_15 rfl (lv_at hl 0 rfl) ?_
  refine lv_iconst (pc := 16) (v := 3) hx hb dX0_fillFromBefore_16 (by decide) ?_
  obtain ⟨hg_17, hf⟩ := cpg_s hf
  refine r_copyi (pc := 17) (t0 := 0) (ws' := (wX0_fillFromBefore E h h_trial h_inn h_dreams h_plain h_set h_tried h_kin h_fitters h_inn_house h_inn_thingIn h_inn_full h_inn_states h_inn_bed h_inn_dreamOf h_inn_listensIn v_count v_fitting (va_cpy v_dreams v_dreams ((p0 * 3) - 3).toNatClampNeg (p0 * 3).toNatClampNeg (3 : Int32).toNatClampNeg) v_inn_minutes v_inn_things v_inn_dreams v_inn_sleepers v_inn_listeners)) C sc_X0_63 (Nat.le_of_ble_eq_true rfl) (Nat.le_of_ble_eq_true rfl) hP hD hS hl.1 1 1 rfl rfl rfl rfl hg_17.1 hg_17.2.1 hg_17.2.2.1 hg_17.2.2.2.1 hg_17.2.2.2.2 (fun _ _ => rfl) rfl dX0_fillFromBefore_17 ?_
  clear hP hD hS; intro H locs hP hD hS
  refine lv_aload_n (pc := 20) hx hb dX0_fillFromBefore_20 rfl (lv_at hl 1 rfl) ?_
  refine r_get (pc := 21) C hP 0 rfl fl_X0_35 rfl dX0_fillFromBefore_21 ?_
  refine r_get (pc := 24) C hP 2 rfl fl_X0_52 rfl dX0_fillFromBefore_24 ?_
  refine lv_iconst (pc := 27) (v := 1) hx hb dX0_fillFromBefore_27 (by decide) ?_
  refine lv_isub (pc := 28) hx hb dX0_fillFromBefore_28 ?_
  refine lv_istore_n (pc := 29) (lv' := [(3, .int (v_inn_sleepers - 1)), (2, .int (p0 * 3)), (0, .ref h), (1, .int p0)]) hx hb dX0_fillFromBefore_29 rfl hl (by decide) rfl (fun ls hl => ?_)
  have key30 : ∀ (n : Nat) (x30_3 : Int32) (x30_dreams : Nat → Int32) , lp (BX0_fillFromBefore_30 p0 v_inn_dreams) n (x30_3, x30_dreams) = some z → AT p l e (rmOf 1 26) s m args below meth c E A Q 0 0 4 [(0, .ref h), (2, .int (p0 * 3)), (3, .int x30_3)] (wX0_fillFromBefore E h h_trial h_inn h_dreams h_plain h_set h_tried h_kin h_fitters h_inn_house h_inn_thingIn h_inn_full h_inn_states h_inn_bed h_inn_dreamOf h_inn_listensIn v_count v_fitting x30_dreams v_inn_minutes v_inn_things v_inn_dreams v_inn_sleepers v_inn_listeners) 30 [] := by
    intro n
    induction n with
    | zero => intro x30_3 x30_dreams hf; exact (lp_0 hf).elim
    | succ n ih30 =>
      intro x30_3 x30_dreams hf H locs ls hl hP hD hS
      replace hf := lp_s hf
      generalize lp (BX0_fillFromBefore_30 p0 v_inn_dreams) n = rec30 at ih30 hf
      unfold BX0_fillFromBefore_30 at hf
      replace hf := un2_s hf
      refine lv_iload_n (pc := 30) hx hb dX0_fillFromBefore_30 rfl (lv_at hl 2 rfl) ?_
      refine lv_if_lt (pc := 31) (tgt := 80) hx hb dX0_fillFromBefore_31 (by decide) (fun c_31 => ?_) (fun c_31 => ?_)
      · replace hf := it_t c_31 hf
        cases hf
        rw [hQ]
        exact r_vret C hr hP hD hS dX0_fillFromBefore_80
      · replace hf := it_f c_31 hf
        refine lv_aload_n (pc := 34) hx hb dX0_fillFromBefore_34 rfl (lv_at hl 0 rfl) ?_
        refine r_get (pc := 35) C hP 0 rfl fl_X0_9 rfl dX0_fillFromBefore_35 ?_
        refine lv_iload_n (pc := 38) hx hb dX0_fillFromBefore_38 rfl (lv_at hl 1 rfl) ?_
        refine lv_iload_n (pc := 39) hx hb dX0_fillFromBefore_39 rfl (lv_at hl 2 rfl) ?_
        refine lv_iadd (pc := 40) hx hb dX0_fillFromBefore_40 ?_
        refine lv_dup2_11 (pc := 41) hx hb dX0_fillFromBefore_41 rfl rfl ?_
        obtain ⟨hi_42, hf⟩ := gd_s hf
        refine r_iald (pc := 42) C hP 1 rfl hi_42 dX0_fillFromBefore_42 ?_
        refine lv_iconst (pc := 43) (v := 1) hx hb dX0_fillFromBefore_43 (by decide) ?_
        refine lv_iadd (pc := 44) hx hb dX0_fillFromBefore_44 ?_
        obtain ⟨hi_45, hf⟩ := gd_s hf
        refine r_iast (pc := 45) (ws' := (wX0_fillFromBefore E h h_trial h_inn h_dreams h_plain h_set h_tried h_kin h_fitters h_inn_house h_inn_thingIn h_inn_full h_inn_states h_inn_bed h_inn_dreamOf h_inn_listensIn v_count v_fitting (upd x30_dreams ((p0 * 3) + x30_3).toNatClampNeg ((x30_dreams ((p0 * 3) + x30_3).toNatClampNeg) + 1)) v_inn_minutes v_inn_things v_inn_dreams v_inn_sleepers v_inn_listeners)) C hP hD hS 1 rfl hi_45 rfl dX0_fillFromBefore_45 ?_
        clear hP hD hS; intro H locs hP hD hS
        refine lv_aload_n (pc := 46) hx hb dX0_fillFromBefore_46 rfl (lv_at hl 0 rfl) ?_
        refine r_get (pc := 47) C hP 0 rfl fl_X0_9 rfl dX0_fillFromBefore_47 ?_
        refine lv_iload_n (pc := 50) hx hb dX0_fillFromBefore_50 rfl (lv_at hl 1 rfl) ?_
        refine lv_iload_n (pc := 51) hx hb dX0_fillFromBefore_51 rfl (lv_at hl 2 rfl) ?_
        refine lv_iadd (pc := 52) hx hb dX0_fillFromBefore_52 ?_
        obtain ⟨hi_53, hf⟩ := gd_s hf
        refine r_iald (pc := 53) C hP 1 rfl hi_53 dX0_fillFromBefore_53 ?_
        refine lv_aload_n (pc := 54) hx hb dX0_fillFromBefore_54 rfl (lv_at hl 0 rfl) ?_
        refine r_get (pc := 55) C hP 0 rfl fl_X0_35 rfl dX0_fillFromBefore_55 ?_
        refine r_get (pc := 58) C hP 2 rfl fl_X0_57 rfl dX0_fillFromBefore_58 ?_
        refine lv_icmp_ge (pc := 61) (tgt := 65) hx hb dX0_fillFromBefore_61 (by decide) (fun c_61 => ?_) (fun c_61 => ?_)
        · replace hf := it_t c_61 hf
          refine lv_aload_n (pc := 65) hx hb dX0_fillFromBefore_65 rfl (lv_at hl 0 rfl) ?_
          refine r_get (pc := 66) C hP 0 rfl fl_X0_9 rfl dX0_fillFromBefore_66 ?_
          refine lv_iload_n (pc := 69) hx hb dX0_fillFromBefore_69 rfl (lv_at hl 1 rfl) ?_
          refine lv_iload_n (pc := 70) hx hb dX0_fillFromBefore_70 rfl (lv_at hl 2 rfl) ?_
          refine lv_iadd (pc := 71) hx hb dX0_fillFromBefore_71 ?_
          refine lv_iconst (pc := 72) (v := 0) hx hb dX0_fillFromBefore_72 (by decide) ?_
          obtain ⟨hi_73, hf⟩ := gd_s hf
          refine r_iast (pc := 73) (ws' := (wX0_fillFromBefore E h h_trial h_inn h_dreams h_plain h_set h_tried h_kin h_fitters h_inn_house h_inn_thingIn h_inn_full h_inn_states h_inn_bed h_inn_dreamOf h_inn_listensIn v_count v_fitting (upd (upd x30_dreams ((p0 * 3) + x30_3).toNatClampNeg ((x30_dreams ((p0 * 3) + x30_3).toNatClampNeg) + 1)) ((p0 * 3) + x30_3).toNatClampNeg 0) v_inn_minutes v_inn_things v_inn_dreams v_inn_sleepers v_inn_listeners)) C hP hD hS 1 rfl hi_73 rfl dX0_fillFromBefore_73 ?_
          clear hP hD hS; intro H locs hP hD hS
          refine lv_iinc (pc := 74) (v := x30_3 + (-1)) (lv' := [(3, .int (x30_3 + (-1))), (0, .ref h), (2, .int (p0 * 3))]) hx hb dX0_fillFromBefore_74 hl (k := 2) rfl (congrArg (fun z => x30_3 + z) (by decide)) (by decide) rfl (fun ls hl => ?_)
          refine lv_goto (pc := 77) (tgt := 30) hx hb dX0_fillFromBefore_77 (by decide) ?_
          exact ih30 (x30_3 + (-1)) (upd (upd x30_dreams ((p0 * 3) + x30_3).toNatClampNeg ((x30_dreams ((p0 * 3) + x30_3).toNatClampNeg) + 1)) ((p0 * 3) + x30_3).toNatClampNeg 0) hf _ _ _ (lv_sub hl [1, 2, 0] rfl) hP hD hS
        · replace hf := it_f c_61 hf
          cases hf
          rw [hQ]
          exact r_vret C hr hP hD hS dX0_fillFromBefore_64
  exact key30 _ (v_inn_sleepers - 1) (va_cpy v_dreams v_dreams ((p0 * 3) - 3).toNatClampNeg (p0 * 3).toNatClampNeg (3 : Int32).toNatClampNeg) hf _ _ _ (lv_sub hl [2, 1, 0] rfl) hP hD hS
def wX0_moveTo (E : EN) (h h_trial h_inn h_dreams h_plain h_set h_tried h_kin h_fitters a0 a0_house a0_thingIn a0_full a0_states a0_bed a0_dreamOf a0_listensIn : Nat) (v_count : Int32) (v_fitting : Int32) (v_a0_minutes : Int32) (v_a0_things : Int32) (v_a0_dreams : Int32) (v_a0_sleepers : Int32) (v_a0_listeners : Int32) (v_dreams : Nat → Int32) (v_tried : Nat → Int32) : va_W := [(h, .inr (0, [.ref h_trial, .ref h_inn, .int v_count, .ref h_dreams, .ref h_plain, .ref h_set, .ref h_tried, .ref h_kin, .int v_fitting, .ref h_fitters])), (a0, .inr (2, [.ref a0_house, .int v_a0_minutes, .int v_a0_things, .ref a0_thingIn, .ref a0_full, .int v_a0_dreams, .ref a0_states, .int v_a0_sleepers, .ref a0_bed, .ref a0_dreamOf, .int v_a0_listeners, .ref a0_listensIn])), (h_dreams, aI E 192 v_dreams), (h_tried, aZ E 21 v_tried)]
def BX0_moveTo_68 (x66_count : Int32) (x26_tried : Nat → Int32) (N : Nat) (v_a0_dreams : Int32) (v_a0_sleepers : Int32) (rec68 : (Int32 × (Nat → Int32)) → Option (Int32 × (Nat → Int32) × (Nat → Int32))) : (Int32 × (Nat → Int32)) → Option (Int32 × (Nat → Int32) × (Nat → Int32)) := un2 fun (x68_2 : Int32) (x68_dreams : Nat → Int32) => if x66_count ≤ x68_2 then (some (x66_count, x68_dreams, x26_tried)) else ((fX0_fillFromBefore N x68_2 x68_dreams v_a0_dreams v_a0_sleepers).bind (un1 fun (v_dreams_78 : Nat → Int32) => rec68 (x68_2 + 1, v_dreams_78)))
def BX0_moveTo_33 (v_a0_sleepers : Int32) (v_a0_dreams : Int32) (K66 : (Int32) → Option (Int32 × (Nat → Int32) × (Nat → Int32))) (rec33 : (Int32 × Int32) → Option (Int32 × (Nat → Int32) × (Nat → Int32))) : (Int32 × Int32) → Option (Int32 × (Nat → Int32) × (Nat → Int32)) := un2 fun (x33_2 : Int32) (x33_count : Int32) => if v_a0_sleepers ≤ x33_2 then (K66 x33_count) else (rec33 (x33_2 + 1, x33_count * v_a0_dreams))
def BX0_moveTo_7 (K26 : ((Nat → Int32)) → Option (Int32 × (Nat → Int32) × (Nat → Int32))) (rec7 : (Int32 × (Nat → Int32)) → Option (Int32 × (Nat → Int32) × (Nat → Int32))) : (Int32 × (Nat → Int32)) → Option (Int32 × (Nat → Int32) × (Nat → Int32)) := un2 fun (x7_2 : Int32) (x7_tried : Nat → Int32) => if 21 ≤ x7_2 then (K26 x7_tried) else (gd x7_2 21 (rec7 (x7_2 + 1, upd x7_tried x7_2.toNatClampNeg 0)))
def fX0_moveTo (N : Nat) (v_a0_dreams : Int32) (v_a0_sleepers : Int32) (v_dreams : Nat → Int32) (v_tried : Nat → Int32) : Option (Int32 × (Nat → Int32) × (Nat → Int32)) := lp (BX0_moveTo_7 (un1 fun (x26_tried : Nat → Int32) => lp (BX0_moveTo_33 v_a0_sleepers v_a0_dreams (un1 fun (x66_count : Int32) => lp (BX0_moveTo_68 x66_count x26_tried N v_a0_dreams v_a0_sleepers) N (1, v_dreams))) N (0, 1))) N (0, v_tried)
set_option maxHeartbeats 4000000 in
set_option maxRecDepth 100000 in
theorem ctX0_moveTo (l : Launch) (E : EN) (h h_trial h_inn h_dreams h_plain h_set h_tried h_kin h_fitters a0 a0_house a0_thingIn a0_full a0_states a0_bed a0_dreamOf a0_listensIn : Nat) (v_count : Int32) (v_fitting : Int32) (v_a0_minutes : Int32) (v_a0_things : Int32) (v_a0_dreams : Int32) (v_a0_sleepers : Int32) (v_a0_listeners : Int32) (v_dreams : Nat → Int32) (v_tried : Nat → Int32) (N : Nat) (z : Int32 × (Nat → Int32) × (Nat → Int32)) (hf : fX0_moveTo N v_a0_dreams v_a0_sleepers v_dreams v_tried = some z) : CTv l E yX0_moveTo cX0_moveTo 3 2 49 [.ref h, .ref a0] (wX0_moveTo E h h_trial h_inn h_dreams h_plain h_set h_tried h_kin h_fitters a0 a0_house a0_thingIn a0_full a0_states a0_bed a0_dreamOf a0_listensIn v_count v_fitting v_a0_minutes v_a0_things v_a0_dreams v_a0_sleepers v_a0_listeners v_dreams v_tried) [(h, .inr (0, [.ref h_trial, .ref a0, .int z.1, .ref h_dreams, .ref h_plain, .ref h_set, .ref h_tried, .ref h_kin, .int v_fitting, .ref h_fitters])), (a0, .inr (2, [.ref a0_house, .int v_a0_minutes, .int v_a0_things, .ref a0_thingIn, .ref a0_full, .int v_a0_dreams, .ref a0_states, .int v_a0_sleepers, .ref a0_bed, .ref a0_dreamOf, .int v_a0_listeners, .ref a0_listensIn])), (h_dreams, aI E 192 z.2.1), (h_tried, aZ E 21 z.2.2)] := by
  intro sz
  refine ct_body (by decide) (Nat.le_of_ble_eq_true rfl) ?_
  intro p e s m args below meth c A ls hAe C hr hin hP hD hS hl
  have C : CX p s m args meth c cX0_moveTo RX0 3 E A := C
  have hl : lv_has ls 3 [(0, .ref h), (1, .ref a0)] := hl
  have hx := C.1
  have hb := C.2.1
  rw [hAe]
  clear hAe
  obtain ⟨Q, hQ⟩ : ∃ Q, Q = MQ below (Qv E A [(h, .inr (0, [.ref h_trial, .ref a0, .int z.1, .ref h_dreams, .ref h_plain, .ref h_set, .ref h_tried, .ref h_kin, .int v_fitting, .ref h_fitters])), (a0, .inr (2, [.ref a0_house, .int v_a0_minutes, .int v_a0_things, .ref a0_thingIn, .ref a0_full, .int v_a0_dreams, .ref a0_states, .int v_a0_sleepers, .ref a0_bed, .ref a0_dreamOf, .int v_a0_listeners, .ref a0_listensIn])), (h_dreams, aI E 192 z.2.1), (h_tried, aZ E 21 z.2.2)]) args s 0 0 A := ⟨_, rfl⟩
  rw [← hQ]
  unfold fX0_moveTo at hf
  refine lv_aload_n (pc := 0) hx hb dX0_moveTo_0 rfl (lv_at hl 0 rfl) ?_
  refine lv_aload_n (pc := 1) hx hb dX0_moveTo_1 rfl (lv_at hl 1 rfl) ?_
  refine r_put (pc := 2) (ws' := [(h, .inr (0, [.ref h_trial, .ref a0, .int v_count, .ref h_dreams, .ref h_plain, .ref h_set, .ref h_tried, .ref h_kin, .int v_fitting, .ref h_fitters])), (a0, .inr (2, [.ref a0_house, .int v_a0_minutes, .int v_a0_things, .ref a0_thingIn, .ref a0_full, .int v_a0_dreams, .ref a0_states, .int v_a0_sleepers, .ref a0_bed, .ref a0_dreamOf, .int v_a0_listeners, .ref a0_listensIn])), (h_dreams, aI E 192 v_dreams), (h_tried, aZ E 21 v_tried)]) C hP hD hS 0 rfl fl_X0_35 rfl rfl (Nat.le_of_ble_eq_true rfl) rfl dX0_moveTo_2 ?_
  clear hP hD hS; intro H locs hP hD hS
  refine lv_iconst (pc := 5) (v := 0) hx hb dX0_moveTo_5 (by decide) ?_
  refine lv_istore_n (pc := 6) (lv' := [(2, .int 0), (0, .ref h), (1, .ref a0)]) hx hb dX0_moveTo_6 rfl hl (by decide) rfl (fun ls hl => ?_)
  refine lpK hf (fun K26 eK26 hf => ?_)
  have hK26 : ∀ (x26_tried : Nat → Int32) , K26 x26_tried = some z → AT p l e (rmOf 2 49) s m args below meth c E A Q 0 0 3 [(0, .ref h)] [(h, .inr (0, [.ref h_trial, .ref a0, .int v_count, .ref h_dreams, .ref h_plain, .ref h_set, .ref h_tried, .ref h_kin, .int v_fitting, .ref h_fitters])), (a0, .inr (2, [.ref a0_house, .int v_a0_minutes, .int v_a0_things, .ref a0_thingIn, .ref a0_full, .int v_a0_dreams, .ref a0_states, .int v_a0_sleepers, .ref a0_bed, .ref a0_dreamOf, .int v_a0_listeners, .ref a0_listensIn])), (h_dreams, aI E 192 v_dreams), (h_tried, aZ E 21 x26_tried)] 26 [] := by
    intro x26_tried hf H locs ls hl hP hD hS
    rw [eK26] at hf
    replace hf := un1_s hf
    refine lv_aload_n (pc := 26) hx hb dX0_moveTo_26 rfl (lv_at hl 0 rfl) ?_
    refine lv_iconst (pc := 27) (v := 1) hx hb dX0_moveTo_27 (by decide) ?_
    refine r_put (pc := 28) (ws' := [(h, .inr (0, [.ref h_trial, .ref a0, .int 1, .ref h_dreams, .ref h_plain, .ref h_set, .ref h_tried, .ref h_kin, .int v_fitting, .ref h_fitters])), (a0, .inr (2, [.ref a0_house, .int v_a0_minutes, .int v_a0_things, .ref a0_thingIn, .ref a0_full, .int v_a0_dreams, .ref a0_states, .int v_a0_sleepers, .ref a0_bed, .ref a0_dreamOf, .int v_a0_listeners, .ref a0_listensIn])), (h_dreams, aI E 192 v_dreams), (h_tried, aZ E 21 x26_tried)]) C hP hD hS 0 rfl fl_X0_48 rfl rfl (Nat.le_of_ble_eq_true rfl) rfl dX0_moveTo_28 ?_
    clear hP hD hS; intro H locs hP hD hS
    refine lv_iconst (pc := 31) (v := 0) hx hb dX0_moveTo_31 (by decide) ?_
    refine lv_istore_n (pc := 32) (lv' := [(2, .int 0), (0, .ref h)]) hx hb dX0_moveTo_32 rfl hl (by decide) rfl (fun ls hl => ?_)
    refine lpK hf (fun K66 eK66 hf => ?_)
    have hK66 : ∀ (x66_count : Int32) , K66 x66_count = some z → AT p l e (rmOf 2 49) s m args below meth c E A Q 0 0 3 [(0, .ref h)] [(h, .inr (0, [.ref h_trial, .ref a0, .int x66_count, .ref h_dreams, .ref h_plain, .ref h_set, .ref h_tried, .ref h_kin, .int v_fitting, .ref h_fitters])), (a0, .inr (2, [.ref a0_house, .int v_a0_minutes, .int v_a0_things, .ref a0_thingIn, .ref a0_full, .int v_a0_dreams, .ref a0_states, .int v_a0_sleepers, .ref a0_bed, .ref a0_dreamOf, .int v_a0_listeners, .ref a0_listensIn])), (h_dreams, aI E 192 v_dreams), (h_tried, aZ E 21 x26_tried)] 66 [] := by
      intro x66_count hf H locs ls hl hP hD hS
      rw [eK66] at hf
      replace hf := un1_s hf
      refine lv_iconst (pc := 66) (v := 1) hx hb dX0_moveTo_66 (by decide) ?_
      refine lv_istore_n (pc := 67) (lv' := [(2, .int 1), (0, .ref h)]) hx hb dX0_moveTo_67 rfl hl (by decide) rfl (fun ls hl => ?_)
      have key68 : ∀ (n : Nat) (x68_2 : Int32) (x68_dreams : Nat → Int32) , lp (BX0_moveTo_68 x66_count x26_tried N v_a0_dreams v_a0_sleepers) n (x68_2, x68_dreams) = some z → AT p l e (rmOf 2 49) s m args below meth c E A Q 0 0 3 [(0, .ref h), (2, .int x68_2)] [(h, .inr (0, [.ref h_trial, .ref a0, .int x66_count, .ref h_dreams, .ref h_plain, .ref h_set, .ref h_tried, .ref h_kin, .int v_fitting, .ref h_fitters])), (a0, .inr (2, [.ref a0_house, .int v_a0_minutes, .int v_a0_things, .ref a0_thingIn, .ref a0_full, .int v_a0_dreams, .ref a0_states, .int v_a0_sleepers, .ref a0_bed, .ref a0_dreamOf, .int v_a0_listeners, .ref a0_listensIn])), (h_dreams, aI E 192 x68_dreams), (h_tried, aZ E 21 x26_tried)] 68 [] := by
        intro n
        induction n with
        | zero => intro x68_2 x68_dreams hf; exact (lp_0 hf).elim
        | succ n ih68 =>
          intro x68_2 x68_dreams hf H locs ls hl hP hD hS
          replace hf := lp_s hf
          generalize lp (BX0_moveTo_68 x66_count x26_tried N v_a0_dreams v_a0_sleepers) n = rec68 at ih68 hf
          unfold BX0_moveTo_68 at hf
          replace hf := un2_s hf
          refine lv_iload_n (pc := 68) hx hb dX0_moveTo_68 rfl (lv_at hl 1 rfl) ?_
          refine lv_aload_n (pc := 69) hx hb dX0_moveTo_69 rfl (lv_at hl 0 rfl) ?_
          refine r_get (pc := 70) C hP 0 rfl fl_X0_48 rfl dX0_moveTo_70 ?_
          refine lv_icmp_ge (pc := 73) (tgt := 87) hx hb dX0_moveTo_73 (by decide) (fun c_73 => ?_) (fun c_73 => ?_)
          · replace hf := it_t c_73 hf
            cases hf
            rw [hQ]
            exact r_vret C hr hP hD hS dX0_moveTo_87
          · replace hf := it_f c_73 hf
            refine lv_aload_n (pc := 76) hx hb dX0_moveTo_76 rfl (lv_at hl 0 rfl) ?_
            refine lv_iload_n (pc := 77) hx hb dX0_moveTo_77 rfl (lv_at hl 1 rfl) ?_
            obtain ⟨v_dreams_78, hc_78, hf⟩ := bd1 hf
            refine r_dalVv (pc := 78) (ws' := [(h, .inr (0, [.ref h_trial, .ref a0, .int x66_count, .ref h_dreams, .ref h_plain, .ref h_set, .ref h_tried, .ref h_kin, .int v_fitting, .ref h_fitters])), (a0, .inr (2, [.ref a0_house, .int v_a0_minutes, .int v_a0_things, .ref a0_thingIn, .ref a0_full, .int v_a0_dreams, .ref a0_states, .int v_a0_sleepers, .ref a0_bed, .ref a0_dreamOf, .int v_a0_listeners, .ref a0_listensIn])), (h_dreams, aI E 192 v_dreams_78), (h_tried, aZ E 21 x26_tried)]) (As := [.int x68_2]) (rest := []) C (ctX0_fillFromBefore l E h h_trial a0 h_dreams h_plain h_set h_tried h_kin h_fitters a0_house a0_thingIn a0_full a0_states a0_bed a0_dreamOf a0_listensIn x66_count v_fitting x68_dreams v_a0_minutes v_a0_things v_a0_dreams v_a0_sleepers v_a0_listeners N x68_2 v_dreams_78 hc_78) ml_X0_59 ⟨Nat.le_of_ble_eq_true rfl, Nat.le_of_ble_eq_true rfl⟩ hP hD hS 0 rfl rfl rfl [0, 2, 1] [4, 6, 5, 3] 4 rfl rfl rfl rfl rfl rfl rfl hl.1 rfl (Nat.le_of_ble_eq_true rfl) ⟨Nat.zero_le _, Nat.zero_le _⟩ dX0_moveTo_78 ?_
            clear hP hD hS; intro H locs hP hD hS
            refine lv_iinc (pc := 81) (v := x68_2 + 1) (lv' := [(2, .int (x68_2 + 1)), (0, .ref h)]) hx hb dX0_moveTo_81 hl (k := 1) rfl rfl (by decide) rfl (fun ls hl => ?_)
            refine lv_goto (pc := 84) (tgt := 68) hx hb dX0_moveTo_84 (by decide) ?_
            exact ih68 (x68_2 + 1) v_dreams_78 hf _ _ _ (lv_sub hl [1, 0] rfl) hP hD hS
      exact key68 _ 1 v_dreams hf _ _ _ (lv_sub hl [1, 0] rfl) hP hD hS
    clear eK66
    have key33 : ∀ (n : Nat) (x33_2 : Int32) (x33_count : Int32) , lp (BX0_moveTo_33 v_a0_sleepers v_a0_dreams K66) n (x33_2, x33_count) = some z → AT p l e (rmOf 2 49) s m args below meth c E A Q 0 0 3 [(0, .ref h), (2, .int x33_2)] [(h, .inr (0, [.ref h_trial, .ref a0, .int x33_count, .ref h_dreams, .ref h_plain, .ref h_set, .ref h_tried, .ref h_kin, .int v_fitting, .ref h_fitters])), (a0, .inr (2, [.ref a0_house, .int v_a0_minutes, .int v_a0_things, .ref a0_thingIn, .ref a0_full, .int v_a0_dreams, .ref a0_states, .int v_a0_sleepers, .ref a0_bed, .ref a0_dreamOf, .int v_a0_listeners, .ref a0_listensIn])), (h_dreams, aI E 192 v_dreams), (h_tried, aZ E 21 x26_tried)] 33 [] := by
      intro n
      induction n with
      | zero => intro x33_2 x33_count hf; exact (lp_0 hf).elim
      | succ n ih33 =>
        intro x33_2 x33_count hf H locs ls hl hP hD hS
        replace hf := lp_s hf
        generalize lp (BX0_moveTo_33 v_a0_sleepers v_a0_dreams K66) n = rec33 at ih33 hf
        unfold BX0_moveTo_33 at hf
        replace hf := un2_s hf
        refine lv_iload_n (pc := 33) hx hb dX0_moveTo_33 rfl (lv_at hl 1 rfl) ?_
        refine lv_aload_n (pc := 34) hx hb dX0_moveTo_34 rfl (lv_at hl 0 rfl) ?_
        refine r_get (pc := 35) C hP 0 rfl fl_X0_35 rfl dX0_moveTo_35 ?_
        refine r_get (pc := 38) C hP 1 rfl fl_X0_52 rfl dX0_moveTo_38 ?_
        refine lv_icmp_ge (pc := 41) (tgt := 66) hx hb dX0_moveTo_41 (by decide) (fun c_41 => ?_) (fun c_41 => ?_)
        · replace hf := it_t c_41 hf
          exact hK66 x33_count hf _ _ _ (lv_sub hl [0] rfl) hP hD hS
        · replace hf := it_f c_41 hf
          refine lv_aload_n (pc := 44) hx hb dX0_moveTo_44 rfl (lv_at hl 0 rfl) ?_
          refine lv_dup (pc := 45) hx hb dX0_moveTo_45 rfl ?_
          refine r_get (pc := 46) C hP 0 rfl fl_X0_48 rfl dX0_moveTo_46 ?_
          refine lv_aload_n (pc := 49) hx hb dX0_moveTo_49 rfl (lv_at hl 0 rfl) ?_
          refine r_get (pc := 50) C hP 0 rfl fl_X0_35 rfl dX0_moveTo_50 ?_
          refine r_get (pc := 53) C hP 1 rfl fl_X0_57 rfl dX0_moveTo_53 ?_
          refine lv_imul (pc := 56) hx hb dX0_moveTo_56 ?_
          refine r_put (pc := 57) (ws' := [(h, .inr (0, [.ref h_trial, .ref a0, .int (x33_count * v_a0_dreams), .ref h_dreams, .ref h_plain, .ref h_set, .ref h_tried, .ref h_kin, .int v_fitting, .ref h_fitters])), (a0, .inr (2, [.ref a0_house, .int v_a0_minutes, .int v_a0_things, .ref a0_thingIn, .ref a0_full, .int v_a0_dreams, .ref a0_states, .int v_a0_sleepers, .ref a0_bed, .ref a0_dreamOf, .int v_a0_listeners, .ref a0_listensIn])), (h_dreams, aI E 192 v_dreams), (h_tried, aZ E 21 x26_tried)]) C hP hD hS 0 rfl fl_X0_48 rfl rfl (Nat.le_of_ble_eq_true rfl) rfl dX0_moveTo_57 ?_
          clear hP hD hS; intro H locs hP hD hS
          refine lv_iinc (pc := 60) (v := x33_2 + 1) (lv' := [(2, .int (x33_2 + 1)), (0, .ref h)]) hx hb dX0_moveTo_60 hl (k := 1) rfl rfl (by decide) rfl (fun ls hl => ?_)
          refine lv_goto (pc := 63) (tgt := 33) hx hb dX0_moveTo_63 (by decide) ?_
          exact ih33 (x33_2 + 1) (x33_count * v_a0_dreams) hf _ _ _ (lv_sub hl [1, 0] rfl) hP hD hS
    exact key33 _ 0 1 hf _ _ _ (lv_sub hl [1, 0] rfl) hP hD hS
  clear eK26
  have key7 : ∀ (n : Nat) (x7_2 : Int32) (x7_tried : Nat → Int32) , lp (BX0_moveTo_7 K26) n (x7_2, x7_tried) = some z → AT p l e (rmOf 2 49) s m args below meth c E A Q 0 0 3 [(0, .ref h), (2, .int x7_2)] [(h, .inr (0, [.ref h_trial, .ref a0, .int v_count, .ref h_dreams, .ref h_plain, .ref h_set, .ref h_tried, .ref h_kin, .int v_fitting, .ref h_fitters])), (a0, .inr (2, [.ref a0_house, .int v_a0_minutes, .int v_a0_things, .ref a0_thingIn, .ref a0_full, .int v_a0_dreams, .ref a0_states, .int v_a0_sleepers, .ref a0_bed, .ref a0_dreamOf, .int v_a0_listeners, .ref a0_listensIn])), (h_dreams, aI E 192 v_dreams), (h_tried, aZ E 21 x7_tried)] 7 [] := by
    intro n
    induction n with
    | zero => intro x7_2 x7_tried hf; exact (lp_0 hf).elim
    | succ n ih7 =>
      intro x7_2 x7_tried hf H locs ls hl hP hD hS
      replace hf := lp_s hf
      generalize lp (BX0_moveTo_7 K26) n = rec7 at ih7 hf
      unfold BX0_moveTo_7 at hf
      replace hf := un2_s hf
      refine lv_iload_n (pc := 7) hx hb dX0_moveTo_7 rfl (lv_at hl 1 rfl) ?_
      refine lv_bipush (pc := 8) (v := 21) hx hb dX0_moveTo_8 (by decide) ?_
      refine lv_icmp_ge (pc := 10) (tgt := 26) hx hb dX0_moveTo_10 (by decide) (fun c_10 => ?_) (fun c_10 => ?_)
      · replace hf := it_t c_10 hf
        exact hK26 x7_tried hf _ _ _ (lv_sub hl [0] rfl) hP hD hS
      · replace hf := it_f c_10 hf
        refine lv_aload_n (pc := 13) hx hb dX0_moveTo_13 rfl (lv_at hl 0 rfl) ?_
        refine r_get (pc := 14) C hP 0 rfl fl_X0_25 rfl dX0_moveTo_14 ?_
        refine lv_iload_n (pc := 17) hx hb dX0_moveTo_17 rfl (lv_at hl 1 rfl) ?_
        refine lv_iconst (pc := 18) (v := 0) hx hb dX0_moveTo_18 (by decide) ?_
        obtain ⟨hi_19, hf⟩ := gd_s hf
        refine r_zast (pc := 19) (ws' := [(h, .inr (0, [.ref h_trial, .ref a0, .int v_count, .ref h_dreams, .ref h_plain, .ref h_set, .ref h_tried, .ref h_kin, .int v_fitting, .ref h_fitters])), (a0, .inr (2, [.ref a0_house, .int v_a0_minutes, .int v_a0_things, .ref a0_thingIn, .ref a0_full, .int v_a0_dreams, .ref a0_states, .int v_a0_sleepers, .ref a0_bed, .ref a0_dreamOf, .int v_a0_listeners, .ref a0_listensIn])), (h_dreams, aI E 192 v_dreams), (h_tried, aZ E 21 (upd x7_tried x7_2.toNatClampNeg 0))]) C hP hD hS 3 rfl hi_19 (Or.inl rfl) rfl dX0_moveTo_19 ?_
        clear hP hD hS; intro H locs hP hD hS
        refine lv_iinc (pc := 20) (v := x7_2 + 1) (lv' := [(2, .int (x7_2 + 1)), (0, .ref h)]) hx hb dX0_moveTo_20 hl (k := 1) rfl rfl (by decide) rfl (fun ls hl => ?_)
        refine lv_goto (pc := 23) (tgt := 7) hx hb dX0_moveTo_23 (by decide) ?_
        exact ih7 (x7_2 + 1) (upd x7_tried x7_2.toNatClampNeg 0) hf _ _ _ (lv_sub hl [1, 0] rfl) hP hD hS
  exact key7 _ 0 v_tried hf _ _ _ (lv_sub hl [1, 0] rfl) hP hD hS
def wX10_moveIn (E : EN) (h h_reader h_inn h_chosen h_night h_marks h_notes h_casts h_inn_house h_inn_thingIn h_inn_full h_inn_states h_inn_bed h_inn_dreamOf h_inn_listensIn h_night_ways h_night_how h_night_passed h_night_dreamOf h_night_stateOf h_night_roomOf h_night_handOf h_night_awake h_night_thingIn h_night_full h_night_heardBy h_inn_house_creak h_inn_house_cold h_inn_house_one h_inn_house_other h_inn_house_how h_inn_house_falls h_inn_house_ways h_night_ways_steps h_notes_book h_notes_sort h_notes_one h_notes_other h_casts_trial h_casts_inn h_casts_dreams h_casts_plain h_casts_set h_casts_tried h_casts_kin h_casts_fitters : Nat) (v_marked : Int32) (v_refusal : Int32) (v_latestFault : Int32) (v_faultPlace : Int32) (v_inn_minutes : Int32) (v_inn_things : Int32) (v_inn_dreams : Int32) (v_inn_sleepers : Int32) (v_inn_listeners : Int32) (v_inn_dreamOf : Nat → Int32) (v_chosen : Nat → Int32) (v_night_inn : Option Nat) (v_night_setting : Int32) (v_night_been : Int32) (v_inn_house_rooms : Int32) (v_inn_house_doors : Int32) (v_inn_house_how : Nat → Int32) (v_night_ways_rooms : Int32) (v_night_ways_steps : Nat → Int32) (v_inn_house_one : Nat → Int32) (v_inn_house_other : Nat → Int32) (v_inn_thingIn : Nat → Int32) (v_night_thingIn : Nat → Int32) (v_inn_full : Nat → Int32) (v_night_full : Nat → Int32) (v_night_heardBy : Nat → Int64) (v_night_dreamOf : Nat → Int32) (v_night_stateOf : Nat → Int32) (v_inn_bed : Nat → Int32) (v_night_roomOf : Nat → Int32) (v_night_handOf : Nat → Int32) (v_night_awake : Nat → Int32) (v_night_how : Nat → Int32) (v_night_passed : Nat → Int32) (v_notes_count : Int32) (v_casts_count : Int32) (v_casts_fitting : Int32) (v_casts_dreams : Nat → Int32) (v_casts_tried : Nat → Int32) : va_W := [(h, .inr (9, [.ref h_reader, .ref h_inn, .ref h_chosen, .ref h_night, .ref h_marks, .int v_marked, .ref h_notes, .ref h_casts, .int v_refusal, .int v_latestFault, .int v_faultPlace])), (h_inn, .inr (2, [.ref h_inn_house, .int v_inn_minutes, .int v_inn_things, .ref h_inn_thingIn, .ref h_inn_full, .int v_inn_dreams, .ref h_inn_states, .int v_inn_sleepers, .ref h_inn_bed, .ref h_inn_dreamOf, .int v_inn_listeners, .ref h_inn_listensIn])), (h_inn_dreamOf, aI E 3 v_inn_dreamOf), (h_chosen, aI E 3 v_chosen), (h_night, .inr (4, [va_rf v_night_inn, .int v_night_setting, .int v_night_been, .ref h_night_ways, .ref h_night_how, .ref h_night_passed, .ref h_night_dreamOf, .ref h_night_stateOf, .ref h_night_roomOf, .ref h_night_handOf, .ref h_night_awake, .ref h_night_thingIn, .ref h_night_full, .ref h_night_heardBy])), (h_inn_house, .inr (1, [.int v_inn_house_rooms, .ref h_inn_house_creak, .ref h_inn_house_cold, .int v_inn_house_doors, .ref h_inn_house_one, .ref h_inn_house_other, .ref h_inn_house_how, .ref h_inn_house_falls, .ref h_inn_house_ways])), (h_inn_house_how, aI E 10 v_inn_house_how), (h_night_ways, .inr (8, [.ref h_night_ways_steps, .int v_night_ways_rooms])), (h_night_ways_steps, aI E 64 v_night_ways_steps), (h_inn_house_one, aI E 10 v_inn_house_one), (h_inn_house_other, aI E 10 v_inn_house_other), (h_inn_thingIn, aI E 4 v_inn_thingIn), (h_night_thingIn, aI E 4 v_night_thingIn), (h_inn_full, aZ E 4 v_inn_full), (h_night_full, aZ E 4 v_night_full), (h_night_heardBy, aJ E 3 v_night_heardBy), (h_night_dreamOf, aI E 3 v_night_dreamOf), (h_night_stateOf, aI E 3 v_night_stateOf), (h_inn_bed, aI E 3 v_inn_bed), (h_night_roomOf, aI E 3 v_night_roomOf), (h_night_handOf, aI E 3 v_night_handOf), (h_night_awake, aZ E 3 v_night_awake), (h_night_how, aI E 10 v_night_how), (h_night_passed, aI E 10 v_night_passed), (h_notes, .inr (5, [.ref h_notes_book, .ref h_notes_sort, .ref h_notes_one, .ref h_notes_other, .int v_notes_count])), (h_casts, .inr (0, [.ref h_casts_trial, .ref h_casts_inn, .int v_casts_count, .ref h_casts_dreams, .ref h_casts_plain, .ref h_casts_set, .ref h_casts_tried, .ref h_casts_kin, .int v_casts_fitting, .ref h_casts_fitters])), (h_casts_dreams, aI E 192 v_casts_dreams), (h_casts_tried, aZ E 21 v_casts_tried)]
def fX10_moveIn (N : Nat) (v_inn_dreams : Int32) (v_inn_sleepers : Int32) (v_inn_dreamOf : Nat → Int32) (v_chosen : Nat → Int32) (v_inn_house_rooms : Int32) (v_inn_house_doors : Int32) (v_inn_house_how : Nat → Int32) (v_night_ways_steps : Nat → Int32) (v_inn_house_one : Nat → Int32) (v_inn_house_other : Nat → Int32) (v_inn_thingIn : Nat → Int32) (v_night_thingIn : Nat → Int32) (v_inn_full : Nat → Int32) (v_night_full : Nat → Int32) (v_night_heardBy : Nat → Int64) (v_night_dreamOf : Nat → Int32) (v_night_stateOf : Nat → Int32) (v_inn_bed : Nat → Int32) (v_night_roomOf : Nat → Int32) (v_night_handOf : Nat → Int32) (v_night_awake : Nat → Int32) (v_night_how : Nat → Int32) (v_night_passed : Nat → Int32) (v_casts_dreams : Nat → Int32) (v_casts_tried : Nat → Int32) : Option (Int32 × (Nat → Int32) × Int32 × Int32 × Int32 × (Nat → Int32) × (Nat → Int32) × (Nat → Int32) × (Nat → Int64) × (Nat → Int32) × (Nat → Int32) × (Nat → Int32) × (Nat → Int32) × (Nat → Int32) × (Nat → Int32) × (Nat → Int32) × Int32 × Int32 × (Nat → Int32) × (Nat → Int32)) := cpg 0 0 3 3 3 ((fX4_prepare N 0 v_inn_house_rooms v_inn_house_doors v_inn_house_how v_night_ways_steps v_inn_house_one v_inn_house_other).bind (un3 fun (v_night_setting_26 : Int32) (v_night_ways_rooms_26 : Int32) (v_night_ways_steps_26 : Nat → Int32) => (fX4_begin N 0 v_night_setting_26 v_inn_sleepers v_inn_house_doors v_inn_thingIn v_night_thingIn v_inn_full v_night_full v_night_heardBy (va_cpy v_inn_dreamOf v_chosen (0 : Int32).toNatClampNeg (0 : Int32).toNatClampNeg (3 : Int32).toNatClampNeg) v_night_dreamOf v_night_stateOf v_inn_bed v_night_roomOf v_night_handOf v_night_awake v_inn_house_how v_night_how v_night_passed).bind (un11 fun (v_night_been_38 : Int32) (v_night_thingIn_38 : Nat → Int32) (v_night_full_38 : Nat → Int32) (v_night_heardBy_38 : Nat → Int64) (v_night_dreamOf_38 : Nat → Int32) (v_night_stateOf_38 : Nat → Int32) (v_night_roomOf_38 : Nat → Int32) (v_night_handOf_38 : Nat → Int32) (v_night_awake_38 : Nat → Int32) (v_night_how_38 : Nat → Int32) (v_night_passed_38 : Nat → Int32) => (fX0_moveTo N v_inn_dreams v_inn_sleepers v_casts_dreams v_casts_tried).bind (un3 fun (v_casts_count_62 : Int32) (v_casts_dreams_62 : Nat → Int32) (v_casts_tried_62 : Nat → Int32) => some (0, va_cpy v_inn_dreamOf v_chosen (0 : Int32).toNatClampNeg (0 : Int32).toNatClampNeg (3 : Int32).toNatClampNeg, v_night_setting_26, v_night_been_38, v_night_ways_rooms_26, v_night_ways_steps_26, v_night_thingIn_38, v_night_full_38, v_night_heardBy_38, v_night_dreamOf_38, v_night_stateOf_38, v_night_roomOf_38, v_night_handOf_38, v_night_awake_38, v_night_how_38, v_night_passed_38, 0, v_casts_count_62, v_casts_dreams_62, v_casts_tried_62)))))
set_option maxHeartbeats 4000000 in
set_option maxRecDepth 100000 in
theorem ctX10_moveIn (l : Launch) (E : EN) (h h_reader h_inn h_chosen h_night h_marks h_notes h_casts h_inn_house h_inn_thingIn h_inn_full h_inn_states h_inn_bed h_inn_dreamOf h_inn_listensIn h_night_ways h_night_how h_night_passed h_night_dreamOf h_night_stateOf h_night_roomOf h_night_handOf h_night_awake h_night_thingIn h_night_full h_night_heardBy h_inn_house_creak h_inn_house_cold h_inn_house_one h_inn_house_other h_inn_house_how h_inn_house_falls h_inn_house_ways h_night_ways_steps h_notes_book h_notes_sort h_notes_one h_notes_other h_casts_trial h_casts_inn h_casts_dreams h_casts_plain h_casts_set h_casts_tried h_casts_kin h_casts_fitters : Nat) (v_marked : Int32) (v_refusal : Int32) (v_latestFault : Int32) (v_faultPlace : Int32) (v_inn_minutes : Int32) (v_inn_things : Int32) (v_inn_dreams : Int32) (v_inn_sleepers : Int32) (v_inn_listeners : Int32) (v_inn_dreamOf : Nat → Int32) (v_chosen : Nat → Int32) (v_night_inn : Option Nat) (v_night_setting : Int32) (v_night_been : Int32) (v_inn_house_rooms : Int32) (v_inn_house_doors : Int32) (v_inn_house_how : Nat → Int32) (v_night_ways_rooms : Int32) (v_night_ways_steps : Nat → Int32) (v_inn_house_one : Nat → Int32) (v_inn_house_other : Nat → Int32) (v_inn_thingIn : Nat → Int32) (v_night_thingIn : Nat → Int32) (v_inn_full : Nat → Int32) (v_night_full : Nat → Int32) (v_night_heardBy : Nat → Int64) (v_night_dreamOf : Nat → Int32) (v_night_stateOf : Nat → Int32) (v_inn_bed : Nat → Int32) (v_night_roomOf : Nat → Int32) (v_night_handOf : Nat → Int32) (v_night_awake : Nat → Int32) (v_night_how : Nat → Int32) (v_night_passed : Nat → Int32) (v_notes_count : Int32) (v_casts_count : Int32) (v_casts_fitting : Int32) (v_casts_dreams : Nat → Int32) (v_casts_tried : Nat → Int32) (N : Nat) (z : Int32 × (Nat → Int32) × Int32 × Int32 × Int32 × (Nat → Int32) × (Nat → Int32) × (Nat → Int32) × (Nat → Int64) × (Nat → Int32) × (Nat → Int32) × (Nat → Int32) × (Nat → Int32) × (Nat → Int32) × (Nat → Int32) × (Nat → Int32) × Int32 × Int32 × (Nat → Int32) × (Nat → Int32)) (hf : fX10_moveIn N v_inn_dreams v_inn_sleepers v_inn_dreamOf v_chosen v_inn_house_rooms v_inn_house_doors v_inn_house_how v_night_ways_steps v_inn_house_one v_inn_house_other v_inn_thingIn v_night_thingIn v_inn_full v_night_full v_night_heardBy v_night_dreamOf v_night_stateOf v_inn_bed v_night_roomOf v_night_handOf v_night_awake v_night_how v_night_passed v_casts_dreams v_casts_tried = some z) : CTv l E yX10_moveIn cX10_moveIn 1 4 93 [.ref h] (wX10_moveIn E h h_reader h_inn h_chosen h_night h_marks h_notes h_casts h_inn_house h_inn_thingIn h_inn_full h_inn_states h_inn_bed h_inn_dreamOf h_inn_listensIn h_night_ways h_night_how h_night_passed h_night_dreamOf h_night_stateOf h_night_roomOf h_night_handOf h_night_awake h_night_thingIn h_night_full h_night_heardBy h_inn_house_creak h_inn_house_cold h_inn_house_one h_inn_house_other h_inn_house_how h_inn_house_falls h_inn_house_ways h_night_ways_steps h_notes_book h_notes_sort h_notes_one h_notes_other h_casts_trial h_casts_inn h_casts_dreams h_casts_plain h_casts_set h_casts_tried h_casts_kin h_casts_fitters v_marked v_refusal v_latestFault v_faultPlace v_inn_minutes v_inn_things v_inn_dreams v_inn_sleepers v_inn_listeners v_inn_dreamOf v_chosen v_night_inn v_night_setting v_night_been v_inn_house_rooms v_inn_house_doors v_inn_house_how v_night_ways_rooms v_night_ways_steps v_inn_house_one v_inn_house_other v_inn_thingIn v_night_thingIn v_inn_full v_night_full v_night_heardBy v_night_dreamOf v_night_stateOf v_inn_bed v_night_roomOf v_night_handOf v_night_awake v_night_how v_night_passed v_notes_count v_casts_count v_casts_fitting v_casts_dreams v_casts_tried) [(h, .inr (9, [.ref h_reader, .ref h_inn, .ref h_chosen, .ref h_night, .ref h_marks, .int z.1, .ref h_notes, .ref h_casts, .int v_refusal, .int v_latestFault, .int v_faultPlace])), (h_inn, .inr (2, [.ref h_inn_house, .int v_inn_minutes, .int v_inn_things, .ref h_inn_thingIn, .ref h_inn_full, .int v_inn_dreams, .ref h_inn_states, .int v_inn_sleepers, .ref h_inn_bed, .ref h_inn_dreamOf, .int v_inn_listeners, .ref h_inn_listensIn])), (h_inn_dreamOf, aI E 3 v_inn_dreamOf), (h_chosen, aI E 3 z.2.1), (h_night, .inr (4, [.ref h_inn, .int z.2.2.1, .int z.2.2.2.1, .ref h_night_ways, .ref h_night_how, .ref h_night_passed, .ref h_night_dreamOf, .ref h_night_stateOf, .ref h_night_roomOf, .ref h_night_handOf, .ref h_night_awake, .ref h_night_thingIn, .ref h_night_full, .ref h_night_heardBy])), (h_inn_house, .inr (1, [.int v_inn_house_rooms, .ref h_inn_house_creak, .ref h_inn_house_cold, .int v_inn_house_doors, .ref h_inn_house_one, .ref h_inn_house_other, .ref h_inn_house_how, .ref h_inn_house_falls, .ref h_inn_house_ways])), (h_inn_house_how, aI E 10 v_inn_house_how), (h_night_ways, .inr (8, [.ref h_night_ways_steps, .int z.2.2.2.2.1])), (h_night_ways_steps, aI E 64 z.2.2.2.2.2.1), (h_inn_house_one, aI E 10 v_inn_house_one), (h_inn_house_other, aI E 10 v_inn_house_other), (h_inn_thingIn, aI E 4 v_inn_thingIn), (h_night_thingIn, aI E 4 z.2.2.2.2.2.2.1), (h_inn_full, aZ E 4 v_inn_full), (h_night_full, aZ E 4 z.2.2.2.2.2.2.2.1), (h_night_heardBy, aJ E 3 z.2.2.2.2.2.2.2.2.1), (h_night_dreamOf, aI E 3 z.2.2.2.2.2.2.2.2.2.1), (h_night_stateOf, aI E 3 z.2.2.2.2.2.2.2.2.2.2.1), (h_inn_bed, aI E 3 v_inn_bed), (h_night_roomOf, aI E 3 z.2.2.2.2.2.2.2.2.2.2.2.1), (h_night_handOf, aI E 3 z.2.2.2.2.2.2.2.2.2.2.2.2.1), (h_night_awake, aZ E 3 z.2.2.2.2.2.2.2.2.2.2.2.2.2.1), (h_night_how, aI E 10 z.2.2.2.2.2.2.2.2.2.2.2.2.2.2.1), (h_night_passed, aI E 10 z.2.2.2.2.2.2.2.2.2.2.2.2.2.2.2.1), (h_notes, .inr (5, [.ref h_notes_book, .ref h_notes_sort, .ref h_notes_one, .ref h_notes_other, .int z.2.2.2.2.2.2.2.2.2.2.2.2.2.2.2.2.1])), (h_casts, .inr (0, [.ref h_casts_trial, .ref h_inn, .int z.2.2.2.2.2.2.2.2.2.2.2.2.2.2.2.2.2.1, .ref h_casts_dreams, .ref h_casts_plain, .ref h_casts_set, .ref h_casts_tried, .ref h_casts_kin, .int v_casts_fitting, .ref h_casts_fitters])), (h_casts_dreams, aI E 192 z.2.2.2.2.2.2.2.2.2.2.2.2.2.2.2.2.2.2.1), (h_casts_tried, aZ E 21 z.2.2.2.2.2.2.2.2.2.2.2.2.2.2.2.2.2.2.2)] := by
  intro sz
  refine ct_body (by decide) (Nat.le_of_ble_eq_true rfl) ?_
  intro p e s m args below meth c A ls hAe C hr hin hP hD hS hl
  have C : CX p s m args meth c cX10_moveIn RX10 1 E A := C
  have hl : lv_has ls 1 [(0, .ref h)] := hl
  have hx := C.1
  have hb := C.2.1
  rw [hAe]
  clear hAe
  obtain ⟨Q, hQ⟩ : ∃ Q, Q = MQ below (Qv E A [(h, .inr (9, [.ref h_reader, .ref h_inn, .ref h_chosen, .ref h_night, .ref h_marks, .int z.1, .ref h_notes, .ref h_casts, .int v_refusal, .int v_latestFault, .int v_faultPlace])), (h_inn, .inr (2, [.ref h_inn_house, .int v_inn_minutes, .int v_inn_things, .ref h_inn_thingIn, .ref h_inn_full, .int v_inn_dreams, .ref h_inn_states, .int v_inn_sleepers, .ref h_inn_bed, .ref h_inn_dreamOf, .int v_inn_listeners, .ref h_inn_listensIn])), (h_inn_dreamOf, aI E 3 v_inn_dreamOf), (h_chosen, aI E 3 z.2.1), (h_night, .inr (4, [.ref h_inn, .int z.2.2.1, .int z.2.2.2.1, .ref h_night_ways, .ref h_night_how, .ref h_night_passed, .ref h_night_dreamOf, .ref h_night_stateOf, .ref h_night_roomOf, .ref h_night_handOf, .ref h_night_awake, .ref h_night_thingIn, .ref h_night_full, .ref h_night_heardBy])), (h_inn_house, .inr (1, [.int v_inn_house_rooms, .ref h_inn_house_creak, .ref h_inn_house_cold, .int v_inn_house_doors, .ref h_inn_house_one, .ref h_inn_house_other, .ref h_inn_house_how, .ref h_inn_house_falls, .ref h_inn_house_ways])), (h_inn_house_how, aI E 10 v_inn_house_how), (h_night_ways, .inr (8, [.ref h_night_ways_steps, .int z.2.2.2.2.1])), (h_night_ways_steps, aI E 64 z.2.2.2.2.2.1), (h_inn_house_one, aI E 10 v_inn_house_one), (h_inn_house_other, aI E 10 v_inn_house_other), (h_inn_thingIn, aI E 4 v_inn_thingIn), (h_night_thingIn, aI E 4 z.2.2.2.2.2.2.1), (h_inn_full, aZ E 4 v_inn_full), (h_night_full, aZ E 4 z.2.2.2.2.2.2.2.1), (h_night_heardBy, aJ E 3 z.2.2.2.2.2.2.2.2.1), (h_night_dreamOf, aI E 3 z.2.2.2.2.2.2.2.2.2.1), (h_night_stateOf, aI E 3 z.2.2.2.2.2.2.2.2.2.2.1), (h_inn_bed, aI E 3 v_inn_bed), (h_night_roomOf, aI E 3 z.2.2.2.2.2.2.2.2.2.2.2.1), (h_night_handOf, aI E 3 z.2.2.2.2.2.2.2.2.2.2.2.2.1), (h_night_awake, aZ E 3 z.2.2.2.2.2.2.2.2.2.2.2.2.2.1), (h_night_how, aI E 10 z.2.2.2.2.2.2.2.2.2.2.2.2.2.2.1), (h_night_passed, aI E 10 z.2.2.2.2.2.2.2.2.2.2.2.2.2.2.2.1), (h_notes, .inr (5, [.ref h_notes_book, .ref h_notes_sort, .ref h_notes_one, .ref h_notes_other, .int z.2.2.2.2.2.2.2.2.2.2.2.2.2.2.2.2.1])), (h_casts, .inr (0, [.ref h_casts_trial, .ref h_inn, .int z.2.2.2.2.2.2.2.2.2.2.2.2.2.2.2.2.2.1, .ref h_casts_dreams, .ref h_casts_plain, .ref h_casts_set, .ref h_casts_tried, .ref h_casts_kin, .int v_casts_fitting, .ref h_casts_fitters])), (h_casts_dreams, aI E 192 z.2.2.2.2.2.2.2.2.2.2.2.2.2.2.2.2.2.2.1), (h_casts_tried, aZ E 21 z.2.2.2.2.2.2.2.2.2.2.2.2.2.2.2.2.2.2.2)]) args s 0 0 A := ⟨_, rfl⟩
  rw [← hQ]
  unfold fX10_moveIn at hf
  refine lv_aload_n (pc := 0) hx hb dX10_moveIn_0 rfl (lv_at hl 0 rfl) ?_
  refine r_get (pc := 1) C hP 0 rfl fl_X10_19 rfl dX10_moveIn_1 ?_
  refine r_get (pc := 4) C hP 1 rfl fl_X10_322 rfl dX10_moveIn_4 ?_
  refine lv_iconst (pc := 7) (v := 0) hx hb dX10_moveIn_7 (by decide) ?_
  refine lv_aload_n (pc := 8) hx hb dX10_moveIn_8 rfl (lv_at hl 0 rfl) ?_
  refine r_get (pc := 9) C hP 0 rfl fl_X10_23 rfl dX10_moveIn_9 ?_
  refine lv_iconst (pc := 12) (v := 0) hx hb dX10_moveIn_12 (by decide) ?_
  refine lv_iconst (pc := 13) (v := 3) hx hb dX10_moveIn_13 (by decide) ?_
  obtain ⟨hg_14, hf⟩ := cpg_s hf
  refine r_copyi (pc := 14) (t0 := 0) (ws' := (wX10_moveIn E h h_reader h_inn h_chosen h_night h_marks h_notes h_casts h_inn_house h_inn_thingIn h_inn_full h_inn_states h_inn_bed h_inn_dreamOf h_inn_listensIn h_night_ways h_night_how h_night_passed h_night_dreamOf h_night_stateOf h_night_roomOf h_night_handOf h_night_awake h_night_thingIn h_night_full h_night_heardBy h_inn_house_creak h_inn_house_cold h_inn_house_one h_inn_house_other h_inn_house_how h_inn_house_falls h_inn_house_ways h_night_ways_steps h_notes_book h_notes_sort h_notes_one h_notes_other h_casts_trial h_casts_inn h_casts_dreams h_casts_plain h_casts_set h_casts_tried h_casts_kin h_casts_fitters v_marked v_refusal v_latestFault v_faultPlace v_inn_minutes v_inn_things v_inn_dreams v_inn_sleepers v_inn_listeners v_inn_dreamOf (va_cpy v_inn_dreamOf v_chosen (0 : Int32).toNatClampNeg (0 : Int32).toNatClampNeg (3 : Int32).toNatClampNeg) v_night_inn v_night_setting v_night_been v_inn_house_rooms v_inn_house_doors v_inn_house_how v_night_ways_rooms v_night_ways_steps v_inn_house_one v_inn_house_other v_inn_thingIn v_night_thingIn v_inn_full v_night_full v_night_heardBy v_night_dreamOf v_night_stateOf v_inn_bed v_night_roomOf v_night_handOf v_night_awake v_night_how v_night_passed v_notes_count v_casts_count v_casts_fitting v_casts_dreams v_casts_tried)) C sc_X10_323 (Nat.le_of_ble_eq_true rfl) (Nat.le_of_ble_eq_true rfl) hP hD hS hl.1 2 3 rfl rfl rfl rfl hg_14.1 hg_14.2.1 hg_14.2.2.1 hg_14.2.2.2.1 hg_14.2.2.2.2 (fun _ _ => rfl) rfl dX10_moveIn_14 ?_
  clear hP hD hS; intro H locs hP hD hS
  refine lv_aload_n (pc := 17) hx hb dX10_moveIn_17 rfl (lv_at hl 0 rfl) ?_
  refine r_get (pc := 18) C hP 0 rfl fl_X10_32 rfl dX10_moveIn_18 ?_
  refine lv_aload_n (pc := 21) hx hb dX10_moveIn_21 rfl (lv_at hl 0 rfl) ?_
  refine r_get (pc := 22) C hP 0 rfl fl_X10_19 rfl dX10_moveIn_22 ?_
  refine lv_iconst (pc := 25) (v := 0) hx hb dX10_moveIn_25 (by decide) ?_
  obtain ⟨v_night_setting_26, v_night_ways_rooms_26, v_night_ways_steps_26, hc_26, hf⟩ := bd3 hf
  refine r_dalVv (pc := 26) (ws' := [(h, .inr (9, [.ref h_reader, .ref h_inn, .ref h_chosen, .ref h_night, .ref h_marks, .int v_marked, .ref h_notes, .ref h_casts, .int v_refusal, .int v_latestFault, .int v_faultPlace])), (h_inn, .inr (2, [.ref h_inn_house, .int v_inn_minutes, .int v_inn_things, .ref h_inn_thingIn, .ref h_inn_full, .int v_inn_dreams, .ref h_inn_states, .int v_inn_sleepers, .ref h_inn_bed, .ref h_inn_dreamOf, .int v_inn_listeners, .ref h_inn_listensIn])), (h_inn_dreamOf, aI E 3 v_inn_dreamOf), (h_chosen, aI E 3 (va_cpy v_inn_dreamOf v_chosen (0 : Int32).toNatClampNeg (0 : Int32).toNatClampNeg (3 : Int32).toNatClampNeg)), (h_night, .inr (4, [.ref h_inn, .int v_night_setting_26, .int v_night_been, .ref h_night_ways, .ref h_night_how, .ref h_night_passed, .ref h_night_dreamOf, .ref h_night_stateOf, .ref h_night_roomOf, .ref h_night_handOf, .ref h_night_awake, .ref h_night_thingIn, .ref h_night_full, .ref h_night_heardBy])), (h_inn_house, .inr (1, [.int v_inn_house_rooms, .ref h_inn_house_creak, .ref h_inn_house_cold, .int v_inn_house_doors, .ref h_inn_house_one, .ref h_inn_house_other, .ref h_inn_house_how, .ref h_inn_house_falls, .ref h_inn_house_ways])), (h_inn_house_how, aI E 10 v_inn_house_how), (h_night_ways, .inr (8, [.ref h_night_ways_steps, .int v_night_ways_rooms_26])), (h_night_ways_steps, aI E 64 v_night_ways_steps_26), (h_inn_house_one, aI E 10 v_inn_house_one), (h_inn_house_other, aI E 10 v_inn_house_other), (h_inn_thingIn, aI E 4 v_inn_thingIn), (h_night_thingIn, aI E 4 v_night_thingIn), (h_inn_full, aZ E 4 v_inn_full), (h_night_full, aZ E 4 v_night_full), (h_night_heardBy, aJ E 3 v_night_heardBy), (h_night_dreamOf, aI E 3 v_night_dreamOf), (h_night_stateOf, aI E 3 v_night_stateOf), (h_inn_bed, aI E 3 v_inn_bed), (h_night_roomOf, aI E 3 v_night_roomOf), (h_night_handOf, aI E 3 v_night_handOf), (h_night_awake, aZ E 3 v_night_awake), (h_night_how, aI E 10 v_night_how), (h_night_passed, aI E 10 v_night_passed), (h_notes, .inr (5, [.ref h_notes_book, .ref h_notes_sort, .ref h_notes_one, .ref h_notes_other, .int v_notes_count])), (h_casts, .inr (0, [.ref h_casts_trial, .ref h_casts_inn, .int v_casts_count, .ref h_casts_dreams, .ref h_casts_plain, .ref h_casts_set, .ref h_casts_tried, .ref h_casts_kin, .int v_casts_fitting, .ref h_casts_fitters])), (h_casts_dreams, aI E 192 v_casts_dreams), (h_casts_tried, aZ E 21 v_casts_tried)]) (As := [.ref h_inn, .int 0]) (rest := []) C (ctX4_prepare l E h_night h_night_ways h_night_how h_night_passed h_night_dreamOf h_night_stateOf h_night_roomOf h_night_handOf h_night_awake h_night_thingIn h_night_full h_night_heardBy h_inn h_inn_house h_inn_thingIn h_inn_full h_inn_states h_inn_bed h_inn_dreamOf h_inn_listensIn h_inn_house_creak h_inn_house_cold h_inn_house_one h_inn_house_other h_inn_house_how h_inn_house_falls h_inn_house_ways h_night_ways_steps v_night_inn v_night_setting v_night_been v_inn_minutes v_inn_things v_inn_dreams v_inn_sleepers v_inn_listeners v_inn_house_rooms v_inn_house_doors v_inn_house_how v_night_ways_rooms v_night_ways_steps v_inn_house_one v_inn_house_other N 0 (v_night_setting_26, v_night_ways_rooms_26, v_night_ways_steps_26) hc_26) ml_X10_155 ⟨Nat.le_of_ble_eq_true rfl, Nat.le_of_ble_eq_true rfl⟩ hP hD hS 4 rfl rfl rfl [4, 1, 5, 6, 7, 8, 9, 10] [0, 29, 2, 3, 28, 30, 31, 32, 33, 34, 35, 11, 12, 13, 14, 15, 16, 17, 18, 19, 20, 21, 22, 23, 24, 25, 26, 27] 28 rfl rfl rfl rfl rfl rfl rfl hl.1 rfl (Nat.le_of_ble_eq_true rfl) ⟨Nat.zero_le _, Nat.zero_le _⟩ dX10_moveIn_26 ?_
  clear hP hD hS; intro H locs hP hD hS
  refine lv_aload_n (pc := 29) hx hb dX10_moveIn_29 rfl (lv_at hl 0 rfl) ?_
  refine r_get (pc := 30) C hP 0 rfl fl_X10_32 rfl dX10_moveIn_30 ?_
  refine lv_aload_n (pc := 33) hx hb dX10_moveIn_33 rfl (lv_at hl 0 rfl) ?_
  refine r_get (pc := 34) C hP 0 rfl fl_X10_23 rfl dX10_moveIn_34 ?_
  refine lv_iconst (pc := 37) (v := 0) hx hb dX10_moveIn_37 (by decide) ?_
  obtain ⟨v_night_been_38, v_night_thingIn_38, v_night_full_38, v_night_heardBy_38, v_night_dreamOf_38, v_night_stateOf_38, v_night_roomOf_38, v_night_handOf_38, v_night_awake_38, v_night_how_38, v_night_passed_38, hc_38, hf⟩ := bd11 hf
  refine r_dalVv (pc := 38) (ws' := [(h, .inr (9, [.ref h_reader, .ref h_inn, .ref h_chosen, .ref h_night, .ref h_marks, .int v_marked, .ref h_notes, .ref h_casts, .int v_refusal, .int v_latestFault, .int v_faultPlace])), (h_inn, .inr (2, [.ref h_inn_house, .int v_inn_minutes, .int v_inn_things, .ref h_inn_thingIn, .ref h_inn_full, .int v_inn_dreams, .ref h_inn_states, .int v_inn_sleepers, .ref h_inn_bed, .ref h_inn_dreamOf, .int v_inn_listeners, .ref h_inn_listensIn])), (h_inn_dreamOf, aI E 3 v_inn_dreamOf), (h_chosen, aI E 3 (va_cpy v_inn_dreamOf v_chosen (0 : Int32).toNatClampNeg (0 : Int32).toNatClampNeg (3 : Int32).toNatClampNeg)), (h_night, .inr (4, [.ref h_inn, .int v_night_setting_26, .int v_night_been_38, .ref h_night_ways, .ref h_night_how, .ref h_night_passed, .ref h_night_dreamOf, .ref h_night_stateOf, .ref h_night_roomOf, .ref h_night_handOf, .ref h_night_awake, .ref h_night_thingIn, .ref h_night_full, .ref h_night_heardBy])), (h_inn_house, .inr (1, [.int v_inn_house_rooms, .ref h_inn_house_creak, .ref h_inn_house_cold, .int v_inn_house_doors, .ref h_inn_house_one, .ref h_inn_house_other, .ref h_inn_house_how, .ref h_inn_house_falls, .ref h_inn_house_ways])), (h_inn_house_how, aI E 10 v_inn_house_how), (h_night_ways, .inr (8, [.ref h_night_ways_steps, .int v_night_ways_rooms_26])), (h_night_ways_steps, aI E 64 v_night_ways_steps_26), (h_inn_house_one, aI E 10 v_inn_house_one), (h_inn_house_other, aI E 10 v_inn_house_other), (h_inn_thingIn, aI E 4 v_inn_thingIn), (h_night_thingIn, aI E 4 v_night_thingIn_38), (h_inn_full, aZ E 4 v_inn_full), (h_night_full, aZ E 4 v_night_full_38), (h_night_heardBy, aJ E 3 v_night_heardBy_38), (h_night_dreamOf, aI E 3 v_night_dreamOf_38), (h_night_stateOf, aI E 3 v_night_stateOf_38), (h_inn_bed, aI E 3 v_inn_bed), (h_night_roomOf, aI E 3 v_night_roomOf_38), (h_night_handOf, aI E 3 v_night_handOf_38), (h_night_awake, aZ E 3 v_night_awake_38), (h_night_how, aI E 10 v_night_how_38), (h_night_passed, aI E 10 v_night_passed_38), (h_notes, .inr (5, [.ref h_notes_book, .ref h_notes_sort, .ref h_notes_one, .ref h_notes_other, .int v_notes_count])), (h_casts, .inr (0, [.ref h_casts_trial, .ref h_casts_inn, .int v_casts_count, .ref h_casts_dreams, .ref h_casts_plain, .ref h_casts_set, .ref h_casts_tried, .ref h_casts_kin, .int v_casts_fitting, .ref h_casts_fitters])), (h_casts_dreams, aI E 192 v_casts_dreams), (h_casts_tried, aZ E 21 v_casts_tried)]) (As := [.ref h_chosen, .int 0]) (rest := []) C (ctX4_begin l E h_night h_inn h_night_ways h_night_how h_night_passed h_night_dreamOf h_night_stateOf h_night_roomOf h_night_handOf h_night_awake h_night_thingIn h_night_full h_night_heardBy h_inn_house h_inn_thingIn h_inn_full h_inn_states h_inn_bed h_inn_dreamOf h_inn_listensIn h_inn_house_creak h_inn_house_cold h_inn_house_one h_inn_house_other h_inn_house_how h_inn_house_falls h_inn_house_ways h_chosen v_night_setting_26 v_night_been v_inn_minutes v_inn_things v_inn_dreams v_inn_sleepers v_inn_listeners v_inn_house_rooms v_inn_house_doors v_inn_thingIn v_night_thingIn v_inn_full v_night_full v_night_heardBy (va_cpy v_inn_dreamOf v_chosen (0 : Int32).toNatClampNeg (0 : Int32).toNatClampNeg (3 : Int32).toNatClampNeg) v_night_dreamOf v_night_stateOf v_inn_bed v_night_roomOf v_night_handOf v_night_awake v_inn_house_how v_night_how v_night_passed N 0 (v_night_been_38, v_night_thingIn_38, v_night_full_38, v_night_heardBy_38, v_night_dreamOf_38, v_night_stateOf_38, v_night_roomOf_38, v_night_handOf_38, v_night_awake_38, v_night_how_38, v_night_passed_38) hc_38) ml_X10_159 ⟨Nat.le_of_ble_eq_true rfl, Nat.le_of_ble_eq_true rfl⟩ hP hD hS 4 rfl rfl rfl [4, 1, 5, 11, 12, 13, 14, 15, 3, 16, 17, 18, 19, 20, 21, 6, 22, 23] [0, 29, 2, 36, 28, 30, 43, 7, 8, 9, 10, 31, 32, 33, 34, 35, 37, 38, 39, 40, 41, 42, 44, 45, 24, 25, 26, 27] 28 rfl rfl rfl rfl rfl rfl rfl hl.1 rfl (Nat.le_of_ble_eq_true rfl) ⟨Nat.zero_le _, Nat.zero_le _⟩ dX10_moveIn_38 ?_
  clear hP hD hS; intro H locs hP hD hS
  refine lv_aload_n (pc := 41) hx hb dX10_moveIn_41 rfl (lv_at hl 0 rfl) ?_
  refine lv_iconst (pc := 42) (v := 0) hx hb dX10_moveIn_42 (by decide) ?_
  refine r_put (pc := 43) (ws' := [(h, .inr (9, [.ref h_reader, .ref h_inn, .ref h_chosen, .ref h_night, .ref h_marks, .int 0, .ref h_notes, .ref h_casts, .int v_refusal, .int v_latestFault, .int v_faultPlace])), (h_inn, .inr (2, [.ref h_inn_house, .int v_inn_minutes, .int v_inn_things, .ref h_inn_thingIn, .ref h_inn_full, .int v_inn_dreams, .ref h_inn_states, .int v_inn_sleepers, .ref h_inn_bed, .ref h_inn_dreamOf, .int v_inn_listeners, .ref h_inn_listensIn])), (h_inn_dreamOf, aI E 3 v_inn_dreamOf), (h_chosen, aI E 3 (va_cpy v_inn_dreamOf v_chosen (0 : Int32).toNatClampNeg (0 : Int32).toNatClampNeg (3 : Int32).toNatClampNeg)), (h_night, .inr (4, [.ref h_inn, .int v_night_setting_26, .int v_night_been_38, .ref h_night_ways, .ref h_night_how, .ref h_night_passed, .ref h_night_dreamOf, .ref h_night_stateOf, .ref h_night_roomOf, .ref h_night_handOf, .ref h_night_awake, .ref h_night_thingIn, .ref h_night_full, .ref h_night_heardBy])), (h_inn_house, .inr (1, [.int v_inn_house_rooms, .ref h_inn_house_creak, .ref h_inn_house_cold, .int v_inn_house_doors, .ref h_inn_house_one, .ref h_inn_house_other, .ref h_inn_house_how, .ref h_inn_house_falls, .ref h_inn_house_ways])), (h_inn_house_how, aI E 10 v_inn_house_how), (h_night_ways, .inr (8, [.ref h_night_ways_steps, .int v_night_ways_rooms_26])), (h_night_ways_steps, aI E 64 v_night_ways_steps_26), (h_inn_house_one, aI E 10 v_inn_house_one), (h_inn_house_other, aI E 10 v_inn_house_other), (h_inn_thingIn, aI E 4 v_inn_thingIn), (h_night_thingIn, aI E 4 v_night_thingIn_38), (h_inn_full, aZ E 4 v_inn_full), (h_night_full, aZ E 4 v_night_full_38), (h_night_heardBy, aJ E 3 v_night_heardBy_38), (h_night_dreamOf, aI E 3 v_night_dreamOf_38), (h_night_stateOf, aI E 3 v_night_stateOf_38), (h_inn_bed, aI E 3 v_inn_bed), (h_night_roomOf, aI E 3 v_night_roomOf_38), (h_night_handOf, aI E 3 v_night_handOf_38), (h_night_awake, aZ E 3 v_night_awake_38), (h_night_how, aI E 10 v_night_how_38), (h_night_passed, aI E 10 v_night_passed_38), (h_notes, .inr (5, [.ref h_notes_book, .ref h_notes_sort, .ref h_notes_one, .ref h_notes_other, .int v_notes_count])), (h_casts, .inr (0, [.ref h_casts_trial, .ref h_casts_inn, .int v_casts_count, .ref h_casts_dreams, .ref h_casts_plain, .ref h_casts_set, .ref h_casts_tried, .ref h_casts_kin, .int v_casts_fitting, .ref h_casts_fitters])), (h_casts_dreams, aI E 192 v_casts_dreams), (h_casts_tried, aZ E 21 v_casts_tried)]) C hP hD hS 0 rfl fl_X10_242 rfl rfl (Nat.le_of_ble_eq_true rfl) rfl dX10_moveIn_43 ?_
  clear hP hD hS; intro H locs hP hD hS
  refine lv_aload_n (pc := 46) hx hb dX10_moveIn_46 rfl (lv_at hl 0 rfl) ?_
  refine r_get (pc := 47) C hP 0 rfl fl_X10_43 rfl dX10_moveIn_47 ?_
  refine lv_iconst (pc := 50) (v := 0) hx hb dX10_moveIn_50 (by decide) ?_
  refine r_put (pc := 51) (ws' := [(h, .inr (9, [.ref h_reader, .ref h_inn, .ref h_chosen, .ref h_night, .ref h_marks, .int 0, .ref h_notes, .ref h_casts, .int v_refusal, .int v_latestFault, .int v_faultPlace])), (h_inn, .inr (2, [.ref h_inn_house, .int v_inn_minutes, .int v_inn_things, .ref h_inn_thingIn, .ref h_inn_full, .int v_inn_dreams, .ref h_inn_states, .int v_inn_sleepers, .ref h_inn_bed, .ref h_inn_dreamOf, .int v_inn_listeners, .ref h_inn_listensIn])), (h_inn_dreamOf, aI E 3 v_inn_dreamOf), (h_chosen, aI E 3 (va_cpy v_inn_dreamOf v_chosen (0 : Int32).toNatClampNeg (0 : Int32).toNatClampNeg (3 : Int32).toNatClampNeg)), (h_night, .inr (4, [.ref h_inn, .int v_night_setting_26, .int v_night_been_38, .ref h_night_ways, .ref h_night_how, .ref h_night_passed, .ref h_night_dreamOf, .ref h_night_stateOf, .ref h_night_roomOf, .ref h_night_handOf, .ref h_night_awake, .ref h_night_thingIn, .ref h_night_full, .ref h_night_heardBy])), (h_inn_house, .inr (1, [.int v_inn_house_rooms, .ref h_inn_house_creak, .ref h_inn_house_cold, .int v_inn_house_doors, .ref h_inn_house_one, .ref h_inn_house_other, .ref h_inn_house_how, .ref h_inn_house_falls, .ref h_inn_house_ways])), (h_inn_house_how, aI E 10 v_inn_house_how), (h_night_ways, .inr (8, [.ref h_night_ways_steps, .int v_night_ways_rooms_26])), (h_night_ways_steps, aI E 64 v_night_ways_steps_26), (h_inn_house_one, aI E 10 v_inn_house_one), (h_inn_house_other, aI E 10 v_inn_house_other), (h_inn_thingIn, aI E 4 v_inn_thingIn), (h_night_thingIn, aI E 4 v_night_thingIn_38), (h_inn_full, aZ E 4 v_inn_full), (h_night_full, aZ E 4 v_night_full_38), (h_night_heardBy, aJ E 3 v_night_heardBy_38), (h_night_dreamOf, aI E 3 v_night_dreamOf_38), (h_night_stateOf, aI E 3 v_night_stateOf_38), (h_inn_bed, aI E 3 v_inn_bed), (h_night_roomOf, aI E 3 v_night_roomOf_38), (h_night_handOf, aI E 3 v_night_handOf_38), (h_night_awake, aZ E 3 v_night_awake_38), (h_night_how, aI E 10 v_night_how_38), (h_night_passed, aI E 10 v_night_passed_38), (h_notes, .inr (5, [.ref h_notes_book, .ref h_notes_sort, .ref h_notes_one, .ref h_notes_other, .int 0])), (h_casts, .inr (0, [.ref h_casts_trial, .ref h_casts_inn, .int v_casts_count, .ref h_casts_dreams, .ref h_casts_plain, .ref h_casts_set, .ref h_casts_tried, .ref h_casts_kin, .int v_casts_fitting, .ref h_casts_fitters])), (h_casts_dreams, aI E 192 v_casts_dreams), (h_casts_tried, aZ E 21 v_casts_tried)]) C hP hD hS 24 rfl fl_X10_256 rfl rfl (Nat.le_of_ble_eq_true rfl) rfl dX10_moveIn_51 ?_
  clear hP hD hS; intro H locs hP hD hS
  refine lv_aload_n (pc := 54) hx hb dX10_moveIn_54 rfl (lv_at hl 0 rfl) ?_
  refine r_get (pc := 55) C hP 0 rfl fl_X10_50 rfl dX10_moveIn_55 ?_
  refine lv_aload_n (pc := 58) hx hb dX10_moveIn_58 rfl (lv_at hl 0 rfl) ?_
  refine r_get (pc := 59) C hP 0 rfl fl_X10_19 rfl dX10_moveIn_59 ?_
  obtain ⟨v_casts_count_62, v_casts_dreams_62, v_casts_tried_62, hc_62, hf⟩ := bd3 hf
  refine r_dalVv (pc := 62) (ws' := [(h, .inr (9, [.ref h_reader, .ref h_inn, .ref h_chosen, .ref h_night, .ref h_marks, .int 0, .ref h_notes, .ref h_casts, .int v_refusal, .int v_latestFault, .int v_faultPlace])), (h_inn, .inr (2, [.ref h_inn_house, .int v_inn_minutes, .int v_inn_things, .ref h_inn_thingIn, .ref h_inn_full, .int v_inn_dreams, .ref h_inn_states, .int v_inn_sleepers, .ref h_inn_bed, .ref h_inn_dreamOf, .int v_inn_listeners, .ref h_inn_listensIn])), (h_inn_dreamOf, aI E 3 v_inn_dreamOf), (h_chosen, aI E 3 (va_cpy v_inn_dreamOf v_chosen (0 : Int32).toNatClampNeg (0 : Int32).toNatClampNeg (3 : Int32).toNatClampNeg)), (h_night, .inr (4, [.ref h_inn, .int v_night_setting_26, .int v_night_been_38, .ref h_night_ways, .ref h_night_how, .ref h_night_passed, .ref h_night_dreamOf, .ref h_night_stateOf, .ref h_night_roomOf, .ref h_night_handOf, .ref h_night_awake, .ref h_night_thingIn, .ref h_night_full, .ref h_night_heardBy])), (h_inn_house, .inr (1, [.int v_inn_house_rooms, .ref h_inn_house_creak, .ref h_inn_house_cold, .int v_inn_house_doors, .ref h_inn_house_one, .ref h_inn_house_other, .ref h_inn_house_how, .ref h_inn_house_falls, .ref h_inn_house_ways])), (h_inn_house_how, aI E 10 v_inn_house_how), (h_night_ways, .inr (8, [.ref h_night_ways_steps, .int v_night_ways_rooms_26])), (h_night_ways_steps, aI E 64 v_night_ways_steps_26), (h_inn_house_one, aI E 10 v_inn_house_one), (h_inn_house_other, aI E 10 v_inn_house_other), (h_inn_thingIn, aI E 4 v_inn_thingIn), (h_night_thingIn, aI E 4 v_night_thingIn_38), (h_inn_full, aZ E 4 v_inn_full), (h_night_full, aZ E 4 v_night_full_38), (h_night_heardBy, aJ E 3 v_night_heardBy_38), (h_night_dreamOf, aI E 3 v_night_dreamOf_38), (h_night_stateOf, aI E 3 v_night_stateOf_38), (h_inn_bed, aI E 3 v_inn_bed), (h_night_roomOf, aI E 3 v_night_roomOf_38), (h_night_handOf, aI E 3 v_night_handOf_38), (h_night_awake, aZ E 3 v_night_awake_38), (h_night_how, aI E 10 v_night_how_38), (h_night_passed, aI E 10 v_night_passed_38), (h_notes, .inr (5, [.ref h_notes_book, .ref h_notes_sort, .ref h_notes_one, .ref h_notes_other, .int 0])), (h_casts, .inr (0, [.ref h_casts_trial, .ref h_inn, .int v_casts_count_62, .ref h_casts_dreams, .ref h_casts_plain, .ref h_casts_set, .ref h_casts_tried, .ref h_casts_kin, .int v_casts_fitting, .ref h_casts_fitters])), (h_casts_dreams, aI E 192 v_casts_dreams_62), (h_casts_tried, aZ E 21 v_casts_tried_62)]) (As := [.ref h_inn]) (rest := []) C (ctX0_moveTo l E h_casts h_casts_trial h_casts_inn h_casts_dreams h_casts_plain h_casts_set h_casts_tried h_casts_kin h_casts_fitters h_inn h_inn_house h_inn_thingIn h_inn_full h_inn_states h_inn_bed h_inn_dreamOf h_inn_listensIn v_casts_count v_casts_fitting v_inn_minutes v_inn_things v_inn_dreams v_inn_sleepers v_inn_listeners v_casts_dreams v_casts_tried N (v_casts_count_62, v_casts_dreams_62, v_casts_tried_62) hc_62) ml_X10_329 ⟨Nat.le_of_ble_eq_true rfl, Nat.le_of_ble_eq_true rfl⟩ hP hD hS 25 rfl rfl rfl [25, 1, 26, 27] [0, 29, 2, 3, 4, 5, 6, 7, 8, 9, 10, 11, 12, 13, 14, 15, 16, 17, 18, 19, 20, 21, 22, 23, 24, 28, 30, 31] 28 rfl rfl rfl rfl rfl rfl rfl hl.1 rfl (Nat.le_of_ble_eq_true rfl) ⟨Nat.zero_le _, Nat.zero_le _⟩ dX10_moveIn_62 ?_
  clear hP hD hS; intro H locs hP hD hS
  cases hf
  rw [hQ]
  exact r_vret C hr hP hD hS dX10_moveIn_65
def wX8_roomToward (E : EN) (h h_steps : Nat) (v_rooms : Int32) (v_steps : Nat → Int32) : va_W := [(h, .inr (8, [.ref h_steps, .int v_rooms])), (h_steps, aI E 64 v_steps)]
def BX8_roomToward_12 (v_rooms : Int32) (N : Nat) (p0 : Int32) (v_steps : Nat → Int32) (p1 : Int32) (r_3 : Int32) (rec12 : (Int32) → Option Int32) : (Int32) → Option Int32 := un1 fun (x12_4 : Int32) => if v_rooms ≤ x12_4 then (some (-1)) else ((fX8_doorsFrom N p0 x12_4 v_steps).bind (un1 fun (r_25 : Int32) => jn (un0 (rec12 (x12_4 + 1))) (fun j46 => if r_25 = 1 then ((fX8_doorsFrom N x12_4 p1 v_steps).bind (un1 fun (r_36 : Int32) => if r_36 = (r_3 - 1) then (some x12_4) else (j46 ()))) else (j46 ()))))
def fX8_roomToward (N : Nat) (p0 : Int32) (p1 : Int32) (v_rooms : Int32) (v_steps : Nat → Int32) : Option Int32 := (fX8_doorsFrom N p0 p1 v_steps).bind (un1 fun (r_3 : Int32) => lp (BX8_roomToward_12 v_rooms N p0 v_steps p1 r_3) N 0)
set_option maxHeartbeats 4000000 in
set_option maxRecDepth 100000 in
theorem ctX8_roomToward (l : Launch) (E : EN) (h h_steps : Nat) (v_rooms : Int32) (v_steps : Nat → Int32) (N : Nat) (p0 : Int32) (p1 : Int32) (z : Int32) (hf : fX8_roomToward N p0 p1 v_rooms v_steps = some z) : CTi l E yX8_roomToward cX8_roomToward 5 .int 1 22 [.ref h, .int p0, .int p1] (wX8_roomToward E h h_steps v_rooms v_steps) (z) (wX8_roomToward E h h_steps v_rooms v_steps) := by
  intro sz
  refine ct_body (by decide) (Nat.le_of_ble_eq_true rfl) ?_
  intro p e s m args below meth c A ls hAe C hr hin hP hD hS hl
  have C : CX p s m args meth c cX8_roomToward RX8 5 E A := C
  have hl : lv_has ls 5 [(0, .ref h), (1, .int p0), (2, .int p1)] := hl
  have hx := C.1
  have hb := C.2.1
  rw [hAe]
  clear hAe
  obtain ⟨Q, hQ⟩ : ∃ Q, Q = MQ below (Qi E A (z) (wX8_roomToward E h h_steps v_rooms v_steps)) args s 0 0 A := ⟨_, rfl⟩
  rw [← hQ]
  unfold fX8_roomToward at hf
  refine lv_aload_n (pc := 0) hx hb dX8_roomToward_0 rfl (lv_at hl 0 rfl) ?_
  refine lv_iload_n (pc := 1) hx hb dX8_roomToward_1 rfl (lv_at hl 1 rfl) ?_
  refine lv_iload_n (pc := 2) hx hb dX8_roomToward_2 rfl (lv_at hl 2 rfl) ?_
  obtain ⟨r_3, hc_3, hf⟩ := bd1 hf
  refine r_dalVi (pc := 3) (ws' := (wX8_roomToward E h h_steps v_rooms v_steps)) (As := [.int p0, .int p1]) (rest := []) C (ctX8_doorsFrom l E h h_steps v_rooms v_steps N p0 p1 r_3 hc_3) ml_X8_45 ⟨Nat.le_of_ble_eq_true rfl, Nat.le_of_ble_eq_true rfl⟩ hP hD hS 0 rfl rfl rfl [0, 1] [2, 3] 2 rfl rfl rfl rfl rfl rfl rfl hl.1 rfl (Nat.le_of_ble_eq_true rfl) ⟨Nat.zero_le _, Nat.zero_le _⟩ dX8_roomToward_3 ?_
  clear hP hD hS; intro H locs hP hD hS
  refine lv_iconst (pc := 6) (v := 1) hx hb dX8_roomToward_6 (by decide) ?_
  refine lv_isub (pc := 7) hx hb dX8_roomToward_7 ?_
  refine lv_istore_n (pc := 8) (lv' := [(3, .int (r_3 - 1)), (0, .ref h), (1, .int p0), (2, .int p1)]) hx hb dX8_roomToward_8 rfl hl (by decide) rfl (fun ls hl => ?_)
  refine lv_iconst (pc := 9) (v := 0) hx hb dX8_roomToward_9 (by decide) ?_
  refine lv_istore (pc := 10) (lv' := [(4, .int 0), (3, .int (r_3 - 1)), (0, .ref h), (1, .int p0), (2, .int p1)]) hx hb dX8_roomToward_10 hl (by decide) rfl (fun ls hl => ?_)
  have key12 : ∀ (n : Nat) (x12_4 : Int32) , lp (BX8_roomToward_12 v_rooms N p0 v_steps p1 r_3) n x12_4 = some z → AT p l e (rmOf 1 22) s m args below meth c E A Q 0 0 5 [(0, .ref h), (1, .int p0), (2, .int p1), (3, .int (r_3 - 1)), (4, .int x12_4)] (wX8_roomToward E h h_steps v_rooms v_steps) 12 [] := by
    intro n
    induction n with
    | zero => intro x12_4 hf; exact (lp_0 hf).elim
    | succ n ih12 =>
      intro x12_4 hf H locs ls hl hP hD hS
      replace hf := lp_s hf
      generalize lp (BX8_roomToward_12 v_rooms N p0 v_steps p1 r_3) n = rec12 at ih12 hf
      unfold BX8_roomToward_12 at hf
      replace hf := un1_s hf
      refine lv_iload (pc := 12) hx hb dX8_roomToward_12 (lv_at hl 4 rfl) ?_
      refine lv_aload_n (pc := 14) hx hb dX8_roomToward_14 rfl (lv_at hl 0 rfl) ?_
      refine r_get (pc := 15) C hP 0 rfl fl_X8_21 rfl dX8_roomToward_15 ?_
      refine lv_icmp_ge (pc := 18) (tgt := 52) hx hb dX8_roomToward_18 (by decide) (fun c_18 => ?_) (fun c_18 => ?_)
      · replace hf := it_t c_18 hf
        refine lv_iconst (pc := 52) (v := (-1)) hx hb dX8_roomToward_52 (by decide) ?_
        cases hf
        rw [hQ]
        exact r_iret C hr hP hD hS rfl dX8_roomToward_53
      · replace hf := it_f c_18 hf
        refine lv_aload_n (pc := 21) hx hb dX8_roomToward_21 rfl (lv_at hl 0 rfl) ?_
        refine lv_iload_n (pc := 22) hx hb dX8_roomToward_22 rfl (lv_at hl 1 rfl) ?_
        refine lv_iload (pc := 23) hx hb dX8_roomToward_23 (lv_at hl 4 rfl) ?_
        obtain ⟨r_25, hc_25, hf⟩ := bd1 hf
        refine r_dalVi (pc := 25) (ws' := (wX8_roomToward E h h_steps v_rooms v_steps)) (As := [.int p0, .int x12_4]) (rest := []) C (ctX8_doorsFrom l E h h_steps v_rooms v_steps N p0 x12_4 r_25 hc_25) ml_X8_45 ⟨Nat.le_of_ble_eq_true rfl, Nat.le_of_ble_eq_true rfl⟩ hP hD hS 0 rfl rfl rfl [0, 1] [2, 3] 2 rfl rfl rfl rfl rfl rfl rfl hl.1 rfl (Nat.le_of_ble_eq_true rfl) ⟨Nat.zero_le _, Nat.zero_le _⟩ dX8_roomToward_25 ?_
        clear hP hD hS; intro H locs hP hD hS
        refine lv_iconst (pc := 28) (v := 1) hx hb dX8_roomToward_28 (by decide) ?_
        refine jnK hf (fun j46 ej46 hf => ?_)
        have hj46 : j46 () = some z → AT p l e (rmOf 1 22) s m args below meth c E A Q 0 0 5 [(0, .ref h), (1, .int p0), (2, .int p1), (3, .int (r_3 - 1)), (4, .int x12_4)] (wX8_roomToward E h h_steps v_rooms v_steps) 46 [] := by
          intro  hf H locs ls hl hP hD hS
          rw [ej46] at hf
          replace hf := un0_s hf
          refine lv_iinc (pc := 46) (v := x12_4 + 1) (lv' := [(4, .int (x12_4 + 1)), (0, .ref h), (1, .int p0), (2, .int p1), (3, .int (r_3 - 1))]) hx hb dX8_roomToward_46 hl (k := 4) rfl rfl (by decide) rfl (fun ls hl => ?_)
          refine lv_goto (pc := 49) (tgt := 12) hx hb dX8_roomToward_49 (by decide) ?_
          exact ih12 (x12_4 + 1) hf _ _ _ (lv_sub hl [1, 2, 3, 4, 0] rfl) hP hD hS
        clear ej46
        refine lv_icmp_ne (pc := 29) (tgt := 46) hx hb dX8_roomToward_29 (by decide) (fun c_29 => ?_) (fun c_29 => ?_)
        · replace hf := it_f c_29 hf
          exact hj46  hf _ _ _ (lv_sub hl [0, 1, 2, 3, 4] rfl) hP hD hS
        · replace hf := it_t c_29 hf
          refine lv_aload_n (pc := 32) hx hb dX8_roomToward_32 rfl (lv_at hl 0 rfl) ?_
          refine lv_iload (pc := 33) hx hb dX8_roomToward_33 (lv_at hl 4 rfl) ?_
          refine lv_iload_n (pc := 35) hx hb dX8_roomToward_35 rfl (lv_at hl 2 rfl) ?_
          obtain ⟨r_36, hc_36, hf⟩ := bd1 hf
          refine r_dalVi (pc := 36) (ws' := (wX8_roomToward E h h_steps v_rooms v_steps)) (As := [.int x12_4, .int p1]) (rest := []) C (ctX8_doorsFrom l E h h_steps v_rooms v_steps N x12_4 p1 r_36 hc_36) ml_X8_45 ⟨Nat.le_of_ble_eq_true rfl, Nat.le_of_ble_eq_true rfl⟩ hP hD hS 0 rfl rfl rfl [0, 1] [2, 3] 2 rfl rfl rfl rfl rfl rfl rfl hl.1 rfl (Nat.le_of_ble_eq_true rfl) ⟨Nat.zero_le _, Nat.zero_le _⟩ dX8_roomToward_36 ?_
          clear hP hD hS; intro H locs hP hD hS
          refine lv_iload_n (pc := 39) hx hb dX8_roomToward_39 rfl (lv_at hl 3 rfl) ?_
          refine lv_icmp_ne (pc := 40) (tgt := 46) hx hb dX8_roomToward_40 (by decide) (fun c_40 => ?_) (fun c_40 => ?_)
          · replace hf := it_f c_40 hf
            exact hj46  hf _ _ _ (lv_sub hl [0, 1, 2, 3, 4] rfl) hP hD hS
          · replace hf := it_t c_40 hf
            refine lv_iload (pc := 43) hx hb dX8_roomToward_43 (lv_at hl 4 rfl) ?_
            cases hf
            rw [hQ]
            exact r_iret C hr hP hD hS rfl dX8_roomToward_45
  exact key12 _ 0 hf _ _ _ (lv_sub hl [2, 3, 4, 1, 0] rfl) hP hD hS
def wX4_creakIn (E : EN) (h h_inn h_ways h_how h_passed h_dreamOf h_stateOf h_roomOf h_handOf h_awake h_thingIn h_full h_heardBy h_inn_house h_inn_thingIn h_inn_full h_inn_states h_inn_bed h_inn_dreamOf h_inn_listensIn h_inn_house_creak h_inn_house_cold h_inn_house_one h_inn_house_other h_inn_house_how h_inn_house_falls h_inn_house_ways h_inn_house_ways_steps : Nat) (v_setting : Int32) (v_been : Int32) (v_inn_minutes : Int32) (v_inn_things : Int32) (v_inn_dreams : Int32) (v_inn_sleepers : Int32) (v_inn_listeners : Int32) (v_inn_house_rooms : Int32) (v_inn_house_doors : Int32) (v_inn_house_creak : Nat → Int32) (v_inn_listensIn : Nat → Int32) (v_inn_house_ways_rooms : Int32) (v_inn_house_ways_steps : Nat → Int32) (v_heardBy : Nat → Int64) : va_W := [(h, .inr (4, [.ref h_inn, .int v_setting, .int v_been, .ref h_ways, .ref h_how, .ref h_passed, .ref h_dreamOf, .ref h_stateOf, .ref h_roomOf, .ref h_handOf, .ref h_awake, .ref h_thingIn, .ref h_full, .ref h_heardBy])), (h_inn, .inr (2, [.ref h_inn_house, .int v_inn_minutes, .int v_inn_things, .ref h_inn_thingIn, .ref h_inn_full, .int v_inn_dreams, .ref h_inn_states, .int v_inn_sleepers, .ref h_inn_bed, .ref h_inn_dreamOf, .int v_inn_listeners, .ref h_inn_listensIn])), (h_inn_house, .inr (1, [.int v_inn_house_rooms, .ref h_inn_house_creak, .ref h_inn_house_cold, .int v_inn_house_doors, .ref h_inn_house_one, .ref h_inn_house_other, .ref h_inn_house_how, .ref h_inn_house_falls, .ref h_inn_house_ways])), (h_inn_house_creak, aI E 8 v_inn_house_creak), (h_inn_listensIn, aI E 3 v_inn_listensIn), (h_inn_house_ways, .inr (8, [.ref h_inn_house_ways_steps, .int v_inn_house_ways_rooms])), (h_inn_house_ways_steps, aI E 64 v_inn_house_ways_steps), (h_heardBy, aJ E 3 v_heardBy)]
def BX4_creakIn_2 (v_inn_listeners : Int32) (p0 : Int32) (N : Nat) (v_inn_listensIn : Nat → Int32) (v_inn_house_ways_steps : Nat → Int32) (v_inn_house_creak : Nat → Int32) (v_been : Int32) (rec2 : (Int32 × (Nat → Int64)) → Option (Nat → Int64)) : (Int32 × (Nat → Int64)) → Option (Nat → Int64) := un2 fun (x2_2 : Int32) (x2_heardBy : Nat → Int64) => if v_inn_listeners ≤ x2_2 then (some x2_heardBy) else (gd p0 8 (gd x2_2 3 ((fX8_doorsFrom N p0 (v_inn_listensIn x2_2.toNatClampNeg) v_inn_house_ways_steps).bind (un1 fun (r_45 : Int32) => jn (un1 fun (x66_heardBy : Nat → Int64) => rec2 (x2_2 + 1, x66_heardBy)) (fun j66 => if (v_inn_house_creak p0.toNatClampNeg) ≤ r_45 then (j66 x2_heardBy) else (gd x2_2 3 (gd x2_2 3 (j66 (vp_updL x2_heardBy x2_2.toNatClampNeg ((x2_heardBy x2_2.toNatClampNeg) ||| (1 <<< (v_been.toInt64 &&& 63))))))))))))
def fX4_creakIn (N : Nat) (p0 : Int32) (v_been : Int32) (v_inn_listeners : Int32) (v_inn_house_creak : Nat → Int32) (v_inn_listensIn : Nat → Int32) (v_inn_house_ways_steps : Nat → Int32) (v_heardBy : Nat → Int64) : Option (Nat → Int64) := lp (BX4_creakIn_2 v_inn_listeners p0 N v_inn_listensIn v_inn_house_ways_steps v_inn_house_creak v_been) N (0, v_heardBy)
set_option maxHeartbeats 4000000 in
set_option maxRecDepth 100000 in
theorem ctX4_creakIn (l : Launch) (E : EN) (h h_inn h_ways h_how h_passed h_dreamOf h_stateOf h_roomOf h_handOf h_awake h_thingIn h_full h_heardBy h_inn_house h_inn_thingIn h_inn_full h_inn_states h_inn_bed h_inn_dreamOf h_inn_listensIn h_inn_house_creak h_inn_house_cold h_inn_house_one h_inn_house_other h_inn_house_how h_inn_house_falls h_inn_house_ways h_inn_house_ways_steps : Nat) (v_setting : Int32) (v_been : Int32) (v_inn_minutes : Int32) (v_inn_things : Int32) (v_inn_dreams : Int32) (v_inn_sleepers : Int32) (v_inn_listeners : Int32) (v_inn_house_rooms : Int32) (v_inn_house_doors : Int32) (v_inn_house_creak : Nat → Int32) (v_inn_listensIn : Nat → Int32) (v_inn_house_ways_rooms : Int32) (v_inn_house_ways_steps : Nat → Int32) (v_heardBy : Nat → Int64) (N : Nat) (p0 : Int32) (z : Nat → Int64) (hf : fX4_creakIn N p0 v_been v_inn_listeners v_inn_house_creak v_inn_listensIn v_inn_house_ways_steps v_heardBy = some z) : CTv l E yX4_creakIn cX4_creakIn 3 1 22 [.ref h, .int p0] (wX4_creakIn E h h_inn h_ways h_how h_passed h_dreamOf h_stateOf h_roomOf h_handOf h_awake h_thingIn h_full h_heardBy h_inn_house h_inn_thingIn h_inn_full h_inn_states h_inn_bed h_inn_dreamOf h_inn_listensIn h_inn_house_creak h_inn_house_cold h_inn_house_one h_inn_house_other h_inn_house_how h_inn_house_falls h_inn_house_ways h_inn_house_ways_steps v_setting v_been v_inn_minutes v_inn_things v_inn_dreams v_inn_sleepers v_inn_listeners v_inn_house_rooms v_inn_house_doors v_inn_house_creak v_inn_listensIn v_inn_house_ways_rooms v_inn_house_ways_steps v_heardBy) (wX4_creakIn E h h_inn h_ways h_how h_passed h_dreamOf h_stateOf h_roomOf h_handOf h_awake h_thingIn h_full h_heardBy h_inn_house h_inn_thingIn h_inn_full h_inn_states h_inn_bed h_inn_dreamOf h_inn_listensIn h_inn_house_creak h_inn_house_cold h_inn_house_one h_inn_house_other h_inn_house_how h_inn_house_falls h_inn_house_ways h_inn_house_ways_steps v_setting v_been v_inn_minutes v_inn_things v_inn_dreams v_inn_sleepers v_inn_listeners v_inn_house_rooms v_inn_house_doors v_inn_house_creak v_inn_listensIn v_inn_house_ways_rooms v_inn_house_ways_steps z) := by
  intro sz
  refine ct_body (by decide) (Nat.le_of_ble_eq_true rfl) ?_
  intro p e s m args below meth c A ls hAe C hr hin hP hD hS hl
  have C : CX p s m args meth c cX4_creakIn RX4 3 E A := C
  have hl : lv_has ls 3 [(0, .ref h), (1, .int p0)] := hl
  have hx := C.1
  have hb := C.2.1
  rw [hAe]
  clear hAe
  obtain ⟨Q, hQ⟩ : ∃ Q, Q = MQ below (Qv E A (wX4_creakIn E h h_inn h_ways h_how h_passed h_dreamOf h_stateOf h_roomOf h_handOf h_awake h_thingIn h_full h_heardBy h_inn_house h_inn_thingIn h_inn_full h_inn_states h_inn_bed h_inn_dreamOf h_inn_listensIn h_inn_house_creak h_inn_house_cold h_inn_house_one h_inn_house_other h_inn_house_how h_inn_house_falls h_inn_house_ways h_inn_house_ways_steps v_setting v_been v_inn_minutes v_inn_things v_inn_dreams v_inn_sleepers v_inn_listeners v_inn_house_rooms v_inn_house_doors v_inn_house_creak v_inn_listensIn v_inn_house_ways_rooms v_inn_house_ways_steps z)) args s 0 0 A := ⟨_, rfl⟩
  rw [← hQ]
  unfold fX4_creakIn at hf
  refine lv_iconst (pc := 0) (v := 0) hx hb dX4_creakIn_0 (by decide) ?_
  refine lv_istore_n (pc := 1) (lv' := [(2, .int 0), (0, .ref h), (1, .int p0)]) hx hb dX4_creakIn_1 rfl hl (by decide) rfl (fun ls hl => ?_)
  have key2 : ∀ (n : Nat) (x2_2 : Int32) (x2_heardBy : Nat → Int64) , lp (BX4_creakIn_2 v_inn_listeners p0 N v_inn_listensIn v_inn_house_ways_steps v_inn_house_creak v_been) n (x2_2, x2_heardBy) = some z → AT p l e (rmOf 1 22) s m args below meth c E A Q 0 0 3 [(0, .ref h), (1, .int p0), (2, .int x2_2)] (wX4_creakIn E h h_inn h_ways h_how h_passed h_dreamOf h_stateOf h_roomOf h_handOf h_awake h_thingIn h_full h_heardBy h_inn_house h_inn_thingIn h_inn_full h_inn_states h_inn_bed h_inn_dreamOf h_inn_listensIn h_inn_house_creak h_inn_house_cold h_inn_house_one h_inn_house_other h_inn_house_how h_inn_house_falls h_inn_house_ways h_inn_house_ways_steps v_setting v_been v_inn_minutes v_inn_things v_inn_dreams v_inn_sleepers v_inn_listeners v_inn_house_rooms v_inn_house_doors v_inn_house_creak v_inn_listensIn v_inn_house_ways_rooms v_inn_house_ways_steps x2_heardBy) 2 [] := by
    intro n
    induction n with
    | zero => intro x2_2 x2_heardBy hf; exact (lp_0 hf).elim
    | succ n ih2 =>
      intro x2_2 x2_heardBy hf H locs ls hl hP hD hS
      replace hf := lp_s hf
      generalize lp (BX4_creakIn_2 v_inn_listeners p0 N v_inn_listensIn v_inn_house_ways_steps v_inn_house_creak v_been) n = rec2 at ih2 hf
      unfold BX4_creakIn_2 at hf
      replace hf := un2_s hf
      refine lv_iload_n (pc := 2) hx hb dX4_creakIn_2 rfl (lv_at hl 2 rfl) ?_
      refine lv_aload_n (pc := 3) hx hb dX4_creakIn_3 rfl (lv_at hl 0 rfl) ?_
      refine r_get (pc := 4) C hP 0 rfl fl_X4_51 rfl dX4_creakIn_4 ?_
      refine r_get (pc := 7) C hP 1 rfl fl_X4_156 rfl dX4_creakIn_7 ?_
      refine lv_icmp_ge (pc := 10) (tgt := 72) hx hb dX4_creakIn_10 (by decide) (fun c_10 => ?_) (fun c_10 => ?_)
      · replace hf := it_t c_10 hf
        cases hf
        rw [hQ]
        exact r_vret C hr hP hD hS dX4_creakIn_72
      · replace hf := it_f c_10 hf
        refine lv_aload_n (pc := 13) hx hb dX4_creakIn_13 rfl (lv_at hl 0 rfl) ?_
        refine r_get (pc := 14) C hP 0 rfl fl_X4_51 rfl dX4_creakIn_14 ?_
        refine r_get (pc := 17) C hP 1 rfl fl_X4_59 rfl dX4_creakIn_17 ?_
        refine r_get (pc := 20) C hP 2 rfl fl_X4_159 rfl dX4_creakIn_20 ?_
        refine lv_iload_n (pc := 23) hx hb dX4_creakIn_23 rfl (lv_at hl 1 rfl) ?_
        obtain ⟨hi_24, hf⟩ := gd_s hf
        refine r_iald (pc := 24) C hP 3 rfl hi_24 dX4_creakIn_24 ?_
        refine lv_aload_n (pc := 25) hx hb dX4_creakIn_25 rfl (lv_at hl 0 rfl) ?_
        refine r_get (pc := 26) C hP 0 rfl fl_X4_51 rfl dX4_creakIn_26 ?_
        refine r_get (pc := 29) C hP 1 rfl fl_X4_59 rfl dX4_creakIn_29 ?_
        refine r_get (pc := 32) C hP 2 rfl fl_X4_162 rfl dX4_creakIn_32 ?_
        refine lv_iload_n (pc := 35) hx hb dX4_creakIn_35 rfl (lv_at hl 1 rfl) ?_
        refine lv_aload_n (pc := 36) hx hb dX4_creakIn_36 rfl (lv_at hl 0 rfl) ?_
        refine r_get (pc := 37) C hP 0 rfl fl_X4_51 rfl dX4_creakIn_37 ?_
        refine r_get (pc := 40) C hP 1 rfl fl_X4_163 rfl dX4_creakIn_40 ?_
        refine lv_iload_n (pc := 43) hx hb dX4_creakIn_43 rfl (lv_at hl 2 rfl) ?_
        obtain ⟨hi_44, hf⟩ := gd_s hf
        refine r_iald (pc := 44) C hP 4 rfl hi_44 dX4_creakIn_44 ?_
        obtain ⟨r_45, hc_45, hf⟩ := bd1 hf
        refine r_dalVi (pc := 45) (ws' := (wX4_creakIn E h h_inn h_ways h_how h_passed h_dreamOf h_stateOf h_roomOf h_handOf h_awake h_thingIn h_full h_heardBy h_inn_house h_inn_thingIn h_inn_full h_inn_states h_inn_bed h_inn_dreamOf h_inn_listensIn h_inn_house_creak h_inn_house_cold h_inn_house_one h_inn_house_other h_inn_house_how h_inn_house_falls h_inn_house_ways h_inn_house_ways_steps v_setting v_been v_inn_minutes v_inn_things v_inn_dreams v_inn_sleepers v_inn_listeners v_inn_house_rooms v_inn_house_doors v_inn_house_creak v_inn_listensIn v_inn_house_ways_rooms v_inn_house_ways_steps x2_heardBy)) (As := [.int p0, .int (v_inn_listensIn x2_2.toNatClampNeg)]) (rest := [.int (v_inn_house_creak p0.toNatClampNeg)]) C (ctX8_doorsFrom l E h_inn_house_ways h_inn_house_ways_steps v_inn_house_ways_rooms v_inn_house_ways_steps N p0 (v_inn_listensIn x2_2.toNatClampNeg) r_45 hc_45) ml_X4_166 ⟨Nat.le_of_ble_eq_true rfl, Nat.le_of_ble_eq_true rfl⟩ hP hD hS 5 rfl rfl rfl [5, 6] [0, 1, 2, 3, 4, 8, 9, 7] 8 rfl rfl rfl rfl rfl rfl rfl hl.1 rfl (Nat.le_of_ble_eq_true rfl) ⟨Nat.zero_le _, Nat.zero_le _⟩ dX4_creakIn_45 ?_
        clear hP hD hS; intro H locs hP hD hS
        refine jnK hf (fun j66 ej66 hf => ?_)
        have hj66 : ∀ (x66_heardBy : Nat → Int64) , j66 x66_heardBy = some z → AT p l e (rmOf 1 22) s m args below meth c E A Q 0 0 3 [(0, .ref h), (1, .int p0), (2, .int x2_2)] (wX4_creakIn E h h_inn h_ways h_how h_passed h_dreamOf h_stateOf h_roomOf h_handOf h_awake h_thingIn h_full h_heardBy h_inn_house h_inn_thingIn h_inn_full h_inn_states h_inn_bed h_inn_dreamOf h_inn_listensIn h_inn_house_creak h_inn_house_cold h_inn_house_one h_inn_house_other h_inn_house_how h_inn_house_falls h_inn_house_ways h_inn_house_ways_steps v_setting v_been v_inn_minutes v_inn_things v_inn_dreams v_inn_sleepers v_inn_listeners v_inn_house_rooms v_inn_house_doors v_inn_house_creak v_inn_listensIn v_inn_house_ways_rooms v_inn_house_ways_steps x66_heardBy) 66 [] := by
          intro x66_heardBy hf H locs ls hl hP hD hS
          rw [ej66] at hf
          replace hf := un1_s hf
          refine lv_iinc (pc := 66) (v := x2_2 + 1) (lv' := [(2, .int (x2_2 + 1)), (0, .ref h), (1, .int p0)]) hx hb dX4_creakIn_66 hl (k := 2) rfl rfl (by decide) rfl (fun ls hl => ?_)
          refine lv_goto (pc := 69) (tgt := 2) hx hb dX4_creakIn_69 (by decide) ?_
          exact ih2 (x2_2 + 1) x66_heardBy hf _ _ _ (lv_sub hl [1, 2, 0] rfl) hP hD hS
        clear ej66
        refine lv_icmp_le (pc := 48) (tgt := 66) hx hb dX4_creakIn_48 (by decide) (fun c_48 => ?_) (fun c_48 => ?_)
        · replace hf := it_t c_48 hf
          exact hj66 x2_heardBy hf _ _ _ (lv_sub hl [0, 1, 2] rfl) hP hD hS
        · replace hf := it_f c_48 hf
          refine lv_aload_n (pc := 51) hx hb dX4_creakIn_51 rfl (lv_at hl 0 rfl) ?_
          refine r_get (pc := 52) C hP 0 rfl fl_X4_47 rfl dX4_creakIn_52 ?_
          refine lv_iload_n (pc := 55) hx hb dX4_creakIn_55 rfl (lv_at hl 2 rfl) ?_
          refine lv_dup2_11 (pc := 56) hx hb dX4_creakIn_56 rfl rfl ?_
          obtain ⟨hi_57, hf⟩ := gd_s hf
          refine r_lald (pc := 57) C hP 7 rfl hi_57 dX4_creakIn_57 ?_
          refine lv_lconst (pc := 58) (v := 1) hx hb dX4_creakIn_58 (by decide) ?_
          refine lv_aload_n (pc := 59) hx hb dX4_creakIn_59 rfl (lv_at hl 0 rfl) ?_
          refine r_get (pc := 60) C hP 0 rfl fl_X4_73 rfl dX4_creakIn_60 ?_
          refine lv_lshl (pc := 63) (v := 1 <<< (v_been.toInt64 &&& 63)) hx hb dX4_creakIn_63 rfl ?_
          refine lv_lor (pc := 64) hx hb dX4_creakIn_64 ?_
          obtain ⟨hi_65, hf⟩ := gd_s hf
          refine r_last (pc := 65) (ws' := (wX4_creakIn E h h_inn h_ways h_how h_passed h_dreamOf h_stateOf h_roomOf h_handOf h_awake h_thingIn h_full h_heardBy h_inn_house h_inn_thingIn h_inn_full h_inn_states h_inn_bed h_inn_dreamOf h_inn_listensIn h_inn_house_creak h_inn_house_cold h_inn_house_one h_inn_house_other h_inn_house_how h_inn_house_falls h_inn_house_ways h_inn_house_ways_steps v_setting v_been v_inn_minutes v_inn_things v_inn_dreams v_inn_sleepers v_inn_listeners v_inn_house_rooms v_inn_house_doors v_inn_house_creak v_inn_listensIn v_inn_house_ways_rooms v_inn_house_ways_steps (vp_updL x2_heardBy x2_2.toNatClampNeg ((x2_heardBy x2_2.toNatClampNeg) ||| (1 <<< (v_been.toInt64 &&& 63)))))) C hP hD hS 7 rfl hi_65 rfl dX4_creakIn_65 ?_
          clear hP hD hS; intro H locs hP hD hS
          exact hj66 (vp_updL x2_heardBy x2_2.toNatClampNeg ((x2_heardBy x2_2.toNatClampNeg) ||| (1 <<< (v_been.toInt64 &&& 63)))) hf _ _ _ (lv_sub hl [0, 1, 2] rfl) hP hD hS
  exact key2 _ 0 v_heardBy hf _ _ _ (lv_sub hl [1, 2, 0] rfl) hP hD hS
def wX4_isAsleepIn (E : EN) (h h_ways h_how h_passed h_dreamOf h_stateOf h_roomOf h_handOf h_awake h_thingIn h_full h_heardBy : Nat) (v_inn : Option Nat) (v_setting : Int32) (v_been : Int32) (v_roomOf : Nat → Int32) (v_awake : Nat → Int32) : va_W := [(h, .inr (4, [va_rf v_inn, .int v_setting, .int v_been, .ref h_ways, .ref h_how, .ref h_passed, .ref h_dreamOf, .ref h_stateOf, .ref h_roomOf, .ref h_handOf, .ref h_awake, .ref h_thingIn, .ref h_full, .ref h_heardBy])), (h_roomOf, aI E 3 v_roomOf), (h_awake, aZ E 3 v_awake)]
def fX4_isAsleepIn (N : Nat) (p0 : Int32) (p1 : Int32) (v_roomOf : Nat → Int32) (v_awake : Nat → Int32) : Option Int32 := gd p0 3 (jn (un0 (some 0)) (fun j23 => if (v_roomOf p0.toNatClampNeg) = p1 then (gd p0 3 (if (v_awake p0.toNatClampNeg) = 0 then (some 1) else (j23 ()))) else (j23 ())))
set_option maxHeartbeats 4000000 in
set_option maxRecDepth 100000 in
theorem ctX4_isAsleepIn (l : Launch) (E : EN) (h h_ways h_how h_passed h_dreamOf h_stateOf h_roomOf h_handOf h_awake h_thingIn h_full h_heardBy : Nat) (v_inn : Option Nat) (v_setting : Int32) (v_been : Int32) (v_roomOf : Nat → Int32) (v_awake : Nat → Int32) (N : Nat) (p0 : Int32) (p1 : Int32) (z : Int32) (hf : fX4_isAsleepIn N p0 p1 v_roomOf v_awake = some z) : CTi l E yX4_isAsleepIn cX4_isAsleepIn 3 .boolean 0 0 [.ref h, .int p0, .int p1] (wX4_isAsleepIn E h h_ways h_how h_passed h_dreamOf h_stateOf h_roomOf h_handOf h_awake h_thingIn h_full h_heardBy v_inn v_setting v_been v_roomOf v_awake) (z) (wX4_isAsleepIn E h h_ways h_how h_passed h_dreamOf h_stateOf h_roomOf h_handOf h_awake h_thingIn h_full h_heardBy v_inn v_setting v_been v_roomOf v_awake) := by
  intro sz
  refine ct_body (by decide) (Nat.le_of_ble_eq_true rfl) ?_
  intro p e s m args below meth c A ls hAe C hr hin hP hD hS hl
  have C : CX p s m args meth c cX4_isAsleepIn RX4 3 E A := C
  have hl : lv_has ls 3 [(0, .ref h), (1, .int p0), (2, .int p1)] := hl
  have hx := C.1
  have hb := C.2.1
  rw [hAe]
  clear hAe
  obtain ⟨Q, hQ⟩ : ∃ Q, Q = MQ below (Qi E A (z) (wX4_isAsleepIn E h h_ways h_how h_passed h_dreamOf h_stateOf h_roomOf h_handOf h_awake h_thingIn h_full h_heardBy v_inn v_setting v_been v_roomOf v_awake)) args s 0 0 A := ⟨_, rfl⟩
  rw [← hQ]
  unfold fX4_isAsleepIn at hf
  refine lv_aload_n (pc := 0) hx hb dX4_isAsleepIn_0 rfl (lv_at hl 0 rfl) ?_
  refine r_get (pc := 1) C hP 0 rfl fl_X4_31 rfl dX4_isAsleepIn_1 ?_
  refine lv_iload_n (pc := 4) hx hb dX4_isAsleepIn_4 rfl (lv_at hl 1 rfl) ?_
  obtain ⟨hi_5, hf⟩ := gd_s hf
  refine r_iald (pc := 5) C hP 1 rfl hi_5 dX4_isAsleepIn_5 ?_
  refine lv_iload_n (pc := 6) hx hb dX4_isAsleepIn_6 rfl (lv_at hl 2 rfl) ?_
  refine jnK hf (fun j23 ej23 hf => ?_)
  have hj23 : j23 () = some z → AT p l e (rmOf 0 0) s m args below meth c E A Q 0 0 3 [] (wX4_isAsleepIn E h h_ways h_how h_passed h_dreamOf h_stateOf h_roomOf h_handOf h_awake h_thingIn h_full h_heardBy v_inn v_setting v_been v_roomOf v_awake) 23 [] := by
    intro  hf H locs ls hl hP hD hS
    rw [ej23] at hf
    replace hf := un0_s hf
    refine lv_iconst (pc := 23) (v := 0) hx hb dX4_isAsleepIn_23 (by decide) ?_
    cases hf
    rw [hQ]
    exact r_zret C hr hP hD hS (Or.inl rfl) rfl dX4_isAsleepIn_24
  clear ej23
  refine lv_icmp_ne (pc := 7) (tgt := 23) hx hb dX4_isAsleepIn_7 (by decide) (fun c_7 => ?_) (fun c_7 => ?_)
  · replace hf := it_f c_7 hf
    exact hj23  hf _ _ _ (lv_sub hl [] rfl) hP hD hS
  · replace hf := it_t c_7 hf
    refine lv_aload_n (pc := 10) hx hb dX4_isAsleepIn_10 rfl (lv_at hl 0 rfl) ?_
    refine r_get (pc := 11) C hP 0 rfl fl_X4_37 rfl dX4_isAsleepIn_11 ?_
    refine lv_iload_n (pc := 14) hx hb dX4_isAsleepIn_14 rfl (lv_at hl 1 rfl) ?_
    obtain ⟨hi_15, hf⟩ := gd_s hf
    refine r_zald (pc := 15) C hP 2 rfl hi_15 dX4_isAsleepIn_15 ?_
    refine lv_if_ne (pc := 16) (tgt := 23) hx hb dX4_isAsleepIn_16 (by decide) (fun c_16 => ?_) (fun c_16 => ?_)
    · replace hf := it_f c_16 hf
      exact hj23  hf _ _ _ (lv_sub hl [] rfl) hP hD hS
    · replace hf := it_t c_16 hf
      refine lv_iconst (pc := 19) (v := 1) hx hb dX4_isAsleepIn_19 (by decide) ?_
      refine lv_goto (pc := 20) (tgt := 24) hx hb dX4_isAsleepIn_20 (by decide) ?_
      cases hf
      rw [hQ]
      exact r_zret C hr hP hD hS (Or.inr rfl) rfl dX4_isAsleepIn_24
def wX10_bit (E : EN) : va_W := []
def fX10_bit (N : Nat) (p0 : Int32) : Option Int32 := if p0 = 0 then (some 0) else (some 1)
set_option maxHeartbeats 4000000 in
set_option maxRecDepth 100000 in
theorem ctX10_bit (l : Launch) (E : EN) (N : Nat) (p0 : Int32) (z : Int32) (hf : fX10_bit N p0 = some z) : CTi l E yX10_bit cX10_bit 1 .int 0 0 [.int p0] (wX10_bit E) (z) (wX10_bit E) := by
  intro sz
  refine ct_body (by decide) (Nat.le_of_ble_eq_true rfl) ?_
  intro p e s m args below meth c A ls hAe C hr hin hP hD hS hl
  have C : CX p s m args meth c cX10_bit RX10 1 E A := C
  have hl : lv_has ls 1 [(0, .int p0)] := hl
  have hx := C.1
  have hb := C.2.1
  rw [hAe]
  clear hAe
  obtain ⟨Q, hQ⟩ : ∃ Q, Q = MQ below (Qi E A (z) (wX10_bit E)) args s 0 0 A := ⟨_, rfl⟩
  rw [← hQ]
  unfold fX10_bit at hf
  refine lv_iload_n (pc := 0) hx hb dX10_bit_0 rfl (lv_at hl 0 rfl) ?_
  refine lv_if_eq (pc := 1) (tgt := 8) hx hb dX10_bit_1 (by decide) (fun c_1 => ?_) (fun c_1 => ?_)
  · replace hf := it_t c_1 hf
    refine lv_iconst (pc := 8) (v := 0) hx hb dX10_bit_8 (by decide) ?_
    cases hf
    rw [hQ]
    exact r_iret C hr hP hD hS rfl dX10_bit_9
  · replace hf := it_f c_1 hf
    refine lv_iconst (pc := 4) (v := 1) hx hb dX10_bit_4 (by decide) ?_
    refine lv_goto (pc := 5) (tgt := 9) hx hb dX10_bit_5 (by decide) ?_
    cases hf
    rw [hQ]
    exact r_iret C hr hP hD hS rfl dX10_bit_9
def wX4_meetIn (E : EN) (h h_inn h_ways h_how h_passed h_dreamOf h_stateOf h_roomOf h_handOf h_awake h_thingIn h_full h_heardBy h_inn_house h_inn_thingIn h_inn_full h_inn_states h_inn_bed h_inn_dreamOf h_inn_listensIn : Nat) (v_setting : Int32) (v_been : Int32) (v_inn_minutes : Int32) (v_inn_things : Int32) (v_inn_dreams : Int32) (v_inn_sleepers : Int32) (v_inn_listeners : Int32) (v_dreamOf : Nat → Int32) (v_stateOf : Nat → Int32) (v_inn_states : Nat → Int32) (v_roomOf : Nat → Int32) (v_awake : Nat → Int32) : va_W := [(h, .inr (4, [.ref h_inn, .int v_setting, .int v_been, .ref h_ways, .ref h_how, .ref h_passed, .ref h_dreamOf, .ref h_stateOf, .ref h_roomOf, .ref h_handOf, .ref h_awake, .ref h_thingIn, .ref h_full, .ref h_heardBy])), (h_inn, .inr (2, [.ref h_inn_house, .int v_inn_minutes, .int v_inn_things, .ref h_inn_thingIn, .ref h_inn_full, .int v_inn_dreams, .ref h_inn_states, .int v_inn_sleepers, .ref h_inn_bed, .ref h_inn_dreamOf, .int v_inn_listeners, .ref h_inn_listensIn])), (h_dreamOf, aI E 3 v_dreamOf), (h_stateOf, aI E 3 v_stateOf), (h_inn_states, aI E 64 v_inn_states), (h_roomOf, aI E 3 v_roomOf), (h_awake, aZ E 3 v_awake)]
def BX4_meetIn_35 (v_inn_sleepers : Int32) (x33_2 : Int32) (N : Nat) (v_dreamOf : Nat → Int32) (v_inn_states : Nat → Int32) (p0 : Int32) (v_roomOf : Nat → Int32) (v_awake : Nat → Int32) (rec35 : (Int32 × (Nat → Int32)) → Option (Nat → Int32)) : (Int32 × (Nat → Int32)) → Option (Nat → Int32) := un2 fun (x35_3 : Int32) (x35_stateOf : Nat → Int32) => if v_inn_sleepers ≤ x35_3 then (some x35_stateOf) else (if x33_2 ≤ 1 then (some x35_stateOf) else (gd x35_3 3 (gd x35_3 3 ((fX2_ofState N (v_dreamOf x35_3.toNatClampNeg) (x35_stateOf x35_3.toNatClampNeg) 3 v_inn_states).bind (un1 fun (r_68 : Int32) => (fX4_isAsleepIn N x35_3 p0 v_roomOf v_awake).bind (un1 fun (r_76 : Int32) => jn (un1 fun (x95_stateOf : Nat → Int32) => rec35 (x35_3 + 1, x95_stateOf)) (fun j95 => if r_76 = 0 then (j95 x35_stateOf) else (if r_68 < 0 then (j95 x35_stateOf) else (gd x35_3 3 (j95 (upd x35_stateOf x35_3.toNatClampNeg r_68)))))))))))
def BX4_meetIn_4 (v_inn_sleepers : Int32) (N : Nat) (p0 : Int32) (v_roomOf : Nat → Int32) (v_awake : Nat → Int32) (K33 : (Int32) → Option (Nat → Int32)) (rec4 : (Int32 × Int32) → Option (Nat → Int32)) : (Int32 × Int32) → Option (Nat → Int32) := un2 fun (x4_2 : Int32) (x4_3 : Int32) => if v_inn_sleepers ≤ x4_3 then (K33 x4_2) else ((fX4_isAsleepIn N x4_3 p0 v_roomOf v_awake).bind (un1 fun (r_19 : Int32) => (fX10_bit N r_19).bind (un1 fun (r_22 : Int32) => rec4 (x4_2 + r_22, x4_3 + 1))))
def fX4_meetIn (N : Nat) (p0 : Int32) (v_inn_sleepers : Int32) (v_dreamOf : Nat → Int32) (v_stateOf : Nat → Int32) (v_inn_states : Nat → Int32) (v_roomOf : Nat → Int32) (v_awake : Nat → Int32) : Option (Nat → Int32) := lp (BX4_meetIn_4 v_inn_sleepers N p0 v_roomOf v_awake (un1 fun (x33_2 : Int32) => lp (BX4_meetIn_35 v_inn_sleepers x33_2 N v_dreamOf v_inn_states p0 v_roomOf v_awake) N (0, v_stateOf))) N (0, 0)
set_option maxHeartbeats 4000000 in
set_option maxRecDepth 100000 in
theorem ctX4_meetIn (l : Launch) (E : EN) (h h_inn h_ways h_how h_passed h_dreamOf h_stateOf h_roomOf h_handOf h_awake h_thingIn h_full h_heardBy h_inn_house h_inn_thingIn h_inn_full h_inn_states h_inn_bed h_inn_dreamOf h_inn_listensIn : Nat) (v_setting : Int32) (v_been : Int32) (v_inn_minutes : Int32) (v_inn_things : Int32) (v_inn_dreams : Int32) (v_inn_sleepers : Int32) (v_inn_listeners : Int32) (v_dreamOf : Nat → Int32) (v_stateOf : Nat → Int32) (v_inn_states : Nat → Int32) (v_roomOf : Nat → Int32) (v_awake : Nat → Int32) (N : Nat) (p0 : Int32) (z : Nat → Int32) (hf : fX4_meetIn N p0 v_inn_sleepers v_dreamOf v_stateOf v_inn_states v_roomOf v_awake = some z) : CTv l E yX4_meetIn cX4_meetIn 5 1 23 [.ref h, .int p0] (wX4_meetIn E h h_inn h_ways h_how h_passed h_dreamOf h_stateOf h_roomOf h_handOf h_awake h_thingIn h_full h_heardBy h_inn_house h_inn_thingIn h_inn_full h_inn_states h_inn_bed h_inn_dreamOf h_inn_listensIn v_setting v_been v_inn_minutes v_inn_things v_inn_dreams v_inn_sleepers v_inn_listeners v_dreamOf v_stateOf v_inn_states v_roomOf v_awake) (wX4_meetIn E h h_inn h_ways h_how h_passed h_dreamOf h_stateOf h_roomOf h_handOf h_awake h_thingIn h_full h_heardBy h_inn_house h_inn_thingIn h_inn_full h_inn_states h_inn_bed h_inn_dreamOf h_inn_listensIn v_setting v_been v_inn_minutes v_inn_things v_inn_dreams v_inn_sleepers v_inn_listeners v_dreamOf z v_inn_states v_roomOf v_awake) := by
  intro sz
  refine ct_body (by decide) (Nat.le_of_ble_eq_true rfl) ?_
  intro p e s m args below meth c A ls hAe C hr hin hP hD hS hl
  have C : CX p s m args meth c cX4_meetIn RX4 5 E A := C
  have hl : lv_has ls 5 [(0, .ref h), (1, .int p0)] := hl
  have hx := C.1
  have hb := C.2.1
  rw [hAe]
  clear hAe
  obtain ⟨Q, hQ⟩ : ∃ Q, Q = MQ below (Qv E A (wX4_meetIn E h h_inn h_ways h_how h_passed h_dreamOf h_stateOf h_roomOf h_handOf h_awake h_thingIn h_full h_heardBy h_inn_house h_inn_thingIn h_inn_full h_inn_states h_inn_bed h_inn_dreamOf h_inn_listensIn v_setting v_been v_inn_minutes v_inn_things v_inn_dreams v_inn_sleepers v_inn_listeners v_dreamOf z v_inn_states v_roomOf v_awake)) args s 0 0 A := ⟨_, rfl⟩
  rw [← hQ]
  unfold fX4_meetIn at hf
  refine lv_iconst (pc := 0) (v := 0) hx hb dX4_meetIn_0 (by decide) ?_
  refine lv_istore_n (pc := 1) (lv' := [(2, .int 0), (0, .ref h), (1, .int p0)]) hx hb dX4_meetIn_1 rfl hl (by decide) rfl (fun ls hl => ?_)
  refine lv_iconst (pc := 2) (v := 0) hx hb dX4_meetIn_2 (by decide) ?_
  refine lv_istore_n (pc := 3) (lv' := [(3, .int 0), (2, .int 0), (0, .ref h), (1, .int p0)]) hx hb dX4_meetIn_3 rfl hl (by decide) rfl (fun ls hl => ?_)
  refine lpK hf (fun K33 eK33 hf => ?_)
  have hK33 : ∀ (x33_2 : Int32) , K33 x33_2 = some z → AT p l e (rmOf 1 23) s m args below meth c E A Q 0 0 5 [(0, .ref h), (1, .int p0), (2, .int x33_2)] (wX4_meetIn E h h_inn h_ways h_how h_passed h_dreamOf h_stateOf h_roomOf h_handOf h_awake h_thingIn h_full h_heardBy h_inn_house h_inn_thingIn h_inn_full h_inn_states h_inn_bed h_inn_dreamOf h_inn_listensIn v_setting v_been v_inn_minutes v_inn_things v_inn_dreams v_inn_sleepers v_inn_listeners v_dreamOf v_stateOf v_inn_states v_roomOf v_awake) 33 [] := by
    intro x33_2 hf H locs ls hl hP hD hS
    rw [eK33] at hf
    replace hf := un1_s hf
    refine lv_iconst (pc := 33) (v := 0) hx hb dX4_meetIn_33 (by decide) ?_
    refine lv_istore_n (pc := 34) (lv' := [(3, .int 0), (0, .ref h), (1, .int p0), (2, .int x33_2)]) hx hb dX4_meetIn_34 rfl hl (by decide) rfl (fun ls hl => ?_)
    have key35 : ∀ (n : Nat) (x35_3 : Int32) (x35_stateOf : Nat → Int32) , lp (BX4_meetIn_35 v_inn_sleepers x33_2 N v_dreamOf v_inn_states p0 v_roomOf v_awake) n (x35_3, x35_stateOf) = some z → AT p l e (rmOf 1 23) s m args below meth c E A Q 0 0 5 [(0, .ref h), (1, .int p0), (2, .int x33_2), (3, .int x35_3)] (wX4_meetIn E h h_inn h_ways h_how h_passed h_dreamOf h_stateOf h_roomOf h_handOf h_awake h_thingIn h_full h_heardBy h_inn_house h_inn_thingIn h_inn_full h_inn_states h_inn_bed h_inn_dreamOf h_inn_listensIn v_setting v_been v_inn_minutes v_inn_things v_inn_dreams v_inn_sleepers v_inn_listeners v_dreamOf x35_stateOf v_inn_states v_roomOf v_awake) 35 [] := by
      intro n
      induction n with
      | zero => intro x35_3 x35_stateOf hf; exact (lp_0 hf).elim
      | succ n ih35 =>
        intro x35_3 x35_stateOf hf H locs ls hl hP hD hS
        replace hf := lp_s hf
        generalize lp (BX4_meetIn_35 v_inn_sleepers x33_2 N v_dreamOf v_inn_states p0 v_roomOf v_awake) n = rec35 at ih35 hf
        unfold BX4_meetIn_35 at hf
        replace hf := un2_s hf
        refine lv_iload_n (pc := 35) hx hb dX4_meetIn_35 rfl (lv_at hl 3 rfl) ?_
        refine lv_aload_n (pc := 36) hx hb dX4_meetIn_36 rfl (lv_at hl 0 rfl) ?_
        refine r_get (pc := 37) C hP 0 rfl fl_X4_51 rfl dX4_meetIn_37 ?_
        refine r_get (pc := 40) C hP 1 rfl fl_X4_85 rfl dX4_meetIn_40 ?_
        refine lv_icmp_ge (pc := 43) (tgt := 101) hx hb dX4_meetIn_43 (by decide) (fun c_43 => ?_) (fun c_43 => ?_)
        · replace hf := it_t c_43 hf
          cases hf
          rw [hQ]
          exact r_vret C hr hP hD hS dX4_meetIn_101
        · replace hf := it_f c_43 hf
          refine lv_iload_n (pc := 46) hx hb dX4_meetIn_46 rfl (lv_at hl 2 rfl) ?_
          refine lv_iconst (pc := 47) (v := 1) hx hb dX4_meetIn_47 (by decide) ?_
          refine lv_icmp_le (pc := 48) (tgt := 101) hx hb dX4_meetIn_48 (by decide) (fun c_48 => ?_) (fun c_48 => ?_)
          · replace hf := it_t c_48 hf
            cases hf
            rw [hQ]
            exact r_vret C hr hP hD hS dX4_meetIn_101
          · replace hf := it_f c_48 hf
            refine lv_aload_n (pc := 51) hx hb dX4_meetIn_51 rfl (lv_at hl 0 rfl) ?_
            refine r_get (pc := 52) C hP 0 rfl fl_X4_51 rfl dX4_meetIn_52 ?_
            refine lv_aload_n (pc := 55) hx hb dX4_meetIn_55 rfl (lv_at hl 0 rfl) ?_
            refine r_get (pc := 56) C hP 0 rfl fl_X4_25 rfl dX4_meetIn_56 ?_
            refine lv_iload_n (pc := 59) hx hb dX4_meetIn_59 rfl (lv_at hl 3 rfl) ?_
            obtain ⟨hi_60, hf⟩ := gd_s hf
            refine r_iald (pc := 60) C hP 2 rfl hi_60 dX4_meetIn_60 ?_
            refine lv_aload_n (pc := 61) hx hb dX4_meetIn_61 rfl (lv_at hl 0 rfl) ?_
            refine r_get (pc := 62) C hP 0 rfl fl_X4_28 rfl dX4_meetIn_62 ?_
            refine lv_iload_n (pc := 65) hx hb dX4_meetIn_65 rfl (lv_at hl 3 rfl) ?_
            obtain ⟨hi_66, hf⟩ := gd_s hf
            refine r_iald (pc := 66) C hP 3 rfl hi_66 dX4_meetIn_66 ?_
            refine lv_iconst (pc := 67) (v := 3) hx hb dX4_meetIn_67 (by decide) ?_
            obtain ⟨r_68, hc_68, hf⟩ := bd1 hf
            refine r_dalVi (pc := 68) (ws' := (wX4_meetIn E h h_inn h_ways h_how h_passed h_dreamOf h_stateOf h_roomOf h_handOf h_awake h_thingIn h_full h_heardBy h_inn_house h_inn_thingIn h_inn_full h_inn_states h_inn_bed h_inn_dreamOf h_inn_listensIn v_setting v_been v_inn_minutes v_inn_things v_inn_dreams v_inn_sleepers v_inn_listeners v_dreamOf x35_stateOf v_inn_states v_roomOf v_awake)) (As := [.int (v_dreamOf x35_3.toNatClampNeg), .int (x35_stateOf x35_3.toNatClampNeg), .int 3]) (rest := []) C (ctX2_ofState l E h_inn h_inn_house h_inn_thingIn h_inn_full h_inn_states h_inn_bed h_inn_dreamOf h_inn_listensIn v_inn_minutes v_inn_things v_inn_dreams v_inn_sleepers v_inn_listeners v_inn_states N (v_dreamOf x35_3.toNatClampNeg) (x35_stateOf x35_3.toNatClampNeg) 3 r_68 hc_68) ml_X4_117 ⟨Nat.le_of_ble_eq_true rfl, Nat.le_of_ble_eq_true rfl⟩ hP hD hS 1 rfl rfl rfl [1, 4] [0, 7, 2, 3, 8, 5, 6] 7 rfl rfl rfl rfl rfl rfl rfl hl.1 rfl (Nat.le_of_ble_eq_true rfl) ⟨Nat.zero_le _, Nat.zero_le _⟩ dX4_meetIn_68 ?_
            clear hP hD hS; intro H locs hP hD hS
            refine lv_istore (pc := 71) (lv' := [(4, .int r_68), (0, .ref h), (1, .int p0), (2, .int x33_2), (3, .int x35_3)]) hx hb dX4_meetIn_71 hl (by decide) rfl (fun ls hl => ?_)
            refine lv_aload_n (pc := 73) hx hb dX4_meetIn_73 rfl (lv_at hl 1 rfl) ?_
            refine lv_iload_n (pc := 74) hx hb dX4_meetIn_74 rfl (lv_at hl 4 rfl) ?_
            refine lv_iload_n (pc := 75) hx hb dX4_meetIn_75 rfl (lv_at hl 2 rfl) ?_
            obtain ⟨r_76, hc_76, hf⟩ := bd1 hf
            refine r_dalVi (pc := 76) (ws' := (wX4_meetIn E h h_inn h_ways h_how h_passed h_dreamOf h_stateOf h_roomOf h_handOf h_awake h_thingIn h_full h_heardBy h_inn_house h_inn_thingIn h_inn_full h_inn_states h_inn_bed h_inn_dreamOf h_inn_listensIn v_setting v_been v_inn_minutes v_inn_things v_inn_dreams v_inn_sleepers v_inn_listeners v_dreamOf x35_stateOf v_inn_states v_roomOf v_awake)) (As := [.int x35_3, .int p0]) (rest := []) C (ctX4_isAsleepIn l E h h_ways h_how h_passed h_dreamOf h_stateOf h_roomOf h_handOf h_awake h_thingIn h_full h_heardBy (some h_inn) v_setting v_been v_roomOf v_awake N x35_3 p0 r_76 hc_76) ml_X4_169 ⟨Nat.le_of_ble_eq_true rfl, Nat.le_of_ble_eq_true rfl⟩ hP hD hS 0 rfl rfl rfl [0, 5, 6] [7, 1, 2, 3, 4, 8, 9] 7 rfl rfl rfl rfl rfl rfl rfl hl.1 rfl (Nat.le_of_ble_eq_true rfl) ⟨Nat.zero_le _, Nat.zero_le _⟩ dX4_meetIn_76 ?_
            clear hP hD hS; intro H locs hP hD hS
            refine jnK hf (fun j95 ej95 hf => ?_)
            have hj95 : ∀ (x95_stateOf : Nat → Int32) , j95 x95_stateOf = some z → AT p l e (rmOf 1 23) s m args below meth c E A Q 0 0 5 [(0, .ref h), (1, .int p0), (2, .int x33_2), (3, .int x35_3)] (wX4_meetIn E h h_inn h_ways h_how h_passed h_dreamOf h_stateOf h_roomOf h_handOf h_awake h_thingIn h_full h_heardBy h_inn_house h_inn_thingIn h_inn_full h_inn_states h_inn_bed h_inn_dreamOf h_inn_listensIn v_setting v_been v_inn_minutes v_inn_things v_inn_dreams v_inn_sleepers v_inn_listeners v_dreamOf x95_stateOf v_inn_states v_roomOf v_awake) 95 [] := by
              intro x95_stateOf hf H locs ls hl hP hD hS
              rw [ej95] at hf
              replace hf := un1_s hf
              refine lv_iinc (pc := 95) (v := x35_3 + 1) (lv' := [(3, .int (x35_3 + 1)), (0, .ref h), (1, .int p0), (2, .int x33_2)]) hx hb dX4_meetIn_95 hl (k := 3) rfl rfl (by decide) rfl (fun ls hl => ?_)
              refine lv_goto (pc := 98) (tgt := 35) hx hb dX4_meetIn_98 (by decide) ?_
              exact ih35 (x35_3 + 1) x95_stateOf hf _ _ _ (lv_sub hl [1, 2, 3, 0] rfl) hP hD hS
            clear ej95
            refine lv_if_eq (pc := 79) (tgt := 95) hx hb dX4_meetIn_79 (by decide) (fun c_79 => ?_) (fun c_79 => ?_)
            · replace hf := it_t c_79 hf
              exact hj95 x35_stateOf hf _ _ _ (lv_sub hl [1, 2, 3, 4] rfl) hP hD hS
            · replace hf := it_f c_79 hf
              refine lv_iload (pc := 82) hx hb dX4_meetIn_82 (lv_at hl 0 rfl) ?_
              refine lv_if_lt (pc := 84) (tgt := 95) hx hb dX4_meetIn_84 (by decide) (fun c_84 => ?_) (fun c_84 => ?_)
              · replace hf := it_t c_84 hf
                exact hj95 x35_stateOf hf _ _ _ (lv_sub hl [1, 2, 3, 4] rfl) hP hD hS
              · replace hf := it_f c_84 hf
                refine lv_aload_n (pc := 87) hx hb dX4_meetIn_87 rfl (lv_at hl 1 rfl) ?_
                refine r_get (pc := 88) C hP 0 rfl fl_X4_28 rfl dX4_meetIn_88 ?_
                refine lv_iload_n (pc := 91) hx hb dX4_meetIn_91 rfl (lv_at hl 4 rfl) ?_
                refine lv_iload (pc := 92) hx hb dX4_meetIn_92 (lv_at hl 0 rfl) ?_
                obtain ⟨hi_94, hf⟩ := gd_s hf
                refine r_iast (pc := 94) (ws' := (wX4_meetIn E h h_inn h_ways h_how h_passed h_dreamOf h_stateOf h_roomOf h_handOf h_awake h_thingIn h_full h_heardBy h_inn_house h_inn_thingIn h_inn_full h_inn_states h_inn_bed h_inn_dreamOf h_inn_listensIn v_setting v_been v_inn_minutes v_inn_things v_inn_dreams v_inn_sleepers v_inn_listeners v_dreamOf (upd x35_stateOf x35_3.toNatClampNeg r_68) v_inn_states v_roomOf v_awake)) C hP hD hS 3 rfl hi_94 rfl dX4_meetIn_94 ?_
                clear hP hD hS; intro H locs hP hD hS
                exact hj95 (upd x35_stateOf x35_3.toNatClampNeg r_68) hf _ _ _ (lv_sub hl [1, 2, 3, 4] rfl) hP hD hS
    exact key35 _ 0 v_stateOf hf _ _ _ (lv_sub hl [1, 2, 3, 0] rfl) hP hD hS
  clear eK33
  have key4 : ∀ (n : Nat) (x4_2 : Int32) (x4_3 : Int32) , lp (BX4_meetIn_4 v_inn_sleepers N p0 v_roomOf v_awake K33) n (x4_2, x4_3) = some z → AT p l e (rmOf 1 23) s m args below meth c E A Q 0 0 5 [(0, .ref h), (1, .int p0), (2, .int x4_2), (3, .int x4_3)] (wX4_meetIn E h h_inn h_ways h_how h_passed h_dreamOf h_stateOf h_roomOf h_handOf h_awake h_thingIn h_full h_heardBy h_inn_house h_inn_thingIn h_inn_full h_inn_states h_inn_bed h_inn_dreamOf h_inn_listensIn v_setting v_been v_inn_minutes v_inn_things v_inn_dreams v_inn_sleepers v_inn_listeners v_dreamOf v_stateOf v_inn_states v_roomOf v_awake) 4 [] := by
    intro n
    induction n with
    | zero => intro x4_2 x4_3 hf; exact (lp_0 hf).elim
    | succ n ih4 =>
      intro x4_2 x4_3 hf H locs ls hl hP hD hS
      replace hf := lp_s hf
      generalize lp (BX4_meetIn_4 v_inn_sleepers N p0 v_roomOf v_awake K33) n = rec4 at ih4 hf
      unfold BX4_meetIn_4 at hf
      replace hf := un2_s hf
      refine lv_iload_n (pc := 4) hx hb dX4_meetIn_4 rfl (lv_at hl 3 rfl) ?_
      refine lv_aload_n (pc := 5) hx hb dX4_meetIn_5 rfl (lv_at hl 0 rfl) ?_
      refine r_get (pc := 6) C hP 0 rfl fl_X4_51 rfl dX4_meetIn_6 ?_
      refine r_get (pc := 9) C hP 1 rfl fl_X4_85 rfl dX4_meetIn_9 ?_
      refine lv_icmp_ge (pc := 12) (tgt := 33) hx hb dX4_meetIn_12 (by decide) (fun c_12 => ?_) (fun c_12 => ?_)
      · replace hf := it_t c_12 hf
        exact hK33 x4_2 hf _ _ _ (lv_sub hl [0, 1, 2] rfl) hP hD hS
      · replace hf := it_f c_12 hf
        refine lv_iload_n (pc := 15) hx hb dX4_meetIn_15 rfl (lv_at hl 2 rfl) ?_
        refine lv_aload_n (pc := 16) hx hb dX4_meetIn_16 rfl (lv_at hl 0 rfl) ?_
        refine lv_iload_n (pc := 17) hx hb dX4_meetIn_17 rfl (lv_at hl 3 rfl) ?_
        refine lv_iload_n (pc := 18) hx hb dX4_meetIn_18 rfl (lv_at hl 1 rfl) ?_
        obtain ⟨r_19, hc_19, hf⟩ := bd1 hf
        refine r_dalVi (pc := 19) (ws' := (wX4_meetIn E h h_inn h_ways h_how h_passed h_dreamOf h_stateOf h_roomOf h_handOf h_awake h_thingIn h_full h_heardBy h_inn_house h_inn_thingIn h_inn_full h_inn_states h_inn_bed h_inn_dreamOf h_inn_listensIn v_setting v_been v_inn_minutes v_inn_things v_inn_dreams v_inn_sleepers v_inn_listeners v_dreamOf v_stateOf v_inn_states v_roomOf v_awake)) (As := [.int x4_3, .int p0]) (rest := [.int x4_2]) C (ctX4_isAsleepIn l E h h_ways h_how h_passed h_dreamOf h_stateOf h_roomOf h_handOf h_awake h_thingIn h_full h_heardBy (some h_inn) v_setting v_been v_roomOf v_awake N x4_3 p0 r_19 hc_19) ml_X4_169 ⟨Nat.le_of_ble_eq_true rfl, Nat.le_of_ble_eq_true rfl⟩ hP hD hS 0 rfl rfl rfl [0, 5, 6] [7, 1, 2, 3, 4, 8, 9] 7 rfl rfl rfl rfl rfl rfl rfl hl.1 rfl (Nat.le_of_ble_eq_true rfl) ⟨Nat.zero_le _, Nat.zero_le _⟩ dX4_meetIn_19 ?_
        clear hP hD hS; intro H locs hP hD hS
        obtain ⟨r_22, hc_22, hf⟩ := bd1 hf
        refine r_dalSi (pc := 22) (Cn := "") (h := 0) (ws' := (wX4_meetIn E h h_inn h_ways h_how h_passed h_dreamOf h_stateOf h_roomOf h_handOf h_awake h_thingIn h_full h_heardBy h_inn_house h_inn_thingIn h_inn_full h_inn_states h_inn_bed h_inn_dreamOf h_inn_listensIn v_setting v_been v_inn_minutes v_inn_things v_inn_dreams v_inn_sleepers v_inn_listeners v_dreamOf v_stateOf v_inn_states v_roomOf v_awake)) (As := [.int r_19]) (rest := [.int x4_2]) C (ctX10_bit l E N r_19 r_22 hc_22) ml_X4_172 ⟨Nat.le_of_ble_eq_true rfl, Nat.le_of_ble_eq_true rfl⟩ hP hD hS [] [0, 1, 2, 3, 4, 5, 6] 7 rfl rfl rfl rfl rfl rfl rfl hl.1 rfl (Nat.le_of_ble_eq_true rfl) ⟨Nat.zero_le _, Nat.zero_le _⟩ dX4_meetIn_22 ?_
        clear hP hD hS; intro H locs hP hD hS
        refine lv_iadd (pc := 25) hx hb dX4_meetIn_25 ?_
        refine lv_istore_n (pc := 26) (lv' := [(2, .int (x4_2 + r_22)), (0, .ref h), (1, .int p0), (3, .int x4_3)]) hx hb dX4_meetIn_26 rfl hl (by decide) rfl (fun ls hl => ?_)
        refine lv_iinc (pc := 27) (v := x4_3 + 1) (lv' := [(3, .int (x4_3 + 1)), (2, .int (x4_2 + r_22)), (0, .ref h), (1, .int p0)]) hx hb dX4_meetIn_27 hl (k := 3) rfl rfl (by decide) rfl (fun ls hl => ?_)
        refine lv_goto (pc := 30) (tgt := 4) hx hb dX4_meetIn_30 (by decide) ?_
        exact ih4 (x4_2 + r_22) (x4_3 + 1) hf _ _ _ (lv_sub hl [2, 3, 1, 0] rfl) hP hD hS
  exact key4 _ 0 0 hf _ _ _ (lv_sub hl [2, 3, 1, 0] rfl) hP hD hS
def wX4_goToward (E : EN) (h h_inn h_ways h_how h_passed h_dreamOf h_stateOf h_roomOf h_handOf h_awake h_thingIn h_full h_heardBy h_ways_steps h_inn_house h_inn_thingIn h_inn_full h_inn_states h_inn_bed h_inn_dreamOf h_inn_listensIn h_inn_house_creak h_inn_house_cold h_inn_house_one h_inn_house_other h_inn_house_how h_inn_house_falls h_inn_house_ways h_inn_house_ways_steps : Nat) (v_setting : Int32) (v_been : Int32) (v_roomOf : Nat → Int32) (v_ways_rooms : Int32) (v_ways_steps : Nat → Int32) (v_inn_minutes : Int32) (v_inn_things : Int32) (v_inn_dreams : Int32) (v_inn_sleepers : Int32) (v_inn_listeners : Int32) (v_inn_house_rooms : Int32) (v_inn_house_doors : Int32) (v_inn_house_one : Nat → Int32) (v_inn_house_other : Nat → Int32) (v_handOf : Nat → Int32) (v_inn_house_creak : Nat → Int32) (v_inn_listensIn : Nat → Int32) (v_inn_house_ways_rooms : Int32) (v_inn_house_ways_steps : Nat → Int32) (v_heardBy : Nat → Int64) (v_inn_house_cold : Nat → Int32) (v_dreamOf : Nat → Int32) (v_stateOf : Nat → Int32) (v_inn_states : Nat → Int32) (v_awake : Nat → Int32) (v_thingIn : Nat → Int32) (v_inn_house_falls : Nat → Int32) (v_how : Nat → Int32) (v_passed : Nat → Int32) : va_W := [(h, .inr (4, [.ref h_inn, .int v_setting, .int v_been, .ref h_ways, .ref h_how, .ref h_passed, .ref h_dreamOf, .ref h_stateOf, .ref h_roomOf, .ref h_handOf, .ref h_awake, .ref h_thingIn, .ref h_full, .ref h_heardBy])), (h_roomOf, aI E 3 v_roomOf), (h_ways, .inr (8, [.ref h_ways_steps, .int v_ways_rooms])), (h_ways_steps, aI E 64 v_ways_steps), (h_inn, .inr (2, [.ref h_inn_house, .int v_inn_minutes, .int v_inn_things, .ref h_inn_thingIn, .ref h_inn_full, .int v_inn_dreams, .ref h_inn_states, .int v_inn_sleepers, .ref h_inn_bed, .ref h_inn_dreamOf, .int v_inn_listeners, .ref h_inn_listensIn])), (h_inn_house, .inr (1, [.int v_inn_house_rooms, .ref h_inn_house_creak, .ref h_inn_house_cold, .int v_inn_house_doors, .ref h_inn_house_one, .ref h_inn_house_other, .ref h_inn_house_how, .ref h_inn_house_falls, .ref h_inn_house_ways])), (h_inn_house_one, aI E 10 v_inn_house_one), (h_inn_house_other, aI E 10 v_inn_house_other), (h_handOf, aI E 3 v_handOf), (h_inn_house_creak, aI E 8 v_inn_house_creak), (h_inn_listensIn, aI E 3 v_inn_listensIn), (h_inn_house_ways, .inr (8, [.ref h_inn_house_ways_steps, .int v_inn_house_ways_rooms])), (h_inn_house_ways_steps, aI E 64 v_inn_house_ways_steps), (h_heardBy, aJ E 3 v_heardBy), (h_inn_house_cold, aZ E 8 v_inn_house_cold), (h_dreamOf, aI E 3 v_dreamOf), (h_stateOf, aI E 3 v_stateOf), (h_inn_states, aI E 64 v_inn_states), (h_awake, aZ E 3 v_awake), (h_thingIn, aI E 4 v_thingIn), (h_inn_house_falls, aZ E 10 v_inn_house_falls), (h_how, aI E 10 v_how), (h_passed, aI E 10 v_passed)]
def fX4_goToward (N : Nat) (p0 : Int32) (p1 : Int32) (v_been : Int32) (v_roomOf : Nat → Int32) (v_ways_rooms : Int32) (v_ways_steps : Nat → Int32) (v_inn_sleepers : Int32) (v_inn_listeners : Int32) (v_inn_house_doors : Int32) (v_inn_house_one : Nat → Int32) (v_inn_house_other : Nat → Int32) (v_handOf : Nat → Int32) (v_inn_house_creak : Nat → Int32) (v_inn_listensIn : Nat → Int32) (v_inn_house_ways_steps : Nat → Int32) (v_heardBy : Nat → Int64) (v_inn_house_cold : Nat → Int32) (v_dreamOf : Nat → Int32) (v_stateOf : Nat → Int32) (v_inn_states : Nat → Int32) (v_awake : Nat → Int32) (v_thingIn : Nat → Int32) (v_inn_house_falls : Nat → Int32) (v_how : Nat → Int32) (v_passed : Nat → Int32) : Option ((Nat → Int32) × (Nat → Int64) × (Nat → Int32) × (Nat → Int32) × (Nat → Int32) × (Nat → Int32) × (Nat → Int32)) := gd p0 3 ((fX8_roomToward N (v_roomOf p0.toNatClampNeg) p1 v_ways_rooms v_ways_steps).bind (un1 fun (r_11 : Int32) => if r_11 = (-1) then (some (v_roomOf, v_heardBy, v_stateOf, v_awake, v_thingIn, v_how, v_passed)) else (gd p0 3 ((fX1_doorBetween N (v_roomOf p0.toNatClampNeg) r_11 v_inn_house_doors v_inn_house_one v_inn_house_other).bind (un1 fun (r_35 : Int32) => jn (un2 fun (x84_how : Nat → Int32) (x84_passed : Nat → Int32) => gd p0 3 (gd p0 3 (jn (un1 fun (x112_thingIn : Nat → Int32) => (fX4_creakIn N r_11 v_been v_inn_listeners v_inn_house_creak v_inn_listensIn v_inn_house_ways_steps v_heardBy).bind (un1 fun (v_heardBy_114 : Nat → Int64) => gd r_11 8 (if (v_inn_house_cold r_11.toNatClampNeg) = 0 then ((fX4_meetIn N r_11 v_inn_sleepers v_dreamOf v_stateOf v_inn_states (upd v_roomOf p0.toNatClampNeg r_11) v_awake).bind (un1 fun (v_stateOf_144 : Nat → Int32) => some (upd v_roomOf p0.toNatClampNeg r_11, v_heardBy_114, v_stateOf_144, v_awake, x112_thingIn, x84_how, x84_passed))) else (gd p0 3 (some (upd v_roomOf p0.toNatClampNeg r_11, v_heardBy_114, v_stateOf, upd v_awake p0.toNatClampNeg 1, x112_thingIn, x84_how, x84_passed)))))) (fun j112 => if (v_handOf p0.toNatClampNeg) < 0 then (j112 v_thingIn) else (gd p0 3 (gd (v_handOf p0.toNatClampNeg) 4 (j112 (upd v_thingIn (v_handOf p0.toNatClampNeg).toNatClampNeg r_11)))))))) (fun j84 => if r_35 < 0 then (j84 (v_how, v_passed)) else (gd r_35 10 (jn (un2 fun (x72_s1 : Int32) (x72_s2 : Int32) => gd x72_s1 10 (gd r_35 10 (gd r_35 10 (j84 (upd v_how x72_s1.toNatClampNeg x72_s2, upd v_passed r_35.toNatClampNeg ((v_passed r_35.toNatClampNeg) + 1)))))) (fun j72 => if (v_inn_house_falls r_35.toNatClampNeg) = 0 then (j72 (r_35, 0)) else (j72 (r_35, 1)))))))))))
set_option maxHeartbeats 4000000 in
set_option maxRecDepth 100000 in
theorem ctX4_goToward (l : Launch) (E : EN) (h h_inn h_ways h_how h_passed h_dreamOf h_stateOf h_roomOf h_handOf h_awake h_thingIn h_full h_heardBy h_ways_steps h_inn_house h_inn_thingIn h_inn_full h_inn_states h_inn_bed h_inn_dreamOf h_inn_listensIn h_inn_house_creak h_inn_house_cold h_inn_house_one h_inn_house_other h_inn_house_how h_inn_house_falls h_inn_house_ways h_inn_house_ways_steps : Nat) (v_setting : Int32) (v_been : Int32) (v_roomOf : Nat → Int32) (v_ways_rooms : Int32) (v_ways_steps : Nat → Int32) (v_inn_minutes : Int32) (v_inn_things : Int32) (v_inn_dreams : Int32) (v_inn_sleepers : Int32) (v_inn_listeners : Int32) (v_inn_house_rooms : Int32) (v_inn_house_doors : Int32) (v_inn_house_one : Nat → Int32) (v_inn_house_other : Nat → Int32) (v_handOf : Nat → Int32) (v_inn_house_creak : Nat → Int32) (v_inn_listensIn : Nat → Int32) (v_inn_house_ways_rooms : Int32) (v_inn_house_ways_steps : Nat → Int32) (v_heardBy : Nat → Int64) (v_inn_house_cold : Nat → Int32) (v_dreamOf : Nat → Int32) (v_stateOf : Nat → Int32) (v_inn_states : Nat → Int32) (v_awake : Nat → Int32) (v_thingIn : Nat → Int32) (v_inn_house_falls : Nat → Int32) (v_how : Nat → Int32) (v_passed : Nat → Int32) (N : Nat) (p0 : Int32) (p1 : Int32) (z : (Nat → Int32) × (Nat → Int64) × (Nat → Int32) × (Nat → Int32) × (Nat → Int32) × (Nat → Int32) × (Nat → Int32)) (hf : fX4_goToward N p0 p1 v_been v_roomOf v_ways_rooms v_ways_steps v_inn_sleepers v_inn_listeners v_inn_house_doors v_inn_house_one v_inn_house_other v_handOf v_inn_house_creak v_inn_listensIn v_inn_house_ways_steps v_heardBy v_inn_house_cold v_dreamOf v_stateOf v_inn_states v_awake v_thingIn v_inn_house_falls v_how v_passed = some z) : CTv l E yX4_goToward cX4_goToward 5 2 47 [.ref h, .int p0, .int p1] (wX4_goToward E h h_inn h_ways h_how h_passed h_dreamOf h_stateOf h_roomOf h_handOf h_awake h_thingIn h_full h_heardBy h_ways_steps h_inn_house h_inn_thingIn h_inn_full h_inn_states h_inn_bed h_inn_dreamOf h_inn_listensIn h_inn_house_creak h_inn_house_cold h_inn_house_one h_inn_house_other h_inn_house_how h_inn_house_falls h_inn_house_ways h_inn_house_ways_steps v_setting v_been v_roomOf v_ways_rooms v_ways_steps v_inn_minutes v_inn_things v_inn_dreams v_inn_sleepers v_inn_listeners v_inn_house_rooms v_inn_house_doors v_inn_house_one v_inn_house_other v_handOf v_inn_house_creak v_inn_listensIn v_inn_house_ways_rooms v_inn_house_ways_steps v_heardBy v_inn_house_cold v_dreamOf v_stateOf v_inn_states v_awake v_thingIn v_inn_house_falls v_how v_passed) (wX4_goToward E h h_inn h_ways h_how h_passed h_dreamOf h_stateOf h_roomOf h_handOf h_awake h_thingIn h_full h_heardBy h_ways_steps h_inn_house h_inn_thingIn h_inn_full h_inn_states h_inn_bed h_inn_dreamOf h_inn_listensIn h_inn_house_creak h_inn_house_cold h_inn_house_one h_inn_house_other h_inn_house_how h_inn_house_falls h_inn_house_ways h_inn_house_ways_steps v_setting v_been z.1 v_ways_rooms v_ways_steps v_inn_minutes v_inn_things v_inn_dreams v_inn_sleepers v_inn_listeners v_inn_house_rooms v_inn_house_doors v_inn_house_one v_inn_house_other v_handOf v_inn_house_creak v_inn_listensIn v_inn_house_ways_rooms v_inn_house_ways_steps z.2.1 v_inn_house_cold v_dreamOf z.2.2.1 v_inn_states z.2.2.2.1 z.2.2.2.2.1 v_inn_house_falls z.2.2.2.2.2.1 z.2.2.2.2.2.2) := by
  intro sz
  refine ct_body (by decide) (Nat.le_of_ble_eq_true rfl) ?_
  intro p e s m args below meth c A ls hAe C hr hin hP hD hS hl
  have C : CX p s m args meth c cX4_goToward RX4 5 E A := C
  have hl : lv_has ls 5 [(0, .ref h), (1, .int p0), (2, .int p1)] := hl
  have hx := C.1
  have hb := C.2.1
  rw [hAe]
  clear hAe
  obtain ⟨Q, hQ⟩ : ∃ Q, Q = MQ below (Qv E A (wX4_goToward E h h_inn h_ways h_how h_passed h_dreamOf h_stateOf h_roomOf h_handOf h_awake h_thingIn h_full h_heardBy h_ways_steps h_inn_house h_inn_thingIn h_inn_full h_inn_states h_inn_bed h_inn_dreamOf h_inn_listensIn h_inn_house_creak h_inn_house_cold h_inn_house_one h_inn_house_other h_inn_house_how h_inn_house_falls h_inn_house_ways h_inn_house_ways_steps v_setting v_been z.1 v_ways_rooms v_ways_steps v_inn_minutes v_inn_things v_inn_dreams v_inn_sleepers v_inn_listeners v_inn_house_rooms v_inn_house_doors v_inn_house_one v_inn_house_other v_handOf v_inn_house_creak v_inn_listensIn v_inn_house_ways_rooms v_inn_house_ways_steps z.2.1 v_inn_house_cold v_dreamOf z.2.2.1 v_inn_states z.2.2.2.1 z.2.2.2.2.1 v_inn_house_falls z.2.2.2.2.2.1 z.2.2.2.2.2.2)) args s 0 0 A := ⟨_, rfl⟩
  rw [← hQ]
  unfold fX4_goToward at hf
  refine lv_aload_n (pc := 0) hx hb dX4_goToward_0 rfl (lv_at hl 0 rfl) ?_
  refine r_get (pc := 1) C hP 0 rfl fl_X4_12 rfl dX4_goToward_1 ?_
  refine lv_aload_n (pc := 4) hx hb dX4_goToward_4 rfl (lv_at hl 0 rfl) ?_
  refine r_get (pc := 5) C hP 0 rfl fl_X4_31 rfl dX4_goToward_5 ?_
  refine lv_iload_n (pc := 8) hx hb dX4_goToward_8 rfl (lv_at hl 1 rfl) ?_
  obtain ⟨hi_9, hf⟩ := gd_s hf
  refine r_iald (pc := 9) C hP 1 rfl hi_9 dX4_goToward_9 ?_
  refine lv_iload_n (pc := 10) hx hb dX4_goToward_10 rfl (lv_at hl 2 rfl) ?_
  obtain ⟨r_11, hc_11, hf⟩ := bd1 hf
  refine r_dalVi (pc := 11) (ws' := (wX4_goToward E h h_inn h_ways h_how h_passed h_dreamOf h_stateOf h_roomOf h_handOf h_awake h_thingIn h_full h_heardBy h_ways_steps h_inn_house h_inn_thingIn h_inn_full h_inn_states h_inn_bed h_inn_dreamOf h_inn_listensIn h_inn_house_creak h_inn_house_cold h_inn_house_one h_inn_house_other h_inn_house_how h_inn_house_falls h_inn_house_ways h_inn_house_ways_steps v_setting v_been v_roomOf v_ways_rooms v_ways_steps v_inn_minutes v_inn_things v_inn_dreams v_inn_sleepers v_inn_listeners v_inn_house_rooms v_inn_house_doors v_inn_house_one v_inn_house_other v_handOf v_inn_house_creak v_inn_listensIn v_inn_house_ways_rooms v_inn_house_ways_steps v_heardBy v_inn_house_cold v_dreamOf v_stateOf v_inn_states v_awake v_thingIn v_inn_house_falls v_how v_passed)) (As := [.int (v_roomOf p0.toNatClampNeg), .int p1]) (rest := []) C (ctX8_roomToward l E h_ways h_ways_steps v_ways_rooms v_ways_steps N (v_roomOf p0.toNatClampNeg) p1 r_11 hc_11) ml_X4_138 ⟨Nat.le_of_ble_eq_true rfl, Nat.le_of_ble_eq_true rfl⟩ hP hD hS 2 rfl rfl rfl [2, 3] [0, 1, 23, 24, 4, 5, 6, 7, 8, 9, 10, 11, 12, 13, 14, 15, 16, 17, 18, 19, 20, 21, 22] 23 rfl rfl rfl rfl rfl rfl rfl hl.1 rfl (Nat.le_of_ble_eq_true rfl) ⟨Nat.zero_le _, Nat.zero_le _⟩ dX4_goToward_11 ?_
  clear hP hD hS; intro H locs hP hD hS
  refine lv_istore_n (pc := 14) (lv' := [(3, .int r_11), (0, .ref h), (1, .int p0), (2, .int p1)]) hx hb dX4_goToward_14 rfl hl (by decide) rfl (fun ls hl => ?_)
  refine lv_iload_n (pc := 15) hx hb dX4_goToward_15 rfl (lv_at hl 0 rfl) ?_
  refine lv_iconst (pc := 16) (v := (-1)) hx hb dX4_goToward_16 (by decide) ?_
  refine lv_icmp_ne (pc := 17) (tgt := 21) hx hb dX4_goToward_17 (by decide) (fun c_17 => ?_) (fun c_17 => ?_)
  · replace hf := it_f c_17 hf
    refine lv_aload_n (pc := 21) hx hb dX4_goToward_21 rfl (lv_at hl 1 rfl) ?_
    refine r_get (pc := 22) C hP 0 rfl fl_X4_51 rfl dX4_goToward_22 ?_
    refine r_get (pc := 25) C hP 4 rfl fl_X4_59 rfl dX4_goToward_25 ?_
    refine lv_aload_n (pc := 28) hx hb dX4_goToward_28 rfl (lv_at hl 1 rfl) ?_
    refine r_get (pc := 29) C hP 0 rfl fl_X4_31 rfl dX4_goToward_29 ?_
    refine lv_iload_n (pc := 32) hx hb dX4_goToward_32 rfl (lv_at hl 2 rfl) ?_
    obtain ⟨hi_33, hf⟩ := gd_s hf
    refine r_iald (pc := 33) C hP 1 rfl hi_33 dX4_goToward_33 ?_
    refine lv_iload_n (pc := 34) hx hb dX4_goToward_34 rfl (lv_at hl 0 rfl) ?_
    obtain ⟨r_35, hc_35, hf⟩ := bd1 hf
    refine r_dalVi (pc := 35) (ws' := (wX4_goToward E h h_inn h_ways h_how h_passed h_dreamOf h_stateOf h_roomOf h_handOf h_awake h_thingIn h_full h_heardBy h_ways_steps h_inn_house h_inn_thingIn h_inn_full h_inn_states h_inn_bed h_inn_dreamOf h_inn_listensIn h_inn_house_creak h_inn_house_cold h_inn_house_one h_inn_house_other h_inn_house_how h_inn_house_falls h_inn_house_ways h_inn_house_ways_steps v_setting v_been v_roomOf v_ways_rooms v_ways_steps v_inn_minutes v_inn_things v_inn_dreams v_inn_sleepers v_inn_listeners v_inn_house_rooms v_inn_house_doors v_inn_house_one v_inn_house_other v_handOf v_inn_house_creak v_inn_listensIn v_inn_house_ways_rooms v_inn_house_ways_steps v_heardBy v_inn_house_cold v_dreamOf v_stateOf v_inn_states v_awake v_thingIn v_inn_house_falls v_how v_passed)) (As := [.int (v_roomOf p0.toNatClampNeg), .int r_11]) (rest := []) C (ctX1_doorBetween l E h_inn_house h_inn_house_creak h_inn_house_cold h_inn_house_one h_inn_house_other h_inn_house_how h_inn_house_falls h_inn_house_ways v_inn_house_rooms v_inn_house_doors v_inn_house_one v_inn_house_other N (v_roomOf p0.toNatClampNeg) r_11 r_35 hc_35) ml_X4_141 ⟨Nat.le_of_ble_eq_true rfl, Nat.le_of_ble_eq_true rfl⟩ hP hD hS 5 rfl rfl rfl [5, 6, 7] [0, 1, 2, 3, 4, 23, 24, 25, 8, 9, 10, 11, 12, 13, 14, 15, 16, 17, 18, 19, 20, 21, 22] 23 rfl rfl rfl rfl rfl rfl rfl hl.1 rfl (Nat.le_of_ble_eq_true rfl) ⟨Nat.zero_le _, Nat.zero_le _⟩ dX4_goToward_35 ?_
    clear hP hD hS; intro H locs hP hD hS
    refine lv_istore (pc := 38) (lv' := [(4, .int r_35), (3, .int r_11), (0, .ref h), (1, .int p0), (2, .int p1)]) hx hb dX4_goToward_38 hl (by decide) rfl (fun ls hl => ?_)
    refine lv_iload (pc := 40) hx hb dX4_goToward_40 (lv_at hl 0 rfl) ?_
    refine jnK hf (fun j84 ej84 hf => ?_)
    have hj84 : ∀ (x84_how : Nat → Int32) (x84_passed : Nat → Int32) , j84 (x84_how, x84_passed) = some z → AT p l e (rmOf 2 47) s m args below meth c E A Q 0 0 5 [(0, .ref h), (1, .int p0), (3, .int r_11)] (wX4_goToward E h h_inn h_ways h_how h_passed h_dreamOf h_stateOf h_roomOf h_handOf h_awake h_thingIn h_full h_heardBy h_ways_steps h_inn_house h_inn_thingIn h_inn_full h_inn_states h_inn_bed h_inn_dreamOf h_inn_listensIn h_inn_house_creak h_inn_house_cold h_inn_house_one h_inn_house_other h_inn_house_how h_inn_house_falls h_inn_house_ways h_inn_house_ways_steps v_setting v_been v_roomOf v_ways_rooms v_ways_steps v_inn_minutes v_inn_things v_inn_dreams v_inn_sleepers v_inn_listeners v_inn_house_rooms v_inn_house_doors v_inn_house_one v_inn_house_other v_handOf v_inn_house_creak v_inn_listensIn v_inn_house_ways_rooms v_inn_house_ways_steps v_heardBy v_inn_house_cold v_dreamOf v_stateOf v_inn_states v_awake v_thingIn v_inn_house_falls x84_how x84_passed) 84 [] := by
      intro x84_how x84_passed hf H locs ls hl hP hD hS
      rw [ej84] at hf
      replace hf := un2_s hf
      refine lv_aload_n (pc := 84) hx hb dX4_goToward_84 rfl (lv_at hl 0 rfl) ?_
      refine r_get (pc := 85) C hP 0 rfl fl_X4_31 rfl dX4_goToward_85 ?_
      refine lv_iload_n (pc := 88) hx hb dX4_goToward_88 rfl (lv_at hl 1 rfl) ?_
      refine lv_iload_n (pc := 89) hx hb dX4_goToward_89 rfl (lv_at hl 2 rfl) ?_
      obtain ⟨hi_90, hf⟩ := gd_s hf
      refine r_iast (pc := 90) (ws' := (wX4_goToward E h h_inn h_ways h_how h_passed h_dreamOf h_stateOf h_roomOf h_handOf h_awake h_thingIn h_full h_heardBy h_ways_steps h_inn_house h_inn_thingIn h_inn_full h_inn_states h_inn_bed h_inn_dreamOf h_inn_listensIn h_inn_house_creak h_inn_house_cold h_inn_house_one h_inn_house_other h_inn_house_how h_inn_house_falls h_inn_house_ways h_inn_house_ways_steps v_setting v_been (upd v_roomOf p0.toNatClampNeg r_11) v_ways_rooms v_ways_steps v_inn_minutes v_inn_things v_inn_dreams v_inn_sleepers v_inn_listeners v_inn_house_rooms v_inn_house_doors v_inn_house_one v_inn_house_other v_handOf v_inn_house_creak v_inn_listensIn v_inn_house_ways_rooms v_inn_house_ways_steps v_heardBy v_inn_house_cold v_dreamOf v_stateOf v_inn_states v_awake v_thingIn v_inn_house_falls x84_how x84_passed)) C hP hD hS 1 rfl hi_90 rfl dX4_goToward_90 ?_
      clear hP hD hS; intro H locs hP hD hS
      refine lv_aload_n (pc := 91) hx hb dX4_goToward_91 rfl (lv_at hl 0 rfl) ?_
      refine r_get (pc := 92) C hP 0 rfl fl_X4_34 rfl dX4_goToward_92 ?_
      refine lv_iload_n (pc := 95) hx hb dX4_goToward_95 rfl (lv_at hl 1 rfl) ?_
      obtain ⟨hi_96, hf⟩ := gd_s hf
      refine r_iald (pc := 96) C hP 8 rfl hi_96 dX4_goToward_96 ?_
      refine jnK hf (fun j112 ej112 hf => ?_)
      have hj112 : ∀ (x112_thingIn : Nat → Int32) , j112 x112_thingIn = some z → AT p l e (rmOf 2 47) s m args below meth c E A Q 0 0 5 [(0, .ref h), (1, .int p0), (3, .int r_11)] (wX4_goToward E h h_inn h_ways h_how h_passed h_dreamOf h_stateOf h_roomOf h_handOf h_awake h_thingIn h_full h_heardBy h_ways_steps h_inn_house h_inn_thingIn h_inn_full h_inn_states h_inn_bed h_inn_dreamOf h_inn_listensIn h_inn_house_creak h_inn_house_cold h_inn_house_one h_inn_house_other h_inn_house_how h_inn_house_falls h_inn_house_ways h_inn_house_ways_steps v_setting v_been (upd v_roomOf p0.toNatClampNeg r_11) v_ways_rooms v_ways_steps v_inn_minutes v_inn_things v_inn_dreams v_inn_sleepers v_inn_listeners v_inn_house_rooms v_inn_house_doors v_inn_house_one v_inn_house_other v_handOf v_inn_house_creak v_inn_listensIn v_inn_house_ways_rooms v_inn_house_ways_steps v_heardBy v_inn_house_cold v_dreamOf v_stateOf v_inn_states v_awake x112_thingIn v_inn_house_falls x84_how x84_passed) 112 [] := by
        intro x112_thingIn hf H locs ls hl hP hD hS
        rw [ej112] at hf
        replace hf := un1_s hf
        refine lv_aload_n (pc := 112) hx hb dX4_goToward_112 rfl (lv_at hl 0 rfl) ?_
        refine lv_iload_n (pc := 113) hx hb dX4_goToward_113 rfl (lv_at hl 2 rfl) ?_
        obtain ⟨v_heardBy_114, hc_114, hf⟩ := bd1 hf
        refine r_dalVv (pc := 114) (ws' := (wX4_goToward E h h_inn h_ways h_how h_passed h_dreamOf h_stateOf h_roomOf h_handOf h_awake h_thingIn h_full h_heardBy h_ways_steps h_inn_house h_inn_thingIn h_inn_full h_inn_states h_inn_bed h_inn_dreamOf h_inn_listensIn h_inn_house_creak h_inn_house_cold h_inn_house_one h_inn_house_other h_inn_house_how h_inn_house_falls h_inn_house_ways h_inn_house_ways_steps v_setting v_been (upd v_roomOf p0.toNatClampNeg r_11) v_ways_rooms v_ways_steps v_inn_minutes v_inn_things v_inn_dreams v_inn_sleepers v_inn_listeners v_inn_house_rooms v_inn_house_doors v_inn_house_one v_inn_house_other v_handOf v_inn_house_creak v_inn_listensIn v_inn_house_ways_rooms v_inn_house_ways_steps v_heardBy_114 v_inn_house_cold v_dreamOf v_stateOf v_inn_states v_awake x112_thingIn v_inn_house_falls x84_how x84_passed)) (As := [.int r_11]) (rest := []) C (ctX4_creakIn l E h h_inn h_ways h_how h_passed h_dreamOf h_stateOf h_roomOf h_handOf h_awake h_thingIn h_full h_heardBy h_inn_house h_inn_thingIn h_inn_full h_inn_states h_inn_bed h_inn_dreamOf h_inn_listensIn h_inn_house_creak h_inn_house_cold h_inn_house_one h_inn_house_other h_inn_house_how h_inn_house_falls h_inn_house_ways h_inn_house_ways_steps v_setting v_been v_inn_minutes v_inn_things v_inn_dreams v_inn_sleepers v_inn_listeners v_inn_house_rooms v_inn_house_doors v_inn_house_creak v_inn_listensIn v_inn_house_ways_rooms v_inn_house_ways_steps v_heardBy N r_11 v_heardBy_114 hc_114) ml_X4_147 ⟨Nat.le_of_ble_eq_true rfl, Nat.le_of_ble_eq_true rfl⟩ hP hD hS 0 rfl rfl rfl [0, 4, 5, 9, 10, 11, 12, 13] [23, 1, 2, 3, 24, 25, 6, 7, 8, 26, 27, 28, 29, 30, 14, 15, 16, 17, 18, 19, 20, 21, 22] 23 rfl rfl rfl rfl rfl rfl rfl hl.1 rfl (Nat.le_of_ble_eq_true rfl) ⟨Nat.zero_le _, Nat.zero_le _⟩ dX4_goToward_114 ?_
        clear hP hD hS; intro H locs hP hD hS
        refine lv_aload_n (pc := 117) hx hb dX4_goToward_117 rfl (lv_at hl 0 rfl) ?_
        refine r_get (pc := 118) C hP 0 rfl fl_X4_51 rfl dX4_goToward_118 ?_
        refine r_get (pc := 121) C hP 4 rfl fl_X4_59 rfl dX4_goToward_121 ?_
        refine r_get (pc := 124) C hP 5 rfl fl_X4_150 rfl dX4_goToward_124 ?_
        refine lv_iload_n (pc := 127) hx hb dX4_goToward_127 rfl (lv_at hl 2 rfl) ?_
        obtain ⟨hi_128, hf⟩ := gd_s hf
        refine r_zald (pc := 128) C hP 14 rfl hi_128 dX4_goToward_128 ?_
        refine lv_if_eq (pc := 129) (tgt := 142) hx hb dX4_goToward_129 (by decide) (fun c_129 => ?_) (fun c_129 => ?_)
        · replace hf := it_t c_129 hf
          refine lv_aload_n (pc := 142) hx hb dX4_goToward_142 rfl (lv_at hl 0 rfl) ?_
          refine lv_iload_n (pc := 143) hx hb dX4_goToward_143 rfl (lv_at hl 2 rfl) ?_
          obtain ⟨v_stateOf_144, hc_144, hf⟩ := bd1 hf
          refine r_dalVv (pc := 144) (ws' := (wX4_goToward E h h_inn h_ways h_how h_passed h_dreamOf h_stateOf h_roomOf h_handOf h_awake h_thingIn h_full h_heardBy h_ways_steps h_inn_house h_inn_thingIn h_inn_full h_inn_states h_inn_bed h_inn_dreamOf h_inn_listensIn h_inn_house_creak h_inn_house_cold h_inn_house_one h_inn_house_other h_inn_house_how h_inn_house_falls h_inn_house_ways h_inn_house_ways_steps v_setting v_been (upd v_roomOf p0.toNatClampNeg r_11) v_ways_rooms v_ways_steps v_inn_minutes v_inn_things v_inn_dreams v_inn_sleepers v_inn_listeners v_inn_house_rooms v_inn_house_doors v_inn_house_one v_inn_house_other v_handOf v_inn_house_creak v_inn_listensIn v_inn_house_ways_rooms v_inn_house_ways_steps v_heardBy_114 v_inn_house_cold v_dreamOf v_stateOf_144 v_inn_states v_awake x112_thingIn v_inn_house_falls x84_how x84_passed)) (As := [.int r_11]) (rest := []) C (ctX4_meetIn l E h h_inn h_ways h_how h_passed h_dreamOf h_stateOf h_roomOf h_handOf h_awake h_thingIn h_full h_heardBy h_inn_house h_inn_thingIn h_inn_full h_inn_states h_inn_bed h_inn_dreamOf h_inn_listensIn v_setting v_been v_inn_minutes v_inn_things v_inn_dreams v_inn_sleepers v_inn_listeners v_dreamOf v_stateOf v_inn_states (upd v_roomOf p0.toNatClampNeg r_11) v_awake N r_11 v_stateOf_144 hc_144) ml_X4_153 ⟨Nat.le_of_ble_eq_true rfl, Nat.le_of_ble_eq_true rfl⟩ hP hD hS 0 rfl rfl rfl [0, 4, 15, 16, 17, 1, 18] [23, 28, 2, 3, 24, 5, 6, 7, 8, 9, 10, 11, 12, 13, 14, 25, 26, 27, 29, 19, 20, 21, 22] 23 rfl rfl rfl rfl rfl rfl rfl hl.1 rfl (Nat.le_of_ble_eq_true rfl) ⟨Nat.zero_le _, Nat.zero_le _⟩ dX4_goToward_144 ?_
          clear hP hD hS; intro H locs hP hD hS
          cases hf
          rw [hQ]
          exact r_vret C hr hP hD hS dX4_goToward_147
        · replace hf := it_f c_129 hf
          refine lv_aload_n (pc := 132) hx hb dX4_goToward_132 rfl (lv_at hl 0 rfl) ?_
          refine r_get (pc := 133) C hP 0 rfl fl_X4_37 rfl dX4_goToward_133 ?_
          refine lv_iload_n (pc := 136) hx hb dX4_goToward_136 rfl (lv_at hl 1 rfl) ?_
          refine lv_iconst (pc := 137) (v := 1) hx hb dX4_goToward_137 (by decide) ?_
          obtain ⟨hi_138, hf⟩ := gd_s hf
          refine r_zast (pc := 138) (ws' := (wX4_goToward E h h_inn h_ways h_how h_passed h_dreamOf h_stateOf h_roomOf h_handOf h_awake h_thingIn h_full h_heardBy h_ways_steps h_inn_house h_inn_thingIn h_inn_full h_inn_states h_inn_bed h_inn_dreamOf h_inn_listensIn h_inn_house_creak h_inn_house_cold h_inn_house_one h_inn_house_other h_inn_house_how h_inn_house_falls h_inn_house_ways h_inn_house_ways_steps v_setting v_been (upd v_roomOf p0.toNatClampNeg r_11) v_ways_rooms v_ways_steps v_inn_minutes v_inn_things v_inn_dreams v_inn_sleepers v_inn_listeners v_inn_house_rooms v_inn_house_doors v_inn_house_one v_inn_house_other v_handOf v_inn_house_creak v_inn_listensIn v_inn_house_ways_rooms v_inn_house_ways_steps v_heardBy_114 v_inn_house_cold v_dreamOf v_stateOf v_inn_states (upd v_awake p0.toNatClampNeg 1) x112_thingIn v_inn_house_falls x84_how x84_passed)) C hP hD hS 18 rfl hi_138 (Or.inr rfl) rfl dX4_goToward_138 ?_
          clear hP hD hS; intro H locs hP hD hS
          refine lv_goto (pc := 139) (tgt := 147) hx hb dX4_goToward_139 (by decide) ?_
          cases hf
          rw [hQ]
          exact r_vret C hr hP hD hS dX4_goToward_147
      clear ej112
      refine lv_if_lt (pc := 97) (tgt := 112) hx hb dX4_goToward_97 (by decide) (fun c_97 => ?_) (fun c_97 => ?_)
      · replace hf := it_t c_97 hf
        exact hj112 v_thingIn hf _ _ _ (lv_sub hl [0, 1, 2] rfl) hP hD hS
      · replace hf := it_f c_97 hf
        refine lv_aload_n (pc := 100) hx hb dX4_goToward_100 rfl (lv_at hl 0 rfl) ?_
        refine r_get (pc := 101) C hP 0 rfl fl_X4_41 rfl dX4_goToward_101 ?_
        refine lv_aload_n (pc := 104) hx hb dX4_goToward_104 rfl (lv_at hl 0 rfl) ?_
        refine r_get (pc := 105) C hP 0 rfl fl_X4_34 rfl dX4_goToward_105 ?_
        refine lv_iload_n (pc := 108) hx hb dX4_goToward_108 rfl (lv_at hl 1 rfl) ?_
        obtain ⟨hi_109, hf⟩ := gd_s hf
        refine r_iald (pc := 109) C hP 8 rfl hi_109 dX4_goToward_109 ?_
        refine lv_iload_n (pc := 110) hx hb dX4_goToward_110 rfl (lv_at hl 2 rfl) ?_
        obtain ⟨hi_111, hf⟩ := gd_s hf
        refine r_iast (pc := 111) (ws' := (wX4_goToward E h h_inn h_ways h_how h_passed h_dreamOf h_stateOf h_roomOf h_handOf h_awake h_thingIn h_full h_heardBy h_ways_steps h_inn_house h_inn_thingIn h_inn_full h_inn_states h_inn_bed h_inn_dreamOf h_inn_listensIn h_inn_house_creak h_inn_house_cold h_inn_house_one h_inn_house_other h_inn_house_how h_inn_house_falls h_inn_house_ways h_inn_house_ways_steps v_setting v_been (upd v_roomOf p0.toNatClampNeg r_11) v_ways_rooms v_ways_steps v_inn_minutes v_inn_things v_inn_dreams v_inn_sleepers v_inn_listeners v_inn_house_rooms v_inn_house_doors v_inn_house_one v_inn_house_other v_handOf v_inn_house_creak v_inn_listensIn v_inn_house_ways_rooms v_inn_house_ways_steps v_heardBy v_inn_house_cold v_dreamOf v_stateOf v_inn_states v_awake (upd v_thingIn (v_handOf p0.toNatClampNeg).toNatClampNeg r_11) v_inn_house_falls x84_how x84_passed)) C hP hD hS 19 rfl hi_111 rfl dX4_goToward_111 ?_
        clear hP hD hS; intro H locs hP hD hS
        exact hj112 (upd v_thingIn (v_handOf p0.toNatClampNeg).toNatClampNeg r_11) hf _ _ _ (lv_sub hl [0, 1, 2] rfl) hP hD hS
    clear ej84
    refine lv_if_lt (pc := 42) (tgt := 84) hx hb dX4_goToward_42 (by decide) (fun c_42 => ?_) (fun c_42 => ?_)
    · replace hf := it_t c_42 hf
      exact hj84 v_how v_passed hf _ _ _ (lv_sub hl [2, 3, 1] rfl) hP hD hS
    · replace hf := it_f c_42 hf
      refine lv_aload_n (pc := 45) hx hb dX4_goToward_45 rfl (lv_at hl 2 rfl) ?_
      refine r_get (pc := 46) C hP 0 rfl fl_X4_18 rfl dX4_goToward_46 ?_
      refine lv_iload (pc := 49) hx hb dX4_goToward_49 (lv_at hl 0 rfl) ?_
      refine lv_aload_n (pc := 51) hx hb dX4_goToward_51 rfl (lv_at hl 2 rfl) ?_
      refine r_get (pc := 52) C hP 0 rfl fl_X4_51 rfl dX4_goToward_52 ?_
      refine r_get (pc := 55) C hP 4 rfl fl_X4_59 rfl dX4_goToward_55 ?_
      refine r_get (pc := 58) C hP 5 rfl fl_X4_144 rfl dX4_goToward_58 ?_
      refine lv_iload (pc := 61) hx hb dX4_goToward_61 (lv_at hl 0 rfl) ?_
      obtain ⟨hi_63, hf⟩ := gd_s hf
      refine r_zald (pc := 63) C hP 20 rfl hi_63 dX4_goToward_63 ?_
      refine jnK hf (fun j72 ej72 hf => ?_)
      have hj72 : ∀ (x72_s1 : Int32) (x72_s2 : Int32) , j72 (x72_s1, x72_s2) = some z → AT p l e (rmOf 2 47) s m args below meth c E A Q 0 0 5 [(0, .ref h), (1, .int p0), (3, .int r_11), (4, .int r_35)] (wX4_goToward E h h_inn h_ways h_how h_passed h_dreamOf h_stateOf h_roomOf h_handOf h_awake h_thingIn h_full h_heardBy h_ways_steps h_inn_house h_inn_thingIn h_inn_full h_inn_states h_inn_bed h_inn_dreamOf h_inn_listensIn h_inn_house_creak h_inn_house_cold h_inn_house_one h_inn_house_other h_inn_house_how h_inn_house_falls h_inn_house_ways h_inn_house_ways_steps v_setting v_been v_roomOf v_ways_rooms v_ways_steps v_inn_minutes v_inn_things v_inn_dreams v_inn_sleepers v_inn_listeners v_inn_house_rooms v_inn_house_doors v_inn_house_one v_inn_house_other v_handOf v_inn_house_creak v_inn_listensIn v_inn_house_ways_rooms v_inn_house_ways_steps v_heardBy v_inn_house_cold v_dreamOf v_stateOf v_inn_states v_awake v_thingIn v_inn_house_falls v_how v_passed) 72 [.int x72_s2, .int x72_s1, .ref h_how] := by
        intro x72_s1 x72_s2 hf H locs ls hl hP hD hS
        rw [ej72] at hf
        replace hf := un2_s hf
        obtain ⟨hi_72, hf⟩ := gd_s hf
        refine r_iast (pc := 72) (ws' := (wX4_goToward E h h_inn h_ways h_how h_passed h_dreamOf h_stateOf h_roomOf h_handOf h_awake h_thingIn h_full h_heardBy h_ways_steps h_inn_house h_inn_thingIn h_inn_full h_inn_states h_inn_bed h_inn_dreamOf h_inn_listensIn h_inn_house_creak h_inn_house_cold h_inn_house_one h_inn_house_other h_inn_house_how h_inn_house_falls h_inn_house_ways h_inn_house_ways_steps v_setting v_been v_roomOf v_ways_rooms v_ways_steps v_inn_minutes v_inn_things v_inn_dreams v_inn_sleepers v_inn_listeners v_inn_house_rooms v_inn_house_doors v_inn_house_one v_inn_house_other v_handOf v_inn_house_creak v_inn_listensIn v_inn_house_ways_rooms v_inn_house_ways_steps v_heardBy v_inn_house_cold v_dreamOf v_stateOf v_inn_states v_awake v_thingIn v_inn_house_falls (upd v_how x72_s1.toNatClampNeg x72_s2) v_passed)) C hP hD hS 21 rfl hi_72 rfl dX4_goToward_72 ?_
        clear hP hD hS; intro H locs hP hD hS
        refine lv_aload_n (pc := 73) hx hb dX4_goToward_73 rfl (lv_at hl 0 rfl) ?_
        refine r_get (pc := 74) C hP 0 rfl fl_X4_22 rfl dX4_goToward_74 ?_
        refine lv_iload (pc := 77) hx hb dX4_goToward_77 (lv_at hl 3 rfl) ?_
        refine lv_dup2_11 (pc := 79) hx hb dX4_goToward_79 rfl rfl ?_
        obtain ⟨hi_80, hf⟩ := gd_s hf
        refine r_iald (pc := 80) C hP 22 rfl hi_80 dX4_goToward_80 ?_
        refine lv_iconst (pc := 81) (v := 1) hx hb dX4_goToward_81 (by decide) ?_
        refine lv_iadd (pc := 82) hx hb dX4_goToward_82 ?_
        obtain ⟨hi_83, hf⟩ := gd_s hf
        refine r_iast (pc := 83) (ws' := (wX4_goToward E h h_inn h_ways h_how h_passed h_dreamOf h_stateOf h_roomOf h_handOf h_awake h_thingIn h_full h_heardBy h_ways_steps h_inn_house h_inn_thingIn h_inn_full h_inn_states h_inn_bed h_inn_dreamOf h_inn_listensIn h_inn_house_creak h_inn_house_cold h_inn_house_one h_inn_house_other h_inn_house_how h_inn_house_falls h_inn_house_ways h_inn_house_ways_steps v_setting v_been v_roomOf v_ways_rooms v_ways_steps v_inn_minutes v_inn_things v_inn_dreams v_inn_sleepers v_inn_listeners v_inn_house_rooms v_inn_house_doors v_inn_house_one v_inn_house_other v_handOf v_inn_house_creak v_inn_listensIn v_inn_house_ways_rooms v_inn_house_ways_steps v_heardBy v_inn_house_cold v_dreamOf v_stateOf v_inn_states v_awake v_thingIn v_inn_house_falls (upd v_how x72_s1.toNatClampNeg x72_s2) (upd v_passed r_35.toNatClampNeg ((v_passed r_35.toNatClampNeg) + 1)))) C hP hD hS 22 rfl hi_83 rfl dX4_goToward_83 ?_
        clear hP hD hS; intro H locs hP hD hS
        exact hj84 (upd v_how x72_s1.toNatClampNeg x72_s2) (upd v_passed r_35.toNatClampNeg ((v_passed r_35.toNatClampNeg) + 1)) hf _ _ _ (lv_sub hl [0, 1, 2] rfl) hP hD hS
      clear ej72
      refine lv_if_eq (pc := 64) (tgt := 71) hx hb dX4_goToward_64 (by decide) (fun c_64 => ?_) (fun c_64 => ?_)
      · replace hf := it_t c_64 hf
        refine lv_iconst (pc := 71) (v := 0) hx hb dX4_goToward_71 (by decide) ?_
        exact hj72 r_35 0 hf _ _ _ (lv_sub hl [2, 3, 1, 0] rfl) hP hD hS
      · replace hf := it_f c_64 hf
        refine lv_iconst (pc := 67) (v := 1) hx hb dX4_goToward_67 (by decide) ?_
        refine lv_goto (pc := 68) (tgt := 72) hx hb dX4_goToward_68 (by decide) ?_
        exact hj72 r_35 1 hf _ _ _ (lv_sub hl [2, 3, 1, 0] rfl) hP hD hS
  · replace hf := it_t c_17 hf
    cases hf
    rw [hQ]
    exact r_vret C hr hP hD hS dX4_goToward_20
def wX4_holderOf (E : EN) (h h_inn h_ways h_how h_passed h_dreamOf h_stateOf h_roomOf h_handOf h_awake h_thingIn h_full h_heardBy h_inn_house h_inn_thingIn h_inn_full h_inn_states h_inn_bed h_inn_dreamOf h_inn_listensIn : Nat) (v_setting : Int32) (v_been : Int32) (v_inn_minutes : Int32) (v_inn_things : Int32) (v_inn_dreams : Int32) (v_inn_sleepers : Int32) (v_inn_listeners : Int32) (v_handOf : Nat → Int32) : va_W := [(h, .inr (4, [.ref h_inn, .int v_setting, .int v_been, .ref h_ways, .ref h_how, .ref h_passed, .ref h_dreamOf, .ref h_stateOf, .ref h_roomOf, .ref h_handOf, .ref h_awake, .ref h_thingIn, .ref h_full, .ref h_heardBy])), (h_inn, .inr (2, [.ref h_inn_house, .int v_inn_minutes, .int v_inn_things, .ref h_inn_thingIn, .ref h_inn_full, .int v_inn_dreams, .ref h_inn_states, .int v_inn_sleepers, .ref h_inn_bed, .ref h_inn_dreamOf, .int v_inn_listeners, .ref h_inn_listensIn])), (h_handOf, aI E 3 v_handOf)]
def BX4_holderOf_2 (v_inn_sleepers : Int32) (v_handOf : Nat → Int32) (p0 : Int32) (rec2 : (Int32) → Option Int32) : (Int32) → Option Int32 := un1 fun (x2_2 : Int32) => if v_inn_sleepers ≤ x2_2 then (some (-2)) else (gd x2_2 3 (if (v_handOf x2_2.toNatClampNeg) = p0 then (some x2_2) else (rec2 (x2_2 + 1))))
def fX4_holderOf (N : Nat) (p0 : Int32) (v_inn_sleepers : Int32) (v_handOf : Nat → Int32) : Option Int32 := lp (BX4_holderOf_2 v_inn_sleepers v_handOf p0) N 0
set_option maxHeartbeats 4000000 in
set_option maxRecDepth 100000 in
theorem ctX4_holderOf (l : Launch) (E : EN) (h h_inn h_ways h_how h_passed h_dreamOf h_stateOf h_roomOf h_handOf h_awake h_thingIn h_full h_heardBy h_inn_house h_inn_thingIn h_inn_full h_inn_states h_inn_bed h_inn_dreamOf h_inn_listensIn : Nat) (v_setting : Int32) (v_been : Int32) (v_inn_minutes : Int32) (v_inn_things : Int32) (v_inn_dreams : Int32) (v_inn_sleepers : Int32) (v_inn_listeners : Int32) (v_handOf : Nat → Int32) (N : Nat) (p0 : Int32) (z : Int32) (hf : fX4_holderOf N p0 v_inn_sleepers v_handOf = some z) : CTi l E yX4_holderOf cX4_holderOf 3 .int 0 0 [.ref h, .int p0] (wX4_holderOf E h h_inn h_ways h_how h_passed h_dreamOf h_stateOf h_roomOf h_handOf h_awake h_thingIn h_full h_heardBy h_inn_house h_inn_thingIn h_inn_full h_inn_states h_inn_bed h_inn_dreamOf h_inn_listensIn v_setting v_been v_inn_minutes v_inn_things v_inn_dreams v_inn_sleepers v_inn_listeners v_handOf) (z) (wX4_holderOf E h h_inn h_ways h_how h_passed h_dreamOf h_stateOf h_roomOf h_handOf h_awake h_thingIn h_full h_heardBy h_inn_house h_inn_thingIn h_inn_full h_inn_states h_inn_bed h_inn_dreamOf h_inn_listensIn v_setting v_been v_inn_minutes v_inn_things v_inn_dreams v_inn_sleepers v_inn_listeners v_handOf) := by
  intro sz
  refine ct_body (by decide) (Nat.le_of_ble_eq_true rfl) ?_
  intro p e s m args below meth c A ls hAe C hr hin hP hD hS hl
  have C : CX p s m args meth c cX4_holderOf RX4 3 E A := C
  have hl : lv_has ls 3 [(0, .ref h), (1, .int p0)] := hl
  have hx := C.1
  have hb := C.2.1
  rw [hAe]
  clear hAe
  obtain ⟨Q, hQ⟩ : ∃ Q, Q = MQ below (Qi E A (z) (wX4_holderOf E h h_inn h_ways h_how h_passed h_dreamOf h_stateOf h_roomOf h_handOf h_awake h_thingIn h_full h_heardBy h_inn_house h_inn_thingIn h_inn_full h_inn_states h_inn_bed h_inn_dreamOf h_inn_listensIn v_setting v_been v_inn_minutes v_inn_things v_inn_dreams v_inn_sleepers v_inn_listeners v_handOf)) args s 0 0 A := ⟨_, rfl⟩
  rw [← hQ]
  unfold fX4_holderOf at hf
  refine lv_iconst (pc := 0) (v := 0) hx hb dX4_holderOf_0 (by decide) ?_
  refine lv_istore_n (pc := 1) (lv' := [(2, .int 0), (0, .ref h), (1, .int p0)]) hx hb dX4_holderOf_1 rfl hl (by decide) rfl (fun ls hl => ?_)
  have key2 : ∀ (n : Nat) (x2_2 : Int32) , lp (BX4_holderOf_2 v_inn_sleepers v_handOf p0) n x2_2 = some z → AT p l e (rmOf 0 0) s m args below meth c E A Q 0 0 3 [(0, .ref h), (1, .int p0), (2, .int x2_2)] (wX4_holderOf E h h_inn h_ways h_how h_passed h_dreamOf h_stateOf h_roomOf h_handOf h_awake h_thingIn h_full h_heardBy h_inn_house h_inn_thingIn h_inn_full h_inn_states h_inn_bed h_inn_dreamOf h_inn_listensIn v_setting v_been v_inn_minutes v_inn_things v_inn_dreams v_inn_sleepers v_inn_listeners v_handOf) 2 [] := by
    intro n
    induction n with
    | zero => intro x2_2 hf; exact (lp_0 hf).elim
    | succ n ih2 =>
      intro x2_2 hf H locs ls hl hP hD hS
      replace hf := lp_s hf
      generalize lp (BX4_holderOf_2 v_inn_sleepers v_handOf p0) n = rec2 at ih2 hf
      unfold BX4_holderOf_2 at hf
      replace hf := un1_s hf
      refine lv_iload_n (pc := 2) hx hb dX4_holderOf_2 rfl (lv_at hl 2 rfl) ?_
      refine lv_aload_n (pc := 3) hx hb dX4_holderOf_3 rfl (lv_at hl 0 rfl) ?_
      refine r_get (pc := 4) C hP 0 rfl fl_X4_51 rfl dX4_holderOf_4 ?_
      refine r_get (pc := 7) C hP 1 rfl fl_X4_85 rfl dX4_holderOf_7 ?_
      refine lv_icmp_ge (pc := 10) (tgt := 31) hx hb dX4_holderOf_10 (by decide) (fun c_10 => ?_) (fun c_10 => ?_)
      · replace hf := it_t c_10 hf
        refine lv_bipush (pc := 31) (v := (-2)) hx hb dX4_holderOf_31 (by decide) ?_
        cases hf
        rw [hQ]
        exact r_iret C hr hP hD hS rfl dX4_holderOf_33
      · replace hf := it_f c_10 hf
        refine lv_aload_n (pc := 13) hx hb dX4_holderOf_13 rfl (lv_at hl 0 rfl) ?_
        refine r_get (pc := 14) C hP 0 rfl fl_X4_34 rfl dX4_holderOf_14 ?_
        refine lv_iload_n (pc := 17) hx hb dX4_holderOf_17 rfl (lv_at hl 2 rfl) ?_
        obtain ⟨hi_18, hf⟩ := gd_s hf
        refine r_iald (pc := 18) C hP 2 rfl hi_18 dX4_holderOf_18 ?_
        refine lv_iload_n (pc := 19) hx hb dX4_holderOf_19 rfl (lv_at hl 1 rfl) ?_
        refine lv_icmp_ne (pc := 20) (tgt := 25) hx hb dX4_holderOf_20 (by decide) (fun c_20 => ?_) (fun c_20 => ?_)
        · replace hf := it_f c_20 hf
          refine lv_iinc (pc := 25) (v := x2_2 + 1) (lv' := [(2, .int (x2_2 + 1)), (0, .ref h), (1, .int p0)]) hx hb dX4_holderOf_25 hl (k := 2) rfl rfl (by decide) rfl (fun ls hl => ?_)
          refine lv_goto (pc := 28) (tgt := 2) hx hb dX4_holderOf_28 (by decide) ?_
          exact ih2 (x2_2 + 1) hf _ _ _ (lv_sub hl [1, 2, 0] rfl) hP hD hS
        · replace hf := it_t c_20 hf
          refine lv_iload_n (pc := 23) hx hb dX4_holderOf_23 rfl (lv_at hl 2 rfl) ?_
          cases hf
          rw [hQ]
          exact r_iret C hr hP hD hS rfl dX4_holderOf_24
  exact key2 _ 0 hf _ _ _ (lv_sub hl [1, 2, 0] rfl) hP hD hS
def wX4_takes (E : EN) (h h_inn h_ways h_how h_passed h_dreamOf h_stateOf h_roomOf h_handOf h_awake h_thingIn h_full h_heardBy h_inn_house h_inn_thingIn h_inn_full h_inn_states h_inn_bed h_inn_dreamOf h_inn_listensIn : Nat) (v_setting : Int32) (v_been : Int32) (v_thingIn : Nat → Int32) (v_roomOf : Nat → Int32) (v_handOf : Nat → Int32) (v_inn_minutes : Int32) (v_inn_things : Int32) (v_inn_dreams : Int32) (v_inn_sleepers : Int32) (v_inn_listeners : Int32) : va_W := [(h, .inr (4, [.ref h_inn, .int v_setting, .int v_been, .ref h_ways, .ref h_how, .ref h_passed, .ref h_dreamOf, .ref h_stateOf, .ref h_roomOf, .ref h_handOf, .ref h_awake, .ref h_thingIn, .ref h_full, .ref h_heardBy])), (h_thingIn, aI E 4 v_thingIn), (h_roomOf, aI E 3 v_roomOf), (h_handOf, aI E 3 v_handOf), (h_inn, .inr (2, [.ref h_inn_house, .int v_inn_minutes, .int v_inn_things, .ref h_inn_thingIn, .ref h_inn_full, .int v_inn_dreams, .ref h_inn_states, .int v_inn_sleepers, .ref h_inn_bed, .ref h_inn_dreamOf, .int v_inn_listeners, .ref h_inn_listensIn]))]
def fX4_takes (N : Nat) (p0 : Int32) (p1 : Int32) (v_thingIn : Nat → Int32) (v_roomOf : Nat → Int32) (v_handOf : Nat → Int32) (v_inn_sleepers : Int32) : Option (Int32 × (Nat → Int32)) := gd p1 4 (gd p0 3 (if (v_thingIn p1.toNatClampNeg) = (v_roomOf p0.toNatClampNeg) then (gd p0 3 (if (v_handOf p0.toNatClampNeg) = (-2) then ((fX4_holderOf N p1 v_inn_sleepers v_handOf).bind (un1 fun (r_28 : Int32) => if r_28 = (-2) then (gd p0 3 (some (1, upd v_handOf p0.toNatClampNeg p1))) else (some (0, v_handOf)))) else (some (0, v_handOf)))) else (some (0, v_handOf))))
set_option maxHeartbeats 4000000 in
set_option maxRecDepth 100000 in
theorem ctX4_takes (l : Launch) (E : EN) (h h_inn h_ways h_how h_passed h_dreamOf h_stateOf h_roomOf h_handOf h_awake h_thingIn h_full h_heardBy h_inn_house h_inn_thingIn h_inn_full h_inn_states h_inn_bed h_inn_dreamOf h_inn_listensIn : Nat) (v_setting : Int32) (v_been : Int32) (v_thingIn : Nat → Int32) (v_roomOf : Nat → Int32) (v_handOf : Nat → Int32) (v_inn_minutes : Int32) (v_inn_things : Int32) (v_inn_dreams : Int32) (v_inn_sleepers : Int32) (v_inn_listeners : Int32) (N : Nat) (p0 : Int32) (p1 : Int32) (z : Int32 × (Nat → Int32)) (hf : fX4_takes N p0 p1 v_thingIn v_roomOf v_handOf v_inn_sleepers = some z) : CTi l E yX4_takes cX4_takes 3 .boolean 1 22 [.ref h, .int p0, .int p1] (wX4_takes E h h_inn h_ways h_how h_passed h_dreamOf h_stateOf h_roomOf h_handOf h_awake h_thingIn h_full h_heardBy h_inn_house h_inn_thingIn h_inn_full h_inn_states h_inn_bed h_inn_dreamOf h_inn_listensIn v_setting v_been v_thingIn v_roomOf v_handOf v_inn_minutes v_inn_things v_inn_dreams v_inn_sleepers v_inn_listeners) (z.1) (wX4_takes E h h_inn h_ways h_how h_passed h_dreamOf h_stateOf h_roomOf h_handOf h_awake h_thingIn h_full h_heardBy h_inn_house h_inn_thingIn h_inn_full h_inn_states h_inn_bed h_inn_dreamOf h_inn_listensIn v_setting v_been v_thingIn v_roomOf z.2 v_inn_minutes v_inn_things v_inn_dreams v_inn_sleepers v_inn_listeners) := by
  intro sz
  refine ct_body (by decide) (Nat.le_of_ble_eq_true rfl) ?_
  intro p e s m args below meth c A ls hAe C hr hin hP hD hS hl
  have C : CX p s m args meth c cX4_takes RX4 3 E A := C
  have hl : lv_has ls 3 [(0, .ref h), (1, .int p0), (2, .int p1)] := hl
  have hx := C.1
  have hb := C.2.1
  rw [hAe]
  clear hAe
  obtain ⟨Q, hQ⟩ : ∃ Q, Q = MQ below (Qi E A (z.1) (wX4_takes E h h_inn h_ways h_how h_passed h_dreamOf h_stateOf h_roomOf h_handOf h_awake h_thingIn h_full h_heardBy h_inn_house h_inn_thingIn h_inn_full h_inn_states h_inn_bed h_inn_dreamOf h_inn_listensIn v_setting v_been v_thingIn v_roomOf z.2 v_inn_minutes v_inn_things v_inn_dreams v_inn_sleepers v_inn_listeners)) args s 0 0 A := ⟨_, rfl⟩
  rw [← hQ]
  unfold fX4_takes at hf
  refine lv_aload_n (pc := 0) hx hb dX4_takes_0 rfl (lv_at hl 0 rfl) ?_
  refine r_get (pc := 1) C hP 0 rfl fl_X4_41 rfl dX4_takes_1 ?_
  refine lv_iload_n (pc := 4) hx hb dX4_takes_4 rfl (lv_at hl 2 rfl) ?_
  obtain ⟨hi_5, hf⟩ := gd_s hf
  refine r_iald (pc := 5) C hP 1 rfl hi_5 dX4_takes_5 ?_
  refine lv_aload_n (pc := 6) hx hb dX4_takes_6 rfl (lv_at hl 0 rfl) ?_
  refine r_get (pc := 7) C hP 0 rfl fl_X4_31 rfl dX4_takes_7 ?_
  refine lv_iload_n (pc := 10) hx hb dX4_takes_10 rfl (lv_at hl 1 rfl) ?_
  obtain ⟨hi_11, hf⟩ := gd_s hf
  refine r_iald (pc := 11) C hP 2 rfl hi_11 dX4_takes_11 ?_
  refine lv_icmp_ne (pc := 12) (tgt := 36) hx hb dX4_takes_12 (by decide) (fun c_12 => ?_) (fun c_12 => ?_)
  · replace hf := it_f c_12 hf
    refine lv_iconst (pc := 36) (v := 0) hx hb dX4_takes_36 (by decide) ?_
    cases hf
    rw [hQ]
    exact r_zret C hr hP hD hS (Or.inl rfl) rfl dX4_takes_37
  · replace hf := it_t c_12 hf
    refine lv_aload_n (pc := 15) hx hb dX4_takes_15 rfl (lv_at hl 0 rfl) ?_
    refine r_get (pc := 16) C hP 0 rfl fl_X4_34 rfl dX4_takes_16 ?_
    refine lv_iload_n (pc := 19) hx hb dX4_takes_19 rfl (lv_at hl 1 rfl) ?_
    obtain ⟨hi_20, hf⟩ := gd_s hf
    refine r_iald (pc := 20) C hP 3 rfl hi_20 dX4_takes_20 ?_
    refine lv_bipush (pc := 21) (v := (-2)) hx hb dX4_takes_21 (by decide) ?_
    refine lv_icmp_ne (pc := 23) (tgt := 36) hx hb dX4_takes_23 (by decide) (fun c_23 => ?_) (fun c_23 => ?_)
    · replace hf := it_f c_23 hf
      refine lv_iconst (pc := 36) (v := 0) hx hb dX4_takes_36 (by decide) ?_
      cases hf
      rw [hQ]
      exact r_zret C hr hP hD hS (Or.inl rfl) rfl dX4_takes_37
    · replace hf := it_t c_23 hf
      refine lv_aload_n (pc := 26) hx hb dX4_takes_26 rfl (lv_at hl 0 rfl) ?_
      refine lv_iload_n (pc := 27) hx hb dX4_takes_27 rfl (lv_at hl 2 rfl) ?_
      obtain ⟨r_28, hc_28, hf⟩ := bd1 hf
      refine r_dalVi (pc := 28) (ws' := (wX4_takes E h h_inn h_ways h_how h_passed h_dreamOf h_stateOf h_roomOf h_handOf h_awake h_thingIn h_full h_heardBy h_inn_house h_inn_thingIn h_inn_full h_inn_states h_inn_bed h_inn_dreamOf h_inn_listensIn v_setting v_been v_thingIn v_roomOf v_handOf v_inn_minutes v_inn_things v_inn_dreams v_inn_sleepers v_inn_listeners)) (As := [.int p1]) (rest := []) C (ctX4_holderOf l E h h_inn h_ways h_how h_passed h_dreamOf h_stateOf h_roomOf h_handOf h_awake h_thingIn h_full h_heardBy h_inn_house h_inn_thingIn h_inn_full h_inn_states h_inn_bed h_inn_dreamOf h_inn_listensIn v_setting v_been v_inn_minutes v_inn_things v_inn_dreams v_inn_sleepers v_inn_listeners v_handOf N p1 r_28 hc_28) ml_X4_176 ⟨Nat.le_of_ble_eq_true rfl, Nat.le_of_ble_eq_true rfl⟩ hP hD hS 0 rfl rfl rfl [0, 4, 3] [5, 1, 2, 7, 6] 5 rfl rfl rfl rfl rfl rfl rfl hl.1 rfl (Nat.le_of_ble_eq_true rfl) ⟨Nat.zero_le _, Nat.zero_le _⟩ dX4_takes_28 ?_
      clear hP hD hS; intro H locs hP hD hS
      refine lv_bipush (pc := 31) (v := (-2)) hx hb dX4_takes_31 (by decide) ?_
      refine lv_icmp_eq (pc := 33) (tgt := 38) hx hb dX4_takes_33 (by decide) (fun c_33 => ?_) (fun c_33 => ?_)
      · replace hf := it_t c_33 hf
        refine lv_aload_n (pc := 38) hx hb dX4_takes_38 rfl (lv_at hl 0 rfl) ?_
        refine r_get (pc := 39) C hP 0 rfl fl_X4_34 rfl dX4_takes_39 ?_
        refine lv_iload_n (pc := 42) hx hb dX4_takes_42 rfl (lv_at hl 1 rfl) ?_
        refine lv_iload_n (pc := 43) hx hb dX4_takes_43 rfl (lv_at hl 2 rfl) ?_
        obtain ⟨hi_44, hf⟩ := gd_s hf
        refine r_iast (pc := 44) (ws' := (wX4_takes E h h_inn h_ways h_how h_passed h_dreamOf h_stateOf h_roomOf h_handOf h_awake h_thingIn h_full h_heardBy h_inn_house h_inn_thingIn h_inn_full h_inn_states h_inn_bed h_inn_dreamOf h_inn_listensIn v_setting v_been v_thingIn v_roomOf (upd v_handOf p0.toNatClampNeg p1) v_inn_minutes v_inn_things v_inn_dreams v_inn_sleepers v_inn_listeners)) C hP hD hS 3 rfl hi_44 rfl dX4_takes_44 ?_
        clear hP hD hS; intro H locs hP hD hS
        refine lv_iconst (pc := 45) (v := 1) hx hb dX4_takes_45 (by decide) ?_
        cases hf
        rw [hQ]
        exact r_zret C hr hP hD hS (Or.inr rfl) rfl dX4_takes_46
      · replace hf := it_f c_33 hf
        refine lv_iconst (pc := 36) (v := 0) hx hb dX4_takes_36 (by decide) ?_
        cases hf
        rw [hQ]
        exact r_zret C hr hP hD hS (Or.inl rfl) rfl dX4_takes_37
def wX4_puts (E : EN) (h h_ways h_how h_passed h_dreamOf h_stateOf h_roomOf h_handOf h_awake h_thingIn h_full h_heardBy : Nat) (v_inn : Option Nat) (v_setting : Int32) (v_been : Int32) (v_handOf : Nat → Int32) : va_W := [(h, .inr (4, [va_rf v_inn, .int v_setting, .int v_been, .ref h_ways, .ref h_how, .ref h_passed, .ref h_dreamOf, .ref h_stateOf, .ref h_roomOf, .ref h_handOf, .ref h_awake, .ref h_thingIn, .ref h_full, .ref h_heardBy])), (h_handOf, aI E 3 v_handOf)]
def fX4_puts (N : Nat) (p0 : Int32) (v_handOf : Nat → Int32) : Option (Int32 × (Nat → Int32)) := gd p0 3 (jn (un1 fun (x16_s0 : Int32) => gd p0 3 (zg x16_s0 (some (x16_s0, upd v_handOf p0.toNatClampNeg (-2))))) (fun j16 => if (v_handOf p0.toNatClampNeg) = (-2) then (j16 0) else (j16 1)))
set_option maxHeartbeats 4000000 in
set_option maxRecDepth 100000 in
theorem ctX4_puts (l : Launch) (E : EN) (h h_ways h_how h_passed h_dreamOf h_stateOf h_roomOf h_handOf h_awake h_thingIn h_full h_heardBy : Nat) (v_inn : Option Nat) (v_setting : Int32) (v_been : Int32) (v_handOf : Nat → Int32) (N : Nat) (p0 : Int32) (z : Int32 × (Nat → Int32)) (hf : fX4_puts N p0 v_handOf = some z) : CTi l E yX4_puts cX4_puts 3 .boolean 0 0 [.ref h, .int p0] (wX4_puts E h h_ways h_how h_passed h_dreamOf h_stateOf h_roomOf h_handOf h_awake h_thingIn h_full h_heardBy v_inn v_setting v_been v_handOf) (z.1) (wX4_puts E h h_ways h_how h_passed h_dreamOf h_stateOf h_roomOf h_handOf h_awake h_thingIn h_full h_heardBy v_inn v_setting v_been z.2) := by
  intro sz
  refine ct_body (by decide) (Nat.le_of_ble_eq_true rfl) ?_
  intro p e s m args below meth c A ls hAe C hr hin hP hD hS hl
  have C : CX p s m args meth c cX4_puts RX4 3 E A := C
  have hl : lv_has ls 3 [(0, .ref h), (1, .int p0)] := hl
  have hx := C.1
  have hb := C.2.1
  rw [hAe]
  clear hAe
  obtain ⟨Q, hQ⟩ : ∃ Q, Q = MQ below (Qi E A (z.1) (wX4_puts E h h_ways h_how h_passed h_dreamOf h_stateOf h_roomOf h_handOf h_awake h_thingIn h_full h_heardBy v_inn v_setting v_been z.2)) args s 0 0 A := ⟨_, rfl⟩
  rw [← hQ]
  unfold fX4_puts at hf
  refine lv_aload_n (pc := 0) hx hb dX4_puts_0 rfl (lv_at hl 0 rfl) ?_
  refine r_get (pc := 1) C hP 0 rfl fl_X4_34 rfl dX4_puts_1 ?_
  refine lv_iload_n (pc := 4) hx hb dX4_puts_4 rfl (lv_at hl 1 rfl) ?_
  obtain ⟨hi_5, hf⟩ := gd_s hf
  refine r_iald (pc := 5) C hP 1 rfl hi_5 dX4_puts_5 ?_
  refine lv_bipush (pc := 6) (v := (-2)) hx hb dX4_puts_6 (by decide) ?_
  refine jnK hf (fun j16 ej16 hf => ?_)
  have hj16 : ∀ (x16_s0 : Int32) , j16 x16_s0 = some z → AT p l e (rmOf 0 0) s m args below meth c E A Q 0 0 3 [(0, .ref h), (1, .int p0)] (wX4_puts E h h_ways h_how h_passed h_dreamOf h_stateOf h_roomOf h_handOf h_awake h_thingIn h_full h_heardBy v_inn v_setting v_been v_handOf) 16 [.int x16_s0] := by
    intro x16_s0 hf H locs ls hl hP hD hS
    rw [ej16] at hf
    replace hf := un1_s hf
    refine lv_istore_n (pc := 16) (lv' := [(2, .int x16_s0), (0, .ref h), (1, .int p0)]) hx hb dX4_puts_16 rfl hl (by decide) rfl (fun ls hl => ?_)
    refine lv_aload_n (pc := 17) hx hb dX4_puts_17 rfl (lv_at hl 1 rfl) ?_
    refine r_get (pc := 18) C hP 0 rfl fl_X4_34 rfl dX4_puts_18 ?_
    refine lv_iload_n (pc := 21) hx hb dX4_puts_21 rfl (lv_at hl 2 rfl) ?_
    refine lv_bipush (pc := 22) (v := (-2)) hx hb dX4_puts_22 (by decide) ?_
    obtain ⟨hi_24, hf⟩ := gd_s hf
    refine r_iast (pc := 24) (ws' := (wX4_puts E h h_ways h_how h_passed h_dreamOf h_stateOf h_roomOf h_handOf h_awake h_thingIn h_full h_heardBy v_inn v_setting v_been (upd v_handOf p0.toNatClampNeg (-2)))) C hP hD hS 1 rfl hi_24 rfl dX4_puts_24 ?_
    clear hP hD hS; intro H locs hP hD hS
    refine lv_iload_n (pc := 25) hx hb dX4_puts_25 rfl (lv_at hl 0 rfl) ?_
    obtain ⟨hz_26, hf⟩ := zg_s hf
    cases hf
    rw [hQ]
    exact r_zret C hr hP hD hS hz_26 rfl dX4_puts_26
  clear ej16
  refine lv_icmp_eq (pc := 8) (tgt := 15) hx hb dX4_puts_8 (by decide) (fun c_8 => ?_) (fun c_8 => ?_)
  · replace hf := it_t c_8 hf
    refine lv_iconst (pc := 15) (v := 0) hx hb dX4_puts_15 (by decide) ?_
    exact hj16 0 hf _ _ _ (lv_sub hl [0, 1] rfl) hP hD hS
  · replace hf := it_f c_8 hf
    refine lv_iconst (pc := 11) (v := 1) hx hb dX4_puts_11 (by decide) ?_
    refine lv_goto (pc := 12) (tgt := 16) hx hb dX4_puts_12 (by decide) ?_
    exact hj16 1 hf _ _ _ (lv_sub hl [0, 1] rfl) hP hD hS
def wX4_tips (E : EN) (h h_ways h_how h_passed h_dreamOf h_stateOf h_roomOf h_handOf h_awake h_thingIn h_full h_heardBy : Nat) (v_inn : Option Nat) (v_setting : Int32) (v_been : Int32) (v_thingIn : Nat → Int32) (v_roomOf : Nat → Int32) (v_full : Nat → Int32) : va_W := [(h, .inr (4, [va_rf v_inn, .int v_setting, .int v_been, .ref h_ways, .ref h_how, .ref h_passed, .ref h_dreamOf, .ref h_stateOf, .ref h_roomOf, .ref h_handOf, .ref h_awake, .ref h_thingIn, .ref h_full, .ref h_heardBy])), (h_thingIn, aI E 4 v_thingIn), (h_roomOf, aI E 3 v_roomOf), (h_full, aZ E 4 v_full)]
def fX4_tips (N : Nat) (p0 : Int32) (p1 : Int32) (v_thingIn : Nat → Int32) (v_roomOf : Nat → Int32) (v_full : Nat → Int32) : Option (Int32 × (Nat → Int32)) := gd p1 4 (gd p0 3 (if (v_thingIn p1.toNatClampNeg) = (v_roomOf p0.toNatClampNeg) then (gd p1 4 (if (v_full p1.toNatClampNeg) = 0 then (some (0, v_full)) else (gd p1 4 (some (1, upd v_full p1.toNatClampNeg 0))))) else (some (0, v_full))))
set_option maxHeartbeats 4000000 in
set_option maxRecDepth 100000 in
theorem ctX4_tips (l : Launch) (E : EN) (h h_ways h_how h_passed h_dreamOf h_stateOf h_roomOf h_handOf h_awake h_thingIn h_full h_heardBy : Nat) (v_inn : Option Nat) (v_setting : Int32) (v_been : Int32) (v_thingIn : Nat → Int32) (v_roomOf : Nat → Int32) (v_full : Nat → Int32) (N : Nat) (p0 : Int32) (p1 : Int32) (z : Int32 × (Nat → Int32)) (hf : fX4_tips N p0 p1 v_thingIn v_roomOf v_full = some z) : CTi l E yX4_tips cX4_tips 3 .boolean 0 0 [.ref h, .int p0, .int p1] (wX4_tips E h h_ways h_how h_passed h_dreamOf h_stateOf h_roomOf h_handOf h_awake h_thingIn h_full h_heardBy v_inn v_setting v_been v_thingIn v_roomOf v_full) (z.1) (wX4_tips E h h_ways h_how h_passed h_dreamOf h_stateOf h_roomOf h_handOf h_awake h_thingIn h_full h_heardBy v_inn v_setting v_been v_thingIn v_roomOf z.2) := by
  intro sz
  refine ct_body (by decide) (Nat.le_of_ble_eq_true rfl) ?_
  intro p e s m args below meth c A ls hAe C hr hin hP hD hS hl
  have C : CX p s m args meth c cX4_tips RX4 3 E A := C
  have hl : lv_has ls 3 [(0, .ref h), (1, .int p0), (2, .int p1)] := hl
  have hx := C.1
  have hb := C.2.1
  rw [hAe]
  clear hAe
  obtain ⟨Q, hQ⟩ : ∃ Q, Q = MQ below (Qi E A (z.1) (wX4_tips E h h_ways h_how h_passed h_dreamOf h_stateOf h_roomOf h_handOf h_awake h_thingIn h_full h_heardBy v_inn v_setting v_been v_thingIn v_roomOf z.2)) args s 0 0 A := ⟨_, rfl⟩
  rw [← hQ]
  unfold fX4_tips at hf
  refine lv_aload_n (pc := 0) hx hb dX4_tips_0 rfl (lv_at hl 0 rfl) ?_
  refine r_get (pc := 1) C hP 0 rfl fl_X4_41 rfl dX4_tips_1 ?_
  refine lv_iload_n (pc := 4) hx hb dX4_tips_4 rfl (lv_at hl 2 rfl) ?_
  obtain ⟨hi_5, hf⟩ := gd_s hf
  refine r_iald (pc := 5) C hP 1 rfl hi_5 dX4_tips_5 ?_
  refine lv_aload_n (pc := 6) hx hb dX4_tips_6 rfl (lv_at hl 0 rfl) ?_
  refine r_get (pc := 7) C hP 0 rfl fl_X4_31 rfl dX4_tips_7 ?_
  refine lv_iload_n (pc := 10) hx hb dX4_tips_10 rfl (lv_at hl 1 rfl) ?_
  obtain ⟨hi_11, hf⟩ := gd_s hf
  refine r_iald (pc := 11) C hP 2 rfl hi_11 dX4_tips_11 ?_
  refine lv_icmp_ne (pc := 12) (tgt := 24) hx hb dX4_tips_12 (by decide) (fun c_12 => ?_) (fun c_12 => ?_)
  · replace hf := it_f c_12 hf
    refine lv_iconst (pc := 24) (v := 0) hx hb dX4_tips_24 (by decide) ?_
    cases hf
    rw [hQ]
    exact r_zret C hr hP hD hS (Or.inl rfl) rfl dX4_tips_25
  · replace hf := it_t c_12 hf
    refine lv_aload_n (pc := 15) hx hb dX4_tips_15 rfl (lv_at hl 0 rfl) ?_
    refine r_get (pc := 16) C hP 0 rfl fl_X4_44 rfl dX4_tips_16 ?_
    refine lv_iload_n (pc := 19) hx hb dX4_tips_19 rfl (lv_at hl 2 rfl) ?_
    obtain ⟨hi_20, hf⟩ := gd_s hf
    refine r_zald (pc := 20) C hP 3 rfl hi_20 dX4_tips_20 ?_
    refine lv_if_ne (pc := 21) (tgt := 26) hx hb dX4_tips_21 (by decide) (fun c_21 => ?_) (fun c_21 => ?_)
    · replace hf := it_f c_21 hf
      refine lv_aload_n (pc := 26) hx hb dX4_tips_26 rfl (lv_at hl 0 rfl) ?_
      refine r_get (pc := 27) C hP 0 rfl fl_X4_44 rfl dX4_tips_27 ?_
      refine lv_iload_n (pc := 30) hx hb dX4_tips_30 rfl (lv_at hl 2 rfl) ?_
      refine lv_iconst (pc := 31) (v := 0) hx hb dX4_tips_31 (by decide) ?_
      obtain ⟨hi_32, hf⟩ := gd_s hf
      refine r_zast (pc := 32) (ws' := (wX4_tips E h h_ways h_how h_passed h_dreamOf h_stateOf h_roomOf h_handOf h_awake h_thingIn h_full h_heardBy v_inn v_setting v_been v_thingIn v_roomOf (upd v_full p1.toNatClampNeg 0))) C hP hD hS 3 rfl hi_32 (Or.inl rfl) rfl dX4_tips_32 ?_
      clear hP hD hS; intro H locs hP hD hS
      refine lv_iconst (pc := 33) (v := 1) hx hb dX4_tips_33 (by decide) ?_
      cases hf
      rw [hQ]
      exact r_zret C hr hP hD hS (Or.inr rfl) rfl dX4_tips_34
    · replace hf := it_t c_21 hf
      refine lv_iconst (pc := 24) (v := 0) hx hb dX4_tips_24 (by decide) ?_
      cases hf
      rw [hQ]
      exact r_zret C hr hP hD hS (Or.inl rfl) rfl dX4_tips_25
def wX4_shuts (E : EN) (h h_inn h_ways h_how h_passed h_dreamOf h_stateOf h_roomOf h_handOf h_awake h_thingIn h_full h_heardBy h_inn_house h_inn_thingIn h_inn_full h_inn_states h_inn_bed h_inn_dreamOf h_inn_listensIn h_inn_house_creak h_inn_house_cold h_inn_house_one h_inn_house_other h_inn_house_how h_inn_house_falls h_inn_house_ways : Nat) (v_setting : Int32) (v_been : Int32) (v_inn_minutes : Int32) (v_inn_things : Int32) (v_inn_dreams : Int32) (v_inn_sleepers : Int32) (v_inn_listeners : Int32) (v_roomOf : Nat → Int32) (v_inn_house_rooms : Int32) (v_inn_house_doors : Int32) (v_inn_house_one : Nat → Int32) (v_inn_house_other : Nat → Int32) (v_how : Nat → Int32) : va_W := [(h, .inr (4, [.ref h_inn, .int v_setting, .int v_been, .ref h_ways, .ref h_how, .ref h_passed, .ref h_dreamOf, .ref h_stateOf, .ref h_roomOf, .ref h_handOf, .ref h_awake, .ref h_thingIn, .ref h_full, .ref h_heardBy])), (h_inn, .inr (2, [.ref h_inn_house, .int v_inn_minutes, .int v_inn_things, .ref h_inn_thingIn, .ref h_inn_full, .int v_inn_dreams, .ref h_inn_states, .int v_inn_sleepers, .ref h_inn_bed, .ref h_inn_dreamOf, .int v_inn_listeners, .ref h_inn_listensIn])), (h_roomOf, aI E 3 v_roomOf), (h_inn_house, .inr (1, [.int v_inn_house_rooms, .ref h_inn_house_creak, .ref h_inn_house_cold, .int v_inn_house_doors, .ref h_inn_house_one, .ref h_inn_house_other, .ref h_inn_house_how, .ref h_inn_house_falls, .ref h_inn_house_ways])), (h_inn_house_one, aI E 10 v_inn_house_one), (h_inn_house_other, aI E 10 v_inn_house_other), (h_how, aI E 10 v_how)]
def fX4_shuts (N : Nat) (p0 : Int32) (p1 : Int32) (v_roomOf : Nat → Int32) (v_inn_house_doors : Int32) (v_inn_house_one : Nat → Int32) (v_inn_house_other : Nat → Int32) (v_how : Nat → Int32) : Option (Int32 × (Nat → Int32)) := gd p0 3 ((fX1_doorBetween N (v_roomOf p0.toNatClampNeg) p1 v_inn_house_doors v_inn_house_one v_inn_house_other).bind (un1 fun (r_14 : Int32) => if r_14 < 0 then (some (0, v_how)) else (gd r_14 10 (if (v_how r_14.toNatClampNeg) = 0 then (gd r_14 10 (some (1, upd v_how r_14.toNatClampNeg 1))) else (some (0, v_how))))))
set_option maxHeartbeats 4000000 in
set_option maxRecDepth 100000 in
theorem ctX4_shuts (l : Launch) (E : EN) (h h_inn h_ways h_how h_passed h_dreamOf h_stateOf h_roomOf h_handOf h_awake h_thingIn h_full h_heardBy h_inn_house h_inn_thingIn h_inn_full h_inn_states h_inn_bed h_inn_dreamOf h_inn_listensIn h_inn_house_creak h_inn_house_cold h_inn_house_one h_inn_house_other h_inn_house_how h_inn_house_falls h_inn_house_ways : Nat) (v_setting : Int32) (v_been : Int32) (v_inn_minutes : Int32) (v_inn_things : Int32) (v_inn_dreams : Int32) (v_inn_sleepers : Int32) (v_inn_listeners : Int32) (v_roomOf : Nat → Int32) (v_inn_house_rooms : Int32) (v_inn_house_doors : Int32) (v_inn_house_one : Nat → Int32) (v_inn_house_other : Nat → Int32) (v_how : Nat → Int32) (N : Nat) (p0 : Int32) (p1 : Int32) (z : Int32 × (Nat → Int32)) (hf : fX4_shuts N p0 p1 v_roomOf v_inn_house_doors v_inn_house_one v_inn_house_other v_how = some z) : CTi l E yX4_shuts cX4_shuts 4 .boolean 1 23 [.ref h, .int p0, .int p1] (wX4_shuts E h h_inn h_ways h_how h_passed h_dreamOf h_stateOf h_roomOf h_handOf h_awake h_thingIn h_full h_heardBy h_inn_house h_inn_thingIn h_inn_full h_inn_states h_inn_bed h_inn_dreamOf h_inn_listensIn h_inn_house_creak h_inn_house_cold h_inn_house_one h_inn_house_other h_inn_house_how h_inn_house_falls h_inn_house_ways v_setting v_been v_inn_minutes v_inn_things v_inn_dreams v_inn_sleepers v_inn_listeners v_roomOf v_inn_house_rooms v_inn_house_doors v_inn_house_one v_inn_house_other v_how) (z.1) (wX4_shuts E h h_inn h_ways h_how h_passed h_dreamOf h_stateOf h_roomOf h_handOf h_awake h_thingIn h_full h_heardBy h_inn_house h_inn_thingIn h_inn_full h_inn_states h_inn_bed h_inn_dreamOf h_inn_listensIn h_inn_house_creak h_inn_house_cold h_inn_house_one h_inn_house_other h_inn_house_how h_inn_house_falls h_inn_house_ways v_setting v_been v_inn_minutes v_inn_things v_inn_dreams v_inn_sleepers v_inn_listeners v_roomOf v_inn_house_rooms v_inn_house_doors v_inn_house_one v_inn_house_other z.2) := by
  intro sz
  refine ct_body (by decide) (Nat.le_of_ble_eq_true rfl) ?_
  intro p e s m args below meth c A ls hAe C hr hin hP hD hS hl
  have C : CX p s m args meth c cX4_shuts RX4 4 E A := C
  have hl : lv_has ls 4 [(0, .ref h), (1, .int p0), (2, .int p1)] := hl
  have hx := C.1
  have hb := C.2.1
  rw [hAe]
  clear hAe
  obtain ⟨Q, hQ⟩ : ∃ Q, Q = MQ below (Qi E A (z.1) (wX4_shuts E h h_inn h_ways h_how h_passed h_dreamOf h_stateOf h_roomOf h_handOf h_awake h_thingIn h_full h_heardBy h_inn_house h_inn_thingIn h_inn_full h_inn_states h_inn_bed h_inn_dreamOf h_inn_listensIn h_inn_house_creak h_inn_house_cold h_inn_house_one h_inn_house_other h_inn_house_how h_inn_house_falls h_inn_house_ways v_setting v_been v_inn_minutes v_inn_things v_inn_dreams v_inn_sleepers v_inn_listeners v_roomOf v_inn_house_rooms v_inn_house_doors v_inn_house_one v_inn_house_other z.2)) args s 0 0 A := ⟨_, rfl⟩
  rw [← hQ]
  unfold fX4_shuts at hf
  refine lv_aload_n (pc := 0) hx hb dX4_shuts_0 rfl (lv_at hl 0 rfl) ?_
  refine r_get (pc := 1) C hP 0 rfl fl_X4_51 rfl dX4_shuts_1 ?_
  refine r_get (pc := 4) C hP 1 rfl fl_X4_59 rfl dX4_shuts_4 ?_
  refine lv_aload_n (pc := 7) hx hb dX4_shuts_7 rfl (lv_at hl 0 rfl) ?_
  refine r_get (pc := 8) C hP 0 rfl fl_X4_31 rfl dX4_shuts_8 ?_
  refine lv_iload_n (pc := 11) hx hb dX4_shuts_11 rfl (lv_at hl 1 rfl) ?_
  obtain ⟨hi_12, hf⟩ := gd_s hf
  refine r_iald (pc := 12) C hP 2 rfl hi_12 dX4_shuts_12 ?_
  refine lv_iload_n (pc := 13) hx hb dX4_shuts_13 rfl (lv_at hl 2 rfl) ?_
  obtain ⟨r_14, hc_14, hf⟩ := bd1 hf
  refine r_dalVi (pc := 14) (ws' := (wX4_shuts E h h_inn h_ways h_how h_passed h_dreamOf h_stateOf h_roomOf h_handOf h_awake h_thingIn h_full h_heardBy h_inn_house h_inn_thingIn h_inn_full h_inn_states h_inn_bed h_inn_dreamOf h_inn_listensIn h_inn_house_creak h_inn_house_cold h_inn_house_one h_inn_house_other h_inn_house_how h_inn_house_falls h_inn_house_ways v_setting v_been v_inn_minutes v_inn_things v_inn_dreams v_inn_sleepers v_inn_listeners v_roomOf v_inn_house_rooms v_inn_house_doors v_inn_house_one v_inn_house_other v_how)) (As := [.int (v_roomOf p0.toNatClampNeg), .int p1]) (rest := []) C (ctX1_doorBetween l E h_inn_house h_inn_house_creak h_inn_house_cold h_inn_house_one h_inn_house_other h_inn_house_how h_inn_house_falls h_inn_house_ways v_inn_house_rooms v_inn_house_doors v_inn_house_one v_inn_house_other N (v_roomOf p0.toNatClampNeg) p1 r_14 hc_14) ml_X4_141 ⟨Nat.le_of_ble_eq_true rfl, Nat.le_of_ble_eq_true rfl⟩ hP hD hS 3 rfl rfl rfl [3, 4, 5] [0, 1, 2, 7, 8, 9, 6] 7 rfl rfl rfl rfl rfl rfl rfl hl.1 rfl (Nat.le_of_ble_eq_true rfl) ⟨Nat.zero_le _, Nat.zero_le _⟩ dX4_shuts_14 ?_
  clear hP hD hS; intro H locs hP hD hS
  refine lv_istore_n (pc := 17) (lv' := [(3, .int r_14), (0, .ref h), (1, .int p0), (2, .int p1)]) hx hb dX4_shuts_17 rfl hl (by decide) rfl (fun ls hl => ?_)
  refine lv_iload_n (pc := 18) hx hb dX4_shuts_18 rfl (lv_at hl 0 rfl) ?_
  refine lv_if_lt (pc := 19) (tgt := 31) hx hb dX4_shuts_19 (by decide) (fun c_19 => ?_) (fun c_19 => ?_)
  · replace hf := it_t c_19 hf
    refine lv_iconst (pc := 31) (v := 0) hx hb dX4_shuts_31 (by decide) ?_
    cases hf
    rw [hQ]
    exact r_zret C hr hP hD hS (Or.inl rfl) rfl dX4_shuts_32
  · replace hf := it_f c_19 hf
    refine lv_aload_n (pc := 22) hx hb dX4_shuts_22 rfl (lv_at hl 1 rfl) ?_
    refine r_get (pc := 23) C hP 0 rfl fl_X4_18 rfl dX4_shuts_23 ?_
    refine lv_iload_n (pc := 26) hx hb dX4_shuts_26 rfl (lv_at hl 0 rfl) ?_
    obtain ⟨hi_27, hf⟩ := gd_s hf
    refine r_iald (pc := 27) C hP 6 rfl hi_27 dX4_shuts_27 ?_
    refine lv_if_eq (pc := 28) (tgt := 33) hx hb dX4_shuts_28 (by decide) (fun c_28 => ?_) (fun c_28 => ?_)
    · replace hf := it_t c_28 hf
      refine lv_aload_n (pc := 33) hx hb dX4_shuts_33 rfl (lv_at hl 1 rfl) ?_
      refine r_get (pc := 34) C hP 0 rfl fl_X4_18 rfl dX4_shuts_34 ?_
      refine lv_iload_n (pc := 37) hx hb dX4_shuts_37 rfl (lv_at hl 0 rfl) ?_
      refine lv_iconst (pc := 38) (v := 1) hx hb dX4_shuts_38 (by decide) ?_
      obtain ⟨hi_39, hf⟩ := gd_s hf
      refine r_iast (pc := 39) (ws' := (wX4_shuts E h h_inn h_ways h_how h_passed h_dreamOf h_stateOf h_roomOf h_handOf h_awake h_thingIn h_full h_heardBy h_inn_house h_inn_thingIn h_inn_full h_inn_states h_inn_bed h_inn_dreamOf h_inn_listensIn h_inn_house_creak h_inn_house_cold h_inn_house_one h_inn_house_other h_inn_house_how h_inn_house_falls h_inn_house_ways v_setting v_been v_inn_minutes v_inn_things v_inn_dreams v_inn_sleepers v_inn_listeners v_roomOf v_inn_house_rooms v_inn_house_doors v_inn_house_one v_inn_house_other (upd v_how r_14.toNatClampNeg 1))) C hP hD hS 6 rfl hi_39 rfl dX4_shuts_39 ?_
      clear hP hD hS; intro H locs hP hD hS
      refine lv_iconst (pc := 40) (v := 1) hx hb dX4_shuts_40 (by decide) ?_
      cases hf
      rw [hQ]
      exact r_zret C hr hP hD hS (Or.inr rfl) rfl dX4_shuts_41
    · replace hf := it_f c_28 hf
      refine lv_iconst (pc := 31) (v := 0) hx hb dX4_shuts_31 (by decide) ?_
      cases hf
      rw [hQ]
      exact r_zret C hr hP hD hS (Or.inl rfl) rfl dX4_shuts_32
def wX4_follow (E : EN) (h h_inn h_ways h_how h_passed h_dreamOf h_stateOf h_roomOf h_handOf h_awake h_thingIn h_full h_heardBy h_inn_house h_inn_thingIn h_inn_full h_inn_states h_inn_bed h_inn_dreamOf h_inn_listensIn h_inn_house_creak h_inn_house_cold h_inn_house_one h_inn_house_other h_inn_house_how h_inn_house_falls h_inn_house_ways h_ways_steps h_inn_house_ways_steps : Nat) (v_setting : Int32) (v_been : Int32) (v_dreamOf : Nat → Int32) (v_stateOf : Nat → Int32) (v_inn_minutes : Int32) (v_inn_things : Int32) (v_inn_dreams : Int32) (v_inn_sleepers : Int32) (v_inn_listeners : Int32) (v_inn_states : Nat → Int32) (v_roomOf : Nat → Int32) (v_inn_house_rooms : Int32) (v_inn_house_doors : Int32) (v_inn_house_one : Nat → Int32) (v_inn_house_other : Nat → Int32) (v_how : Nat → Int32) (v_thingIn : Nat → Int32) (v_full : Nat → Int32) (v_handOf : Nat → Int32) (v_ways_rooms : Int32) (v_ways_steps : Nat → Int32) (v_inn_house_creak : Nat → Int32) (v_inn_listensIn : Nat → Int32) (v_inn_house_ways_rooms : Int32) (v_inn_house_ways_steps : Nat → Int32) (v_heardBy : Nat → Int64) (v_inn_house_cold : Nat → Int32) (v_awake : Nat → Int32) (v_inn_house_falls : Nat → Int32) (v_passed : Nat → Int32) : va_W := [(h, .inr (4, [.ref h_inn, .int v_setting, .int v_been, .ref h_ways, .ref h_how, .ref h_passed, .ref h_dreamOf, .ref h_stateOf, .ref h_roomOf, .ref h_handOf, .ref h_awake, .ref h_thingIn, .ref h_full, .ref h_heardBy])), (h_dreamOf, aI E 3 v_dreamOf), (h_stateOf, aI E 3 v_stateOf), (h_inn, .inr (2, [.ref h_inn_house, .int v_inn_minutes, .int v_inn_things, .ref h_inn_thingIn, .ref h_inn_full, .int v_inn_dreams, .ref h_inn_states, .int v_inn_sleepers, .ref h_inn_bed, .ref h_inn_dreamOf, .int v_inn_listeners, .ref h_inn_listensIn])), (h_inn_states, aI E 64 v_inn_states), (h_roomOf, aI E 3 v_roomOf), (h_inn_house, .inr (1, [.int v_inn_house_rooms, .ref h_inn_house_creak, .ref h_inn_house_cold, .int v_inn_house_doors, .ref h_inn_house_one, .ref h_inn_house_other, .ref h_inn_house_how, .ref h_inn_house_falls, .ref h_inn_house_ways])), (h_inn_house_one, aI E 10 v_inn_house_one), (h_inn_house_other, aI E 10 v_inn_house_other), (h_how, aI E 10 v_how), (h_thingIn, aI E 4 v_thingIn), (h_full, aZ E 4 v_full), (h_handOf, aI E 3 v_handOf), (h_ways, .inr (8, [.ref h_ways_steps, .int v_ways_rooms])), (h_ways_steps, aI E 64 v_ways_steps), (h_inn_house_creak, aI E 8 v_inn_house_creak), (h_inn_listensIn, aI E 3 v_inn_listensIn), (h_inn_house_ways, .inr (8, [.ref h_inn_house_ways_steps, .int v_inn_house_ways_rooms])), (h_inn_house_ways_steps, aI E 64 v_inn_house_ways_steps), (h_heardBy, aJ E 3 v_heardBy), (h_inn_house_cold, aZ E 8 v_inn_house_cold), (h_awake, aZ E 3 v_awake), (h_inn_house_falls, aZ E 10 v_inn_house_falls), (h_passed, aI E 10 v_passed)]
def fX4_follow (N : Nat) (p0 : Int32) (v_been : Int32) (v_dreamOf : Nat → Int32) (v_stateOf : Nat → Int32) (v_inn_sleepers : Int32) (v_inn_listeners : Int32) (v_inn_states : Nat → Int32) (v_roomOf : Nat → Int32) (v_inn_house_doors : Int32) (v_inn_house_one : Nat → Int32) (v_inn_house_other : Nat → Int32) (v_how : Nat → Int32) (v_thingIn : Nat → Int32) (v_full : Nat → Int32) (v_handOf : Nat → Int32) (v_ways_rooms : Int32) (v_ways_steps : Nat → Int32) (v_inn_house_creak : Nat → Int32) (v_inn_listensIn : Nat → Int32) (v_inn_house_ways_steps : Nat → Int32) (v_heardBy : Nat → Int64) (v_inn_house_cold : Nat → Int32) (v_awake : Nat → Int32) (v_inn_house_falls : Nat → Int32) (v_passed : Nat → Int32) : Option ((Nat → Int32) × (Nat → Int32) × (Nat → Int32) × (Nat → Int32) × (Nat → Int32) × (Nat → Int32) × (Nat → Int64) × (Nat → Int32) × (Nat → Int32)) := gd p0 3 (gd p0 3 ((fX2_ofState N (v_dreamOf p0.toNatClampNeg) (v_stateOf p0.toNatClampNeg) 1 v_inn_states).bind (un1 fun (r_21 : Int32) => (fX2_ofState N (v_dreamOf p0.toNatClampNeg) (v_stateOf p0.toNatClampNeg) 0 v_inn_states).bind (un1 fun (r_36 : Int32) => jn (un10 fun (x161_5 : Int32) (x161_stateOf : Nat → Int32) (x161_roomOf : Nat → Int32) (x161_how : Nat → Int32) (x161_thingIn : Nat → Int32) (x161_full : Nat → Int32) (x161_handOf : Nat → Int32) (x161_heardBy : Nat → Int64) (x161_awake : Nat → Int32) (x161_passed : Nat → Int32) => if x161_5 = 0 then (some (x161_stateOf, x161_roomOf, x161_how, x161_thingIn, x161_full, x161_handOf, x161_heardBy, x161_awake, x161_passed)) else ((fX2_ofState N (v_dreamOf p0.toNatClampNeg) (v_stateOf p0.toNatClampNeg) 2 v_inn_states).bind (un1 fun (r_178 : Int32) => gd p0 3 (some (upd x161_stateOf p0.toNatClampNeg r_178, x161_roomOf, x161_how, x161_thingIn, x161_full, x161_handOf, x161_heardBy, x161_awake, x161_passed))))) (fun j161 => if r_36 = 0 then (gd p0 3 (jn (un1 fun (x92_s0 : Int32) => if x92_s0 = 0 then ((fX4_goToward N p0 r_21 v_been v_roomOf v_ways_rooms v_ways_steps v_inn_sleepers v_inn_listeners v_inn_house_doors v_inn_house_one v_inn_house_other v_handOf v_inn_house_creak v_inn_listensIn v_inn_house_ways_steps v_heardBy v_inn_house_cold v_dreamOf v_stateOf v_inn_states v_awake v_thingIn v_inn_house_falls v_how v_passed).bind (un7 fun (v_roomOf_103 : Nat → Int32) (v_heardBy_103 : Nat → Int64) (v_stateOf_103 : Nat → Int32) (v_awake_103 : Nat → Int32) (v_thingIn_103 : Nat → Int32) (v_how_103 : Nat → Int32) (v_passed_103 : Nat → Int32) => j161 (x92_s0, v_stateOf_103, v_roomOf_103, v_how_103, v_thingIn_103, v_full, v_handOf, v_heardBy_103, v_awake_103, v_passed_103))) else (j161 (x92_s0, v_stateOf, v_roomOf, v_how, v_thingIn, v_full, v_handOf, v_heardBy, v_awake, v_passed))) (fun j92 => if (v_roomOf p0.toNatClampNeg) = r_21 then (j92 1) else (j92 0)))) else (if r_36 = 1 then ((fX4_takes N p0 r_21 v_thingIn v_roomOf v_handOf v_inn_sleepers).bind (un2 fun (r_113 : Int32) (v_handOf_113 : Nat → Int32) => j161 (r_113, v_stateOf, v_roomOf, v_how, v_thingIn, v_full, v_handOf_113, v_heardBy, v_awake, v_passed))) else (if r_36 = 2 then ((fX4_puts N p0 v_handOf).bind (un2 fun (r_123 : Int32) (v_handOf_123 : Nat → Int32) => j161 (r_123, v_stateOf, v_roomOf, v_how, v_thingIn, v_full, v_handOf_123, v_heardBy, v_awake, v_passed))) else (if r_36 = 3 then ((fX4_tips N p0 r_21 v_thingIn v_roomOf v_full).bind (un2 fun (r_135 : Int32) (v_full_135 : Nat → Int32) => j161 (r_135, v_stateOf, v_roomOf, v_how, v_thingIn, v_full_135, v_handOf, v_heardBy, v_awake, v_passed))) else (if r_36 = 4 then (j161 (1, v_stateOf, v_roomOf, v_how, v_thingIn, v_full, v_handOf, v_heardBy, v_awake, v_passed)) else (if r_36 = 5 then ((fX4_shuts N p0 r_21 v_roomOf v_inn_house_doors v_inn_house_one v_inn_house_other v_how).bind (un2 fun (r_153 : Int32) (v_how_153 : Nat → Int32) => j161 (r_153, v_stateOf, v_roomOf, v_how_153, v_thingIn, v_full, v_handOf, v_heardBy, v_awake, v_passed))) else (j161 (0, v_stateOf, v_roomOf, v_how, v_thingIn, v_full, v_handOf, v_heardBy, v_awake, v_passed))))))))))))
set_option maxHeartbeats 4000000 in
set_option maxRecDepth 100000 in
theorem ctX4_follow (l : Launch) (E : EN) (h h_inn h_ways h_how h_passed h_dreamOf h_stateOf h_roomOf h_handOf h_awake h_thingIn h_full h_heardBy h_inn_house h_inn_thingIn h_inn_full h_inn_states h_inn_bed h_inn_dreamOf h_inn_listensIn h_inn_house_creak h_inn_house_cold h_inn_house_one h_inn_house_other h_inn_house_how h_inn_house_falls h_inn_house_ways h_ways_steps h_inn_house_ways_steps : Nat) (v_setting : Int32) (v_been : Int32) (v_dreamOf : Nat → Int32) (v_stateOf : Nat → Int32) (v_inn_minutes : Int32) (v_inn_things : Int32) (v_inn_dreams : Int32) (v_inn_sleepers : Int32) (v_inn_listeners : Int32) (v_inn_states : Nat → Int32) (v_roomOf : Nat → Int32) (v_inn_house_rooms : Int32) (v_inn_house_doors : Int32) (v_inn_house_one : Nat → Int32) (v_inn_house_other : Nat → Int32) (v_how : Nat → Int32) (v_thingIn : Nat → Int32) (v_full : Nat → Int32) (v_handOf : Nat → Int32) (v_ways_rooms : Int32) (v_ways_steps : Nat → Int32) (v_inn_house_creak : Nat → Int32) (v_inn_listensIn : Nat → Int32) (v_inn_house_ways_rooms : Int32) (v_inn_house_ways_steps : Nat → Int32) (v_heardBy : Nat → Int64) (v_inn_house_cold : Nat → Int32) (v_awake : Nat → Int32) (v_inn_house_falls : Nat → Int32) (v_passed : Nat → Int32) (N : Nat) (p0 : Int32) (z : (Nat → Int32) × (Nat → Int32) × (Nat → Int32) × (Nat → Int32) × (Nat → Int32) × (Nat → Int32) × (Nat → Int64) × (Nat → Int32) × (Nat → Int32)) (hf : fX4_follow N p0 v_been v_dreamOf v_stateOf v_inn_sleepers v_inn_listeners v_inn_states v_roomOf v_inn_house_doors v_inn_house_one v_inn_house_other v_how v_thingIn v_full v_handOf v_ways_rooms v_ways_steps v_inn_house_creak v_inn_listensIn v_inn_house_ways_steps v_heardBy v_inn_house_cold v_awake v_inn_house_falls v_passed = some z) : CTv l E yX4_follow cX4_follow 6 3 71 [.ref h, .int p0] (wX4_follow E h h_inn h_ways h_how h_passed h_dreamOf h_stateOf h_roomOf h_handOf h_awake h_thingIn h_full h_heardBy h_inn_house h_inn_thingIn h_inn_full h_inn_states h_inn_bed h_inn_dreamOf h_inn_listensIn h_inn_house_creak h_inn_house_cold h_inn_house_one h_inn_house_other h_inn_house_how h_inn_house_falls h_inn_house_ways h_ways_steps h_inn_house_ways_steps v_setting v_been v_dreamOf v_stateOf v_inn_minutes v_inn_things v_inn_dreams v_inn_sleepers v_inn_listeners v_inn_states v_roomOf v_inn_house_rooms v_inn_house_doors v_inn_house_one v_inn_house_other v_how v_thingIn v_full v_handOf v_ways_rooms v_ways_steps v_inn_house_creak v_inn_listensIn v_inn_house_ways_rooms v_inn_house_ways_steps v_heardBy v_inn_house_cold v_awake v_inn_house_falls v_passed) (wX4_follow E h h_inn h_ways h_how h_passed h_dreamOf h_stateOf h_roomOf h_handOf h_awake h_thingIn h_full h_heardBy h_inn_house h_inn_thingIn h_inn_full h_inn_states h_inn_bed h_inn_dreamOf h_inn_listensIn h_inn_house_creak h_inn_house_cold h_inn_house_one h_inn_house_other h_inn_house_how h_inn_house_falls h_inn_house_ways h_ways_steps h_inn_house_ways_steps v_setting v_been v_dreamOf z.1 v_inn_minutes v_inn_things v_inn_dreams v_inn_sleepers v_inn_listeners v_inn_states z.2.1 v_inn_house_rooms v_inn_house_doors v_inn_house_one v_inn_house_other z.2.2.1 z.2.2.2.1 z.2.2.2.2.1 z.2.2.2.2.2.1 v_ways_rooms v_ways_steps v_inn_house_creak v_inn_listensIn v_inn_house_ways_rooms v_inn_house_ways_steps z.2.2.2.2.2.2.1 v_inn_house_cold z.2.2.2.2.2.2.2.1 v_inn_house_falls z.2.2.2.2.2.2.2.2) := by
  intro sz
  refine ct_body (by decide) (Nat.le_of_ble_eq_true rfl) ?_
  intro p e s m args below meth c A ls hAe C hr hin hP hD hS hl
  have C : CX p s m args meth c cX4_follow RX4 6 E A := C
  have hl : lv_has ls 6 [(0, .ref h), (1, .int p0)] := hl
  have hx := C.1
  have hb := C.2.1
  rw [hAe]
  clear hAe
  obtain ⟨Q, hQ⟩ : ∃ Q, Q = MQ below (Qv E A (wX4_follow E h h_inn h_ways h_how h_passed h_dreamOf h_stateOf h_roomOf h_handOf h_awake h_thingIn h_full h_heardBy h_inn_house h_inn_thingIn h_inn_full h_inn_states h_inn_bed h_inn_dreamOf h_inn_listensIn h_inn_house_creak h_inn_house_cold h_inn_house_one h_inn_house_other h_inn_house_how h_inn_house_falls h_inn_house_ways h_ways_steps h_inn_house_ways_steps v_setting v_been v_dreamOf z.1 v_inn_minutes v_inn_things v_inn_dreams v_inn_sleepers v_inn_listeners v_inn_states z.2.1 v_inn_house_rooms v_inn_house_doors v_inn_house_one v_inn_house_other z.2.2.1 z.2.2.2.1 z.2.2.2.2.1 z.2.2.2.2.2.1 v_ways_rooms v_ways_steps v_inn_house_creak v_inn_listensIn v_inn_house_ways_rooms v_inn_house_ways_steps z.2.2.2.2.2.2.1 v_inn_house_cold z.2.2.2.2.2.2.2.1 v_inn_house_falls z.2.2.2.2.2.2.2.2)) args s 0 0 A := ⟨_, rfl⟩
  rw [← hQ]
  unfold fX4_follow at hf
  refine lv_aload_n (pc := 0) hx hb dX4_follow_0 rfl (lv_at hl 0 rfl) ?_
  refine r_get (pc := 1) C hP 0 rfl fl_X4_25 rfl dX4_follow_1 ?_
  refine lv_iload_n (pc := 4) hx hb dX4_follow_4 rfl (lv_at hl 1 rfl) ?_
  obtain ⟨hi_5, hf⟩ := gd_s hf
  refine r_iald (pc := 5) C hP 1 rfl hi_5 dX4_follow_5 ?_
  refine lv_istore_n (pc := 6) (lv' := [(2, .int (v_dreamOf p0.toNatClampNeg)), (0, .ref h), (1, .int p0)]) hx hb dX4_follow_6 rfl hl (by decide) rfl (fun ls hl => ?_)
  refine lv_aload_n (pc := 7) hx hb dX4_follow_7 rfl (lv_at hl 1 rfl) ?_
  refine r_get (pc := 8) C hP 0 rfl fl_X4_28 rfl dX4_follow_8 ?_
  refine lv_iload_n (pc := 11) hx hb dX4_follow_11 rfl (lv_at hl 2 rfl) ?_
  obtain ⟨hi_12, hf⟩ := gd_s hf
  refine r_iald (pc := 12) C hP 2 rfl hi_12 dX4_follow_12 ?_
  refine lv_istore_n (pc := 13) (lv' := [(3, .int (v_stateOf p0.toNatClampNeg)), (2, .int (v_dreamOf p0.toNatClampNeg)), (0, .ref h), (1, .int p0)]) hx hb dX4_follow_13 rfl hl (by decide) rfl (fun ls hl => ?_)
  refine lv_aload_n (pc := 14) hx hb dX4_follow_14 rfl (lv_at hl 2 rfl) ?_
  refine r_get (pc := 15) C hP 0 rfl fl_X4_51 rfl dX4_follow_15 ?_
  refine lv_iload_n (pc := 18) hx hb dX4_follow_18 rfl (lv_at hl 1 rfl) ?_
  refine lv_iload_n (pc := 19) hx hb dX4_follow_19 rfl (lv_at hl 0 rfl) ?_
  refine lv_iconst (pc := 20) (v := 1) hx hb dX4_follow_20 (by decide) ?_
  obtain ⟨r_21, hc_21, hf⟩ := bd1 hf
  refine r_dalVi (pc := 21) (ws' := (wX4_follow E h h_inn h_ways h_how h_passed h_dreamOf h_stateOf h_roomOf h_handOf h_awake h_thingIn h_full h_heardBy h_inn_house h_inn_thingIn h_inn_full h_inn_states h_inn_bed h_inn_dreamOf h_inn_listensIn h_inn_house_creak h_inn_house_cold h_inn_house_one h_inn_house_other h_inn_house_how h_inn_house_falls h_inn_house_ways h_ways_steps h_inn_house_ways_steps v_setting v_been v_dreamOf v_stateOf v_inn_minutes v_inn_things v_inn_dreams v_inn_sleepers v_inn_listeners v_inn_states v_roomOf v_inn_house_rooms v_inn_house_doors v_inn_house_one v_inn_house_other v_how v_thingIn v_full v_handOf v_ways_rooms v_ways_steps v_inn_house_creak v_inn_listensIn v_inn_house_ways_rooms v_inn_house_ways_steps v_heardBy v_inn_house_cold v_awake v_inn_house_falls v_passed)) (As := [.int (v_dreamOf p0.toNatClampNeg), .int (v_stateOf p0.toNatClampNeg), .int 1]) (rest := []) C (ctX2_ofState l E h_inn h_inn_house h_inn_thingIn h_inn_full h_inn_states h_inn_bed h_inn_dreamOf h_inn_listensIn v_inn_minutes v_inn_things v_inn_dreams v_inn_sleepers v_inn_listeners v_inn_states N (v_dreamOf p0.toNatClampNeg) (v_stateOf p0.toNatClampNeg) 1 r_21 hc_21) ml_X4_117 ⟨Nat.le_of_ble_eq_true rfl, Nat.le_of_ble_eq_true rfl⟩ hP hD hS 3 rfl rfl rfl [3, 4] [0, 1, 2, 24, 25, 5, 6, 7, 8, 9, 10, 11, 12, 13, 14, 15, 16, 17, 18, 19, 20, 21, 22, 23] 24 rfl rfl rfl rfl rfl rfl rfl hl.1 rfl (Nat.le_of_ble_eq_true rfl) ⟨Nat.zero_le _, Nat.zero_le _⟩ dX4_follow_21 ?_
  clear hP hD hS; intro H locs hP hD hS
  refine lv_istore (pc := 24) (lv' := [(4, .int r_21), (3, .int (v_stateOf p0.toNatClampNeg)), (2, .int (v_dreamOf p0.toNatClampNeg)), (0, .ref h), (1, .int p0)]) hx hb dX4_follow_24 hl (by decide) rfl (fun ls hl => ?_)
  refine lv_iconst (pc := 26) (v := 0) hx hb dX4_follow_26 (by decide) ?_
  refine lv_istore (pc := 27) (lv' := [(5, .int 0), (4, .int r_21), (3, .int (v_stateOf p0.toNatClampNeg)), (2, .int (v_dreamOf p0.toNatClampNeg)), (0, .ref h), (1, .int p0)]) hx hb dX4_follow_27 hl (by decide) rfl (fun ls hl => ?_)
  refine lv_aload_n (pc := 29) hx hb dX4_follow_29 rfl (lv_at hl 4 rfl) ?_
  refine r_get (pc := 30) C hP 0 rfl fl_X4_51 rfl dX4_follow_30 ?_
  refine lv_iload_n (pc := 33) hx hb dX4_follow_33 rfl (lv_at hl 3 rfl) ?_
  refine lv_iload_n (pc := 34) hx hb dX4_follow_34 rfl (lv_at hl 2 rfl) ?_
  refine lv_iconst (pc := 35) (v := 0) hx hb dX4_follow_35 (by decide) ?_
  obtain ⟨r_36, hc_36, hf⟩ := bd1 hf
  refine r_dalVi (pc := 36) (ws' := (wX4_follow E h h_inn h_ways h_how h_passed h_dreamOf h_stateOf h_roomOf h_handOf h_awake h_thingIn h_full h_heardBy h_inn_house h_inn_thingIn h_inn_full h_inn_states h_inn_bed h_inn_dreamOf h_inn_listensIn h_inn_house_creak h_inn_house_cold h_inn_house_one h_inn_house_other h_inn_house_how h_inn_house_falls h_inn_house_ways h_ways_steps h_inn_house_ways_steps v_setting v_been v_dreamOf v_stateOf v_inn_minutes v_inn_things v_inn_dreams v_inn_sleepers v_inn_listeners v_inn_states v_roomOf v_inn_house_rooms v_inn_house_doors v_inn_house_one v_inn_house_other v_how v_thingIn v_full v_handOf v_ways_rooms v_ways_steps v_inn_house_creak v_inn_listensIn v_inn_house_ways_rooms v_inn_house_ways_steps v_heardBy v_inn_house_cold v_awake v_inn_house_falls v_passed)) (As := [.int (v_dreamOf p0.toNatClampNeg), .int (v_stateOf p0.toNatClampNeg), .int 0]) (rest := []) C (ctX2_ofState l E h_inn h_inn_house h_inn_thingIn h_inn_full h_inn_states h_inn_bed h_inn_dreamOf h_inn_listensIn v_inn_minutes v_inn_things v_inn_dreams v_inn_sleepers v_inn_listeners v_inn_states N (v_dreamOf p0.toNatClampNeg) (v_stateOf p0.toNatClampNeg) 0 r_36 hc_36) ml_X4_117 ⟨Nat.le_of_ble_eq_true rfl, Nat.le_of_ble_eq_true rfl⟩ hP hD hS 3 rfl rfl rfl [3, 4] [0, 1, 2, 24, 25, 5, 6, 7, 8, 9, 10, 11, 12, 13, 14, 15, 16, 17, 18, 19, 20, 21, 22, 23] 24 rfl rfl rfl rfl rfl rfl rfl hl.1 rfl (Nat.le_of_ble_eq_true rfl) ⟨Nat.zero_le _, Nat.zero_le _⟩ dX4_follow_36 ?_
  clear hP hD hS; intro H locs hP hD hS
  refine jnK hf (fun j161 ej161 hf => ?_)
  have hj161 : ∀ (x161_5 : Int32) (x161_stateOf : Nat → Int32) (x161_roomOf : Nat → Int32) (x161_how : Nat → Int32) (x161_thingIn : Nat → Int32) (x161_full : Nat → Int32) (x161_handOf : Nat → Int32) (x161_heardBy : Nat → Int64) (x161_awake : Nat → Int32) (x161_passed : Nat → Int32) , j161 (x161_5, x161_stateOf, x161_roomOf, x161_how, x161_thingIn, x161_full, x161_handOf, x161_heardBy, x161_awake, x161_passed) = some z → AT p l e (rmOf 3 71) s m args below meth c E A Q 0 0 6 [(0, .ref h), (1, .int p0), (2, .int (v_dreamOf p0.toNatClampNeg)), (3, .int (v_stateOf p0.toNatClampNeg)), (5, .int x161_5)] (wX4_follow E h h_inn h_ways h_how h_passed h_dreamOf h_stateOf h_roomOf h_handOf h_awake h_thingIn h_full h_heardBy h_inn_house h_inn_thingIn h_inn_full h_inn_states h_inn_bed h_inn_dreamOf h_inn_listensIn h_inn_house_creak h_inn_house_cold h_inn_house_one h_inn_house_other h_inn_house_how h_inn_house_falls h_inn_house_ways h_ways_steps h_inn_house_ways_steps v_setting v_been v_dreamOf x161_stateOf v_inn_minutes v_inn_things v_inn_dreams v_inn_sleepers v_inn_listeners v_inn_states x161_roomOf v_inn_house_rooms v_inn_house_doors v_inn_house_one v_inn_house_other x161_how x161_thingIn x161_full x161_handOf v_ways_rooms v_ways_steps v_inn_house_creak v_inn_listensIn v_inn_house_ways_rooms v_inn_house_ways_steps x161_heardBy v_inn_house_cold x161_awake v_inn_house_falls x161_passed) 161 [] := by
    intro x161_5 x161_stateOf x161_roomOf x161_how x161_thingIn x161_full x161_handOf x161_heardBy x161_awake x161_passed hf H locs ls hl hP hD hS
    rw [ej161] at hf
    replace hf := un10_s hf
    refine lv_iload (pc := 161) hx hb dX4_follow_161 (lv_at hl 4 rfl) ?_
    refine lv_if_eq (pc := 163) (tgt := 182) hx hb dX4_follow_163 (by decide) (fun c_163 => ?_) (fun c_163 => ?_)
    · replace hf := it_t c_163 hf
      cases hf
      rw [hQ]
      exact r_vret C hr hP hD hS dX4_follow_182
    · replace hf := it_f c_163 hf
      refine lv_aload_n (pc := 166) hx hb dX4_follow_166 rfl (lv_at hl 0 rfl) ?_
      refine r_get (pc := 167) C hP 0 rfl fl_X4_28 rfl dX4_follow_167 ?_
      refine lv_iload_n (pc := 170) hx hb dX4_follow_170 rfl (lv_at hl 1 rfl) ?_
      refine lv_aload_n (pc := 171) hx hb dX4_follow_171 rfl (lv_at hl 0 rfl) ?_
      refine r_get (pc := 172) C hP 0 rfl fl_X4_51 rfl dX4_follow_172 ?_
      refine lv_iload_n (pc := 175) hx hb dX4_follow_175 rfl (lv_at hl 2 rfl) ?_
      refine lv_iload_n (pc := 176) hx hb dX4_follow_176 rfl (lv_at hl 3 rfl) ?_
      refine lv_iconst (pc := 177) (v := 2) hx hb dX4_follow_177 (by decide) ?_
      obtain ⟨r_178, hc_178, hf⟩ := bd1 hf
      refine r_dalVi (pc := 178) (ws' := (wX4_follow E h h_inn h_ways h_how h_passed h_dreamOf h_stateOf h_roomOf h_handOf h_awake h_thingIn h_full h_heardBy h_inn_house h_inn_thingIn h_inn_full h_inn_states h_inn_bed h_inn_dreamOf h_inn_listensIn h_inn_house_creak h_inn_house_cold h_inn_house_one h_inn_house_other h_inn_house_how h_inn_house_falls h_inn_house_ways h_ways_steps h_inn_house_ways_steps v_setting v_been v_dreamOf x161_stateOf v_inn_minutes v_inn_things v_inn_dreams v_inn_sleepers v_inn_listeners v_inn_states x161_roomOf v_inn_house_rooms v_inn_house_doors v_inn_house_one v_inn_house_other x161_how x161_thingIn x161_full x161_handOf v_ways_rooms v_ways_steps v_inn_house_creak v_inn_listensIn v_inn_house_ways_rooms v_inn_house_ways_steps x161_heardBy v_inn_house_cold x161_awake v_inn_house_falls x161_passed)) (As := [.int (v_dreamOf p0.toNatClampNeg), .int (v_stateOf p0.toNatClampNeg), .int 2]) (rest := [.int p0, .ref h_stateOf]) C (ctX2_ofState l E h_inn h_inn_house h_inn_thingIn h_inn_full h_inn_states h_inn_bed h_inn_dreamOf h_inn_listensIn v_inn_minutes v_inn_things v_inn_dreams v_inn_sleepers v_inn_listeners v_inn_states N (v_dreamOf p0.toNatClampNeg) (v_stateOf p0.toNatClampNeg) 2 r_178 hc_178) ml_X4_117 ⟨Nat.le_of_ble_eq_true rfl, Nat.le_of_ble_eq_true rfl⟩ hP hD hS 3 rfl rfl rfl [3, 4] [0, 1, 2, 24, 25, 5, 6, 7, 8, 9, 10, 11, 12, 13, 14, 15, 16, 17, 18, 19, 20, 21, 22, 23] 24 rfl rfl rfl rfl rfl rfl rfl hl.1 rfl (Nat.le_of_ble_eq_true rfl) ⟨Nat.zero_le _, Nat.zero_le _⟩ dX4_follow_178 ?_
      clear hP hD hS; intro H locs hP hD hS
      obtain ⟨hi_181, hf⟩ := gd_s hf
      refine r_iast (pc := 181) (ws' := (wX4_follow E h h_inn h_ways h_how h_passed h_dreamOf h_stateOf h_roomOf h_handOf h_awake h_thingIn h_full h_heardBy h_inn_house h_inn_thingIn h_inn_full h_inn_states h_inn_bed h_inn_dreamOf h_inn_listensIn h_inn_house_creak h_inn_house_cold h_inn_house_one h_inn_house_other h_inn_house_how h_inn_house_falls h_inn_house_ways h_ways_steps h_inn_house_ways_steps v_setting v_been v_dreamOf (upd x161_stateOf p0.toNatClampNeg r_178) v_inn_minutes v_inn_things v_inn_dreams v_inn_sleepers v_inn_listeners v_inn_states x161_roomOf v_inn_house_rooms v_inn_house_doors v_inn_house_one v_inn_house_other x161_how x161_thingIn x161_full x161_handOf v_ways_rooms v_ways_steps v_inn_house_creak v_inn_listensIn v_inn_house_ways_rooms v_inn_house_ways_steps x161_heardBy v_inn_house_cold x161_awake v_inn_house_falls x161_passed)) C hP hD hS 2 rfl hi_181 rfl dX4_follow_181 ?_
      clear hP hD hS; intro H locs hP hD hS
      cases hf
      rw [hQ]
      exact r_vret C hr hP hD hS dX4_follow_182
  clear ej161
  by_cases c_39_0 : r_36 = 0
  · replace hf := it_t c_39_0 hf
    refine lv_tableIn (pc := 39) (off := 37) (tgt := 76) hx hb dX4_follow_39 (by rw [c_39_0]; decide) (by rw [c_39_0]; decide) (by rw [c_39_0]; rfl) (by decide) ?_
    refine lv_aload_n (pc := 76) hx hb dX4_follow_76 rfl (lv_at hl 4 rfl) ?_
    refine r_get (pc := 77) C hP 0 rfl fl_X4_31 rfl dX4_follow_77 ?_
    refine lv_iload_n (pc := 80) hx hb dX4_follow_80 rfl (lv_at hl 5 rfl) ?_
    obtain ⟨hi_81, hf⟩ := gd_s hf
    refine r_iald (pc := 81) C hP 5 rfl hi_81 dX4_follow_81 ?_
    refine lv_iload (pc := 82) hx hb dX4_follow_82 (lv_at hl 1 rfl) ?_
    refine jnK hf (fun j92 ej92 hf => ?_)
    have hj92 : ∀ (x92_s0 : Int32) , j92 x92_s0 = some z → AT p l e (rmOf 3 71) s m args below meth c E A Q 0 0 6 [(0, .ref h), (1, .int p0), (2, .int (v_dreamOf p0.toNatClampNeg)), (3, .int (v_stateOf p0.toNatClampNeg)), (4, .int r_21)] (wX4_follow E h h_inn h_ways h_how h_passed h_dreamOf h_stateOf h_roomOf h_handOf h_awake h_thingIn h_full h_heardBy h_inn_house h_inn_thingIn h_inn_full h_inn_states h_inn_bed h_inn_dreamOf h_inn_listensIn h_inn_house_creak h_inn_house_cold h_inn_house_one h_inn_house_other h_inn_house_how h_inn_house_falls h_inn_house_ways h_ways_steps h_inn_house_ways_steps v_setting v_been v_dreamOf v_stateOf v_inn_minutes v_inn_things v_inn_dreams v_inn_sleepers v_inn_listeners v_inn_states v_roomOf v_inn_house_rooms v_inn_house_doors v_inn_house_one v_inn_house_other v_how v_thingIn v_full v_handOf v_ways_rooms v_ways_steps v_inn_house_creak v_inn_listensIn v_inn_house_ways_rooms v_inn_house_ways_steps v_heardBy v_inn_house_cold v_awake v_inn_house_falls v_passed) 92 [.int x92_s0] := by
      intro x92_s0 hf H locs ls hl hP hD hS
      rw [ej92] at hf
      replace hf := un1_s hf
      refine lv_istore (pc := 92) (lv' := [(5, .int x92_s0), (0, .ref h), (1, .int p0), (2, .int (v_dreamOf p0.toNatClampNeg)), (3, .int (v_stateOf p0.toNatClampNeg)), (4, .int r_21)]) hx hb dX4_follow_92 hl (by decide) rfl (fun ls hl => ?_)
      refine lv_iload (pc := 94) hx hb dX4_follow_94 (lv_at hl 0 rfl) ?_
      refine lv_if_ne (pc := 96) (tgt := 161) hx hb dX4_follow_96 (by decide) (fun c_96 => ?_) (fun c_96 => ?_)
      · replace hf := it_f c_96 hf
        exact hj161 x92_s0 v_stateOf v_roomOf v_how v_thingIn v_full v_handOf v_heardBy v_awake v_passed hf _ _ _ (lv_sub hl [1, 2, 3, 4, 0] rfl) hP hD hS
      · replace hf := it_t c_96 hf
        refine lv_aload_n (pc := 99) hx hb dX4_follow_99 rfl (lv_at hl 1 rfl) ?_
        refine lv_iload_n (pc := 100) hx hb dX4_follow_100 rfl (lv_at hl 2 rfl) ?_
        refine lv_iload (pc := 101) hx hb dX4_follow_101 (lv_at hl 5 rfl) ?_
        obtain ⟨v_roomOf_103, v_heardBy_103, v_stateOf_103, v_awake_103, v_thingIn_103, v_how_103, v_passed_103, hc_103, hf⟩ := bd7 hf
        refine r_dalVv (pc := 103) (ws' := (wX4_follow E h h_inn h_ways h_how h_passed h_dreamOf h_stateOf h_roomOf h_handOf h_awake h_thingIn h_full h_heardBy h_inn_house h_inn_thingIn h_inn_full h_inn_states h_inn_bed h_inn_dreamOf h_inn_listensIn h_inn_house_creak h_inn_house_cold h_inn_house_one h_inn_house_other h_inn_house_how h_inn_house_falls h_inn_house_ways h_ways_steps h_inn_house_ways_steps v_setting v_been v_dreamOf v_stateOf_103 v_inn_minutes v_inn_things v_inn_dreams v_inn_sleepers v_inn_listeners v_inn_states v_roomOf_103 v_inn_house_rooms v_inn_house_doors v_inn_house_one v_inn_house_other v_how_103 v_thingIn_103 v_full v_handOf v_ways_rooms v_ways_steps v_inn_house_creak v_inn_listensIn v_inn_house_ways_rooms v_inn_house_ways_steps v_heardBy_103 v_inn_house_cold v_awake_103 v_inn_house_falls v_passed_103)) (As := [.int p0, .int r_21]) (rest := []) C (ctX4_goToward l E h h_inn h_ways h_how h_passed h_dreamOf h_stateOf h_roomOf h_handOf h_awake h_thingIn h_full h_heardBy h_ways_steps h_inn_house h_inn_thingIn h_inn_full h_inn_states h_inn_bed h_inn_dreamOf h_inn_listensIn h_inn_house_creak h_inn_house_cold h_inn_house_one h_inn_house_other h_inn_house_how h_inn_house_falls h_inn_house_ways h_inn_house_ways_steps v_setting v_been v_roomOf v_ways_rooms v_ways_steps v_inn_minutes v_inn_things v_inn_dreams v_inn_sleepers v_inn_listeners v_inn_house_rooms v_inn_house_doors v_inn_house_one v_inn_house_other v_handOf v_inn_house_creak v_inn_listensIn v_inn_house_ways_rooms v_inn_house_ways_steps v_heardBy v_inn_house_cold v_dreamOf v_stateOf v_inn_states v_awake v_thingIn v_inn_house_falls v_how v_passed N p0 r_21 (v_roomOf_103, v_heardBy_103, v_stateOf_103, v_awake_103, v_thingIn_103, v_how_103, v_passed_103) hc_103) ml_X4_121 ⟨Nat.le_of_ble_eq_true rfl, Nat.le_of_ble_eq_true rfl⟩ hP hD hS 0 rfl rfl rfl [0, 5, 13, 14, 3, 6, 7, 8, 12, 15, 16, 17, 18, 19, 20, 1, 2, 4, 21, 10, 22, 9, 23] [24, 39, 40, 28, 41, 25, 29, 30, 31, 45, 43, 11, 32, 26, 27, 33, 34, 35, 36, 37, 38, 42, 44, 46] 24 rfl rfl rfl rfl rfl rfl rfl hl.1 rfl (Nat.le_of_ble_eq_true rfl) ⟨Nat.zero_le _, Nat.zero_le _⟩ dX4_follow_103 ?_
        clear hP hD hS; intro H locs hP hD hS
        refine lv_goto (pc := 106) (tgt := 161) hx hb dX4_follow_106 (by decide) ?_
        exact hj161 x92_s0 v_stateOf_103 v_roomOf_103 v_how_103 v_thingIn_103 v_full v_handOf v_heardBy_103 v_awake_103 v_passed_103 hf _ _ _ (lv_sub hl [1, 2, 3, 4, 0] rfl) hP hD hS
    clear ej92
    refine lv_icmp_ne (pc := 84) (tgt := 91) hx hb dX4_follow_84 (by decide) (fun c_84 => ?_) (fun c_84 => ?_)
    · replace hf := it_f c_84 hf
      refine lv_iconst (pc := 91) (v := 0) hx hb dX4_follow_91 (by decide) ?_
      exact hj92 0 hf _ _ _ (lv_sub hl [4, 5, 3, 2, 1] rfl) hP hD hS
    · replace hf := it_t c_84 hf
      refine lv_iconst (pc := 87) (v := 1) hx hb dX4_follow_87 (by decide) ?_
      refine lv_goto (pc := 88) (tgt := 92) hx hb dX4_follow_88 (by decide) ?_
      exact hj92 1 hf _ _ _ (lv_sub hl [4, 5, 3, 2, 1] rfl) hP hD hS
  · replace hf := it_f c_39_0 hf
    by_cases c_39_1 : r_36 = 1
    · replace hf := it_t c_39_1 hf
      refine lv_tableIn (pc := 39) (off := 70) (tgt := 109) hx hb dX4_follow_39 (by rw [c_39_1]; decide) (by rw [c_39_1]; decide) (by rw [c_39_1]; rfl) (by decide) ?_
      refine lv_aload_n (pc := 109) hx hb dX4_follow_109 rfl (lv_at hl 4 rfl) ?_
      refine lv_iload_n (pc := 110) hx hb dX4_follow_110 rfl (lv_at hl 5 rfl) ?_
      refine lv_iload (pc := 111) hx hb dX4_follow_111 (lv_at hl 1 rfl) ?_
      obtain ⟨r_113, v_handOf_113, hc_113, hf⟩ := bd2 hf
      refine r_dalVi (pc := 113) (ws' := (wX4_follow E h h_inn h_ways h_how h_passed h_dreamOf h_stateOf h_roomOf h_handOf h_awake h_thingIn h_full h_heardBy h_inn_house h_inn_thingIn h_inn_full h_inn_states h_inn_bed h_inn_dreamOf h_inn_listensIn h_inn_house_creak h_inn_house_cold h_inn_house_one h_inn_house_other h_inn_house_how h_inn_house_falls h_inn_house_ways h_ways_steps h_inn_house_ways_steps v_setting v_been v_dreamOf v_stateOf v_inn_minutes v_inn_things v_inn_dreams v_inn_sleepers v_inn_listeners v_inn_states v_roomOf v_inn_house_rooms v_inn_house_doors v_inn_house_one v_inn_house_other v_how v_thingIn v_full v_handOf_113 v_ways_rooms v_ways_steps v_inn_house_creak v_inn_listensIn v_inn_house_ways_rooms v_inn_house_ways_steps v_heardBy v_inn_house_cold v_awake v_inn_house_falls v_passed)) (As := [.int p0, .int r_21]) (rest := []) C (ctX4_takes l E h h_inn h_ways h_how h_passed h_dreamOf h_stateOf h_roomOf h_handOf h_awake h_thingIn h_full h_heardBy h_inn_house h_inn_thingIn h_inn_full h_inn_states h_inn_bed h_inn_dreamOf h_inn_listensIn v_setting v_been v_thingIn v_roomOf v_handOf v_inn_minutes v_inn_things v_inn_dreams v_inn_sleepers v_inn_listeners N p0 r_21 (r_113, v_handOf_113) hc_113) ml_X4_125 ⟨Nat.le_of_ble_eq_true rfl, Nat.le_of_ble_eq_true rfl⟩ hP hD hS 0 rfl rfl rfl [0, 10, 5, 12, 3] [24, 1, 2, 28, 4, 26, 6, 7, 8, 9, 25, 11, 27, 13, 14, 15, 16, 17, 18, 19, 20, 21, 22, 23] 24 rfl rfl rfl rfl rfl rfl rfl hl.1 rfl (Nat.le_of_ble_eq_true rfl) ⟨Nat.zero_le _, Nat.zero_le _⟩ dX4_follow_113 ?_
      clear hP hD hS; intro H locs hP hD hS
      refine lv_istore (pc := 116) (lv' := [(5, .int r_113), (4, .int r_21), (3, .int (v_stateOf p0.toNatClampNeg)), (2, .int (v_dreamOf p0.toNatClampNeg)), (0, .ref h), (1, .int p0)]) hx hb dX4_follow_116 hl (by decide) rfl (fun ls hl => ?_)
      refine lv_goto (pc := 118) (tgt := 161) hx hb dX4_follow_118 (by decide) ?_
      exact hj161 r_113 v_stateOf v_roomOf v_how v_thingIn v_full v_handOf_113 v_heardBy v_awake v_passed hf _ _ _ (lv_sub hl [4, 5, 3, 2, 0] rfl) hP hD hS
    · replace hf := it_f c_39_1 hf
      by_cases c_39_2 : r_36 = 2
      · replace hf := it_t c_39_2 hf
        refine lv_tableIn (pc := 39) (off := 82) (tgt := 121) hx hb dX4_follow_39 (by rw [c_39_2]; decide) (by rw [c_39_2]; decide) (by rw [c_39_2]; rfl) (by decide) ?_
        refine lv_aload_n (pc := 121) hx hb dX4_follow_121 rfl (lv_at hl 4 rfl) ?_
        refine lv_iload_n (pc := 122) hx hb dX4_follow_122 rfl (lv_at hl 5 rfl) ?_
        obtain ⟨r_123, v_handOf_123, hc_123, hf⟩ := bd2 hf
        refine r_dalVi (pc := 123) (ws' := (wX4_follow E h h_inn h_ways h_how h_passed h_dreamOf h_stateOf h_roomOf h_handOf h_awake h_thingIn h_full h_heardBy h_inn_house h_inn_thingIn h_inn_full h_inn_states h_inn_bed h_inn_dreamOf h_inn_listensIn h_inn_house_creak h_inn_house_cold h_inn_house_one h_inn_house_other h_inn_house_how h_inn_house_falls h_inn_house_ways h_ways_steps h_inn_house_ways_steps v_setting v_been v_dreamOf v_stateOf v_inn_minutes v_inn_things v_inn_dreams v_inn_sleepers v_inn_listeners v_inn_states v_roomOf v_inn_house_rooms v_inn_house_doors v_inn_house_one v_inn_house_other v_how v_thingIn v_full v_handOf_123 v_ways_rooms v_ways_steps v_inn_house_creak v_inn_listensIn v_inn_house_ways_rooms v_inn_house_ways_steps v_heardBy v_inn_house_cold v_awake v_inn_house_falls v_passed)) (As := [.int p0]) (rest := []) C (ctX4_puts l E h h_ways h_how h_passed h_dreamOf h_stateOf h_roomOf h_handOf h_awake h_thingIn h_full h_heardBy (some h_inn) v_setting v_been v_handOf N p0 (r_123, v_handOf_123) hc_123) ml_X4_128 ⟨Nat.le_of_ble_eq_true rfl, Nat.le_of_ble_eq_true rfl⟩ hP hD hS 0 rfl rfl rfl [0, 12] [24, 1, 2, 3, 4, 5, 6, 7, 8, 9, 10, 11, 25, 13, 14, 15, 16, 17, 18, 19, 20, 21, 22, 23] 24 rfl rfl rfl rfl rfl rfl rfl hl.1 rfl (Nat.le_of_ble_eq_true rfl) ⟨Nat.zero_le _, Nat.zero_le _⟩ dX4_follow_123 ?_
        clear hP hD hS; intro H locs hP hD hS
        refine lv_istore (pc := 126) (lv' := [(5, .int r_123), (4, .int r_21), (3, .int (v_stateOf p0.toNatClampNeg)), (2, .int (v_dreamOf p0.toNatClampNeg)), (0, .ref h), (1, .int p0)]) hx hb dX4_follow_126 hl (by decide) rfl (fun ls hl => ?_)
        refine lv_goto (pc := 128) (tgt := 161) hx hb dX4_follow_128 (by decide) ?_
        exact hj161 r_123 v_stateOf v_roomOf v_how v_thingIn v_full v_handOf_123 v_heardBy v_awake v_passed hf _ _ _ (lv_sub hl [4, 5, 3, 2, 0] rfl) hP hD hS
      · replace hf := it_f c_39_2 hf
        by_cases c_39_3 : r_36 = 3
        · replace hf := it_t c_39_3 hf
          refine lv_tableIn (pc := 39) (off := 92) (tgt := 131) hx hb dX4_follow_39 (by rw [c_39_3]; decide) (by rw [c_39_3]; decide) (by rw [c_39_3]; rfl) (by decide) ?_
          refine lv_aload_n (pc := 131) hx hb dX4_follow_131 rfl (lv_at hl 4 rfl) ?_
          refine lv_iload_n (pc := 132) hx hb dX4_follow_132 rfl (lv_at hl 5 rfl) ?_
          refine lv_iload (pc := 133) hx hb dX4_follow_133 (lv_at hl 1 rfl) ?_
          obtain ⟨r_135, v_full_135, hc_135, hf⟩ := bd2 hf
          refine r_dalVi (pc := 135) (ws' := (wX4_follow E h h_inn h_ways h_how h_passed h_dreamOf h_stateOf h_roomOf h_handOf h_awake h_thingIn h_full h_heardBy h_inn_house h_inn_thingIn h_inn_full h_inn_states h_inn_bed h_inn_dreamOf h_inn_listensIn h_inn_house_creak h_inn_house_cold h_inn_house_one h_inn_house_other h_inn_house_how h_inn_house_falls h_inn_house_ways h_ways_steps h_inn_house_ways_steps v_setting v_been v_dreamOf v_stateOf v_inn_minutes v_inn_things v_inn_dreams v_inn_sleepers v_inn_listeners v_inn_states v_roomOf v_inn_house_rooms v_inn_house_doors v_inn_house_one v_inn_house_other v_how v_thingIn v_full_135 v_handOf v_ways_rooms v_ways_steps v_inn_house_creak v_inn_listensIn v_inn_house_ways_rooms v_inn_house_ways_steps v_heardBy v_inn_house_cold v_awake v_inn_house_falls v_passed)) (As := [.int p0, .int r_21]) (rest := []) C (ctX4_tips l E h h_ways h_how h_passed h_dreamOf h_stateOf h_roomOf h_handOf h_awake h_thingIn h_full h_heardBy (some h_inn) v_setting v_been v_thingIn v_roomOf v_full N p0 r_21 (r_135, v_full_135) hc_135) ml_X4_132 ⟨Nat.le_of_ble_eq_true rfl, Nat.le_of_ble_eq_true rfl⟩ hP hD hS 0 rfl rfl rfl [0, 10, 5, 11] [24, 1, 2, 3, 4, 26, 6, 7, 8, 9, 25, 27, 12, 13, 14, 15, 16, 17, 18, 19, 20, 21, 22, 23] 24 rfl rfl rfl rfl rfl rfl rfl hl.1 rfl (Nat.le_of_ble_eq_true rfl) ⟨Nat.zero_le _, Nat.zero_le _⟩ dX4_follow_135 ?_
          clear hP hD hS; intro H locs hP hD hS
          refine lv_istore (pc := 138) (lv' := [(5, .int r_135), (4, .int r_21), (3, .int (v_stateOf p0.toNatClampNeg)), (2, .int (v_dreamOf p0.toNatClampNeg)), (0, .ref h), (1, .int p0)]) hx hb dX4_follow_138 hl (by decide) rfl (fun ls hl => ?_)
          refine lv_goto (pc := 140) (tgt := 161) hx hb dX4_follow_140 (by decide) ?_
          exact hj161 r_135 v_stateOf v_roomOf v_how v_thingIn v_full_135 v_handOf v_heardBy v_awake v_passed hf _ _ _ (lv_sub hl [4, 5, 3, 2, 0] rfl) hP hD hS
        · replace hf := it_f c_39_3 hf
          by_cases c_39_4 : r_36 = 4
          · replace hf := it_t c_39_4 hf
            refine lv_tableIn (pc := 39) (off := 104) (tgt := 143) hx hb dX4_follow_39 (by rw [c_39_4]; decide) (by rw [c_39_4]; decide) (by rw [c_39_4]; rfl) (by decide) ?_
            refine lv_iconst (pc := 143) (v := 1) hx hb dX4_follow_143 (by decide) ?_
            refine lv_istore (pc := 144) (lv' := [(5, .int 1), (4, .int r_21), (3, .int (v_stateOf p0.toNatClampNeg)), (2, .int (v_dreamOf p0.toNatClampNeg)), (0, .ref h), (1, .int p0)]) hx hb dX4_follow_144 hl (by decide) rfl (fun ls hl => ?_)
            refine lv_goto (pc := 146) (tgt := 161) hx hb dX4_follow_146 (by decide) ?_
            exact hj161 1 v_stateOf v_roomOf v_how v_thingIn v_full v_handOf v_heardBy v_awake v_passed hf _ _ _ (lv_sub hl [4, 5, 3, 2, 0] rfl) hP hD hS
          · replace hf := it_f c_39_4 hf
            by_cases c_39_5 : r_36 = 5
            · replace hf := it_t c_39_5 hf
              refine lv_tableIn (pc := 39) (off := 110) (tgt := 149) hx hb dX4_follow_39 (by rw [c_39_5]; decide) (by rw [c_39_5]; decide) (by rw [c_39_5]; rfl) (by decide) ?_
              refine lv_aload_n (pc := 149) hx hb dX4_follow_149 rfl (lv_at hl 4 rfl) ?_
              refine lv_iload_n (pc := 150) hx hb dX4_follow_150 rfl (lv_at hl 5 rfl) ?_
              refine lv_iload (pc := 151) hx hb dX4_follow_151 (lv_at hl 1 rfl) ?_
              obtain ⟨r_153, v_how_153, hc_153, hf⟩ := bd2 hf
              refine r_dalVi (pc := 153) (ws' := (wX4_follow E h h_inn h_ways h_how h_passed h_dreamOf h_stateOf h_roomOf h_handOf h_awake h_thingIn h_full h_heardBy h_inn_house h_inn_thingIn h_inn_full h_inn_states h_inn_bed h_inn_dreamOf h_inn_listensIn h_inn_house_creak h_inn_house_cold h_inn_house_one h_inn_house_other h_inn_house_how h_inn_house_falls h_inn_house_ways h_ways_steps h_inn_house_ways_steps v_setting v_been v_dreamOf v_stateOf v_inn_minutes v_inn_things v_inn_dreams v_inn_sleepers v_inn_listeners v_inn_states v_roomOf v_inn_house_rooms v_inn_house_doors v_inn_house_one v_inn_house_other v_how_153 v_thingIn v_full v_handOf v_ways_rooms v_ways_steps v_inn_house_creak v_inn_listensIn v_inn_house_ways_rooms v_inn_house_ways_steps v_heardBy v_inn_house_cold v_awake v_inn_house_falls v_passed)) (As := [.int p0, .int r_21]) (rest := []) C (ctX4_shuts l E h h_inn h_ways h_how h_passed h_dreamOf h_stateOf h_roomOf h_handOf h_awake h_thingIn h_full h_heardBy h_inn_house h_inn_thingIn h_inn_full h_inn_states h_inn_bed h_inn_dreamOf h_inn_listensIn h_inn_house_creak h_inn_house_cold h_inn_house_one h_inn_house_other h_inn_house_how h_inn_house_falls h_inn_house_ways v_setting v_been v_inn_minutes v_inn_things v_inn_dreams v_inn_sleepers v_inn_listeners v_roomOf v_inn_house_rooms v_inn_house_doors v_inn_house_one v_inn_house_other v_how N p0 r_21 (r_153, v_how_153) hc_153) ml_X4_135 ⟨Nat.le_of_ble_eq_true rfl, Nat.le_of_ble_eq_true rfl⟩ hP hD hS 0 rfl rfl rfl [0, 3, 5, 6, 7, 8, 9] [24, 1, 2, 25, 4, 26, 27, 28, 29, 30, 10, 11, 12, 13, 14, 15, 16, 17, 18, 19, 20, 21, 22, 23] 24 rfl rfl rfl rfl rfl rfl rfl hl.1 rfl (Nat.le_of_ble_eq_true rfl) ⟨Nat.zero_le _, Nat.zero_le _⟩ dX4_follow_153 ?_
              clear hP hD hS; intro H locs hP hD hS
              refine lv_istore (pc := 156) (lv' := [(5, .int r_153), (4, .int r_21), (3, .int (v_stateOf p0.toNatClampNeg)), (2, .int (v_dreamOf p0.toNatClampNeg)), (0, .ref h), (1, .int p0)]) hx hb dX4_follow_156 hl (by decide) rfl (fun ls hl => ?_)
              refine lv_goto (pc := 158) (tgt := 161) hx hb dX4_follow_158 (by decide) ?_
              exact hj161 r_153 v_stateOf v_roomOf v_how_153 v_thingIn v_full v_handOf v_heardBy v_awake v_passed hf _ _ _ (lv_sub hl [4, 5, 3, 2, 0] rfl) hP hD hS
            · replace hf := it_f c_39_5 hf
              refine lv_tableOut (pc := 39) (tgt := 161) hx hb dX4_follow_39 (by have g0 := lv_neT (a := 0) c_39_0 (by decide); have g1 := lv_neT (a := 1) c_39_1 (by decide); have g2 := lv_neT (a := 2) c_39_2 (by decide); have g3 := lv_neT (a := 3) c_39_3 (by decide); have g4 := lv_neT (a := 4) c_39_4 (by decide); have g5 := lv_neT (a := 5) c_39_5 (by decide); omega) (by decide) ?_
              exact hj161 0 v_stateOf v_roomOf v_how v_thingIn v_full v_handOf v_heardBy v_awake v_passed hf _ _ _ (lv_sub hl [4, 5, 3, 2, 0] rfl) hP hD hS
def wX4_pass (E : EN) (h h_inn h_ways h_how h_passed h_dreamOf h_stateOf h_roomOf h_handOf h_awake h_thingIn h_full h_heardBy h_inn_house h_inn_thingIn h_inn_full h_inn_states h_inn_bed h_inn_dreamOf h_inn_listensIn h_inn_house_creak h_inn_house_cold h_inn_house_one h_inn_house_other h_inn_house_how h_inn_house_falls h_inn_house_ways h_ways_steps h_inn_house_ways_steps : Nat) (v_setting : Int32) (v_been : Int32) (v_inn_minutes : Int32) (v_inn_things : Int32) (v_inn_dreams : Int32) (v_inn_sleepers : Int32) (v_inn_listeners : Int32) (v_awake : Nat → Int32) (v_dreamOf : Nat → Int32) (v_stateOf : Nat → Int32) (v_inn_states : Nat → Int32) (v_roomOf : Nat → Int32) (v_inn_house_rooms : Int32) (v_inn_house_doors : Int32) (v_inn_house_one : Nat → Int32) (v_inn_house_other : Nat → Int32) (v_how : Nat → Int32) (v_thingIn : Nat → Int32) (v_full : Nat → Int32) (v_handOf : Nat → Int32) (v_ways_rooms : Int32) (v_ways_steps : Nat → Int32) (v_inn_house_creak : Nat → Int32) (v_inn_listensIn : Nat → Int32) (v_inn_house_ways_rooms : Int32) (v_inn_house_ways_steps : Nat → Int32) (v_heardBy : Nat → Int64) (v_inn_house_cold : Nat → Int32) (v_inn_house_falls : Nat → Int32) (v_passed : Nat → Int32) : va_W := [(h, .inr (4, [.ref h_inn, .int v_setting, .int v_been, .ref h_ways, .ref h_how, .ref h_passed, .ref h_dreamOf, .ref h_stateOf, .ref h_roomOf, .ref h_handOf, .ref h_awake, .ref h_thingIn, .ref h_full, .ref h_heardBy])), (h_inn, .inr (2, [.ref h_inn_house, .int v_inn_minutes, .int v_inn_things, .ref h_inn_thingIn, .ref h_inn_full, .int v_inn_dreams, .ref h_inn_states, .int v_inn_sleepers, .ref h_inn_bed, .ref h_inn_dreamOf, .int v_inn_listeners, .ref h_inn_listensIn])), (h_awake, aZ E 3 v_awake), (h_dreamOf, aI E 3 v_dreamOf), (h_stateOf, aI E 3 v_stateOf), (h_inn_states, aI E 64 v_inn_states), (h_roomOf, aI E 3 v_roomOf), (h_inn_house, .inr (1, [.int v_inn_house_rooms, .ref h_inn_house_creak, .ref h_inn_house_cold, .int v_inn_house_doors, .ref h_inn_house_one, .ref h_inn_house_other, .ref h_inn_house_how, .ref h_inn_house_falls, .ref h_inn_house_ways])), (h_inn_house_one, aI E 10 v_inn_house_one), (h_inn_house_other, aI E 10 v_inn_house_other), (h_how, aI E 10 v_how), (h_thingIn, aI E 4 v_thingIn), (h_full, aZ E 4 v_full), (h_handOf, aI E 3 v_handOf), (h_ways, .inr (8, [.ref h_ways_steps, .int v_ways_rooms])), (h_ways_steps, aI E 64 v_ways_steps), (h_inn_house_creak, aI E 8 v_inn_house_creak), (h_inn_listensIn, aI E 3 v_inn_listensIn), (h_inn_house_ways, .inr (8, [.ref h_inn_house_ways_steps, .int v_inn_house_ways_rooms])), (h_inn_house_ways_steps, aI E 64 v_inn_house_ways_steps), (h_heardBy, aJ E 3 v_heardBy), (h_inn_house_cold, aZ E 8 v_inn_house_cold), (h_inn_house_falls, aZ E 10 v_inn_house_falls), (h_passed, aI E 10 v_passed)]
def BX4_pass_19 (v_inn_sleepers : Int32) (N : Nat) (v_dreamOf : Nat → Int32) (v_inn_states : Nat → Int32) (x2_been : Int32) (v_inn_listeners : Int32) (v_inn_house_doors : Int32) (v_inn_house_one : Nat → Int32) (v_inn_house_other : Nat → Int32) (v_ways_rooms : Int32) (v_ways_steps : Nat → Int32) (v_inn_house_creak : Nat → Int32) (v_inn_listensIn : Nat → Int32) (v_inn_house_ways_steps : Nat → Int32) (v_inn_house_cold : Nat → Int32) (v_inn_house_falls : Nat → Int32) (K72 : ((Nat → Int32) × (Nat → Int32) × (Nat → Int32) × (Nat → Int32) × (Nat → Int32) × (Nat → Int32) × (Nat → Int32) × (Nat → Int64) × (Nat → Int32)) → Option (Int32 × Int32 × (Nat → Int32) × (Nat → Int32) × (Nat → Int32) × (Nat → Int32) × (Nat → Int32) × (Nat → Int32) × (Nat → Int32) × (Nat → Int64) × (Nat → Int32))) (rec19 : (Int32 × (Nat → Int32) × (Nat → Int32) × (Nat → Int32) × (Nat → Int32) × (Nat → Int32) × (Nat → Int32) × (Nat → Int32) × (Nat → Int64) × (Nat → Int32)) → Option (Int32 × Int32 × (Nat → Int32) × (Nat → Int32) × (Nat → Int32) × (Nat → Int32) × (Nat → Int32) × (Nat → Int32) × (Nat → Int32) × (Nat → Int64) × (Nat → Int32))) : (Int32 × (Nat → Int32) × (Nat → Int32) × (Nat → Int32) × (Nat → Int32) × (Nat → Int32) × (Nat → Int32) × (Nat → Int32) × (Nat → Int64) × (Nat → Int32)) → Option (Int32 × Int32 × (Nat → Int32) × (Nat → Int32) × (Nat → Int32) × (Nat → Int32) × (Nat → Int32) × (Nat → Int32) × (Nat → Int32) × (Nat → Int64) × (Nat → Int32)) := un10 fun (x19_3 : Int32) (x19_awake : Nat → Int32) (x19_stateOf : Nat → Int32) (x19_roomOf : Nat → Int32) (x19_how : Nat → Int32) (x19_thingIn : Nat → Int32) (x19_full : Nat → Int32) (x19_handOf : Nat → Int32) (x19_heardBy : Nat → Int64) (x19_passed : Nat → Int32) => if v_inn_sleepers ≤ x19_3 then (K72 (x19_awake, x19_stateOf, x19_roomOf, x19_how, x19_thingIn, x19_full, x19_handOf, x19_heardBy, x19_passed)) else (gd x19_3 3 (jn (un9 fun (x66_awake : Nat → Int32) (x66_stateOf : Nat → Int32) (x66_roomOf : Nat → Int32) (x66_how : Nat → Int32) (x66_thingIn : Nat → Int32) (x66_full : Nat → Int32) (x66_handOf : Nat → Int32) (x66_heardBy : Nat → Int64) (x66_passed : Nat → Int32) => rec19 (x19_3 + 1, x66_awake, x66_stateOf, x66_roomOf, x66_how, x66_thingIn, x66_full, x66_handOf, x66_heardBy, x66_passed)) (fun j66 => if (x19_awake x19_3.toNatClampNeg) = 0 then (gd x19_3 3 (gd x19_3 3 ((fX2_isTold N (v_dreamOf x19_3.toNatClampNeg) (x19_stateOf x19_3.toNatClampNeg) v_inn_states).bind (un1 fun (r_55 : Int32) => if r_55 = 0 then (j66 (x19_awake, x19_stateOf, x19_roomOf, x19_how, x19_thingIn, x19_full, x19_handOf, x19_heardBy, x19_passed)) else ((fX4_follow N x19_3 (x2_been + 1) v_dreamOf x19_stateOf v_inn_sleepers v_inn_listeners v_inn_states x19_roomOf v_inn_house_doors v_inn_house_one v_inn_house_other x19_how x19_thingIn x19_full x19_handOf v_ways_rooms v_ways_steps v_inn_house_creak v_inn_listensIn v_inn_house_ways_steps x19_heardBy v_inn_house_cold x19_awake v_inn_house_falls x19_passed).bind (un9 fun (v_stateOf_63 : Nat → Int32) (v_roomOf_63 : Nat → Int32) (v_how_63 : Nat → Int32) (v_thingIn_63 : Nat → Int32) (v_full_63 : Nat → Int32) (v_handOf_63 : Nat → Int32) (v_heardBy_63 : Nat → Int64) (v_awake_63 : Nat → Int32) (v_passed_63 : Nat → Int32) => j66 (v_awake_63, v_stateOf_63, v_roomOf_63, v_how_63, v_thingIn_63, v_full_63, v_handOf_63, v_heardBy_63, v_passed_63))))))) else (j66 (x19_awake, x19_stateOf, x19_roomOf, x19_how, x19_thingIn, x19_full, x19_handOf, x19_heardBy, x19_passed)))))
def BX4_pass_2 (p0 : Int32) (v_inn_sleepers : Int32) (N : Nat) (v_dreamOf : Nat → Int32) (v_inn_states : Nat → Int32) (v_inn_listeners : Int32) (v_inn_house_doors : Int32) (v_inn_house_one : Nat → Int32) (v_inn_house_other : Nat → Int32) (v_ways_rooms : Int32) (v_ways_steps : Nat → Int32) (v_inn_house_creak : Nat → Int32) (v_inn_listensIn : Nat → Int32) (v_inn_house_ways_steps : Nat → Int32) (v_inn_house_cold : Nat → Int32) (v_inn_house_falls : Nat → Int32) (rec2 : (Int32 × Int32 × (Nat → Int32) × (Nat → Int32) × (Nat → Int32) × (Nat → Int32) × (Nat → Int32) × (Nat → Int32) × (Nat → Int32) × (Nat → Int64) × (Nat → Int32)) → Option (Int32 × Int32 × (Nat → Int32) × (Nat → Int32) × (Nat → Int32) × (Nat → Int32) × (Nat → Int32) × (Nat → Int32) × (Nat → Int32) × (Nat → Int64) × (Nat → Int32))) : (Int32 × Int32 × (Nat → Int32) × (Nat → Int32) × (Nat → Int32) × (Nat → Int32) × (Nat → Int32) × (Nat → Int32) × (Nat → Int32) × (Nat → Int64) × (Nat → Int32)) → Option (Int32 × Int32 × (Nat → Int32) × (Nat → Int32) × (Nat → Int32) × (Nat → Int32) × (Nat → Int32) × (Nat → Int32) × (Nat → Int32) × (Nat → Int64) × (Nat → Int32)) := un11 fun (x2_2 : Int32) (x2_been : Int32) (x2_awake : Nat → Int32) (x2_stateOf : Nat → Int32) (x2_roomOf : Nat → Int32) (x2_how : Nat → Int32) (x2_thingIn : Nat → Int32) (x2_full : Nat → Int32) (x2_handOf : Nat → Int32) (x2_heardBy : Nat → Int64) (x2_passed : Nat → Int32) => if p0 ≤ x2_2 then (some (p0, x2_been, x2_awake, x2_stateOf, x2_roomOf, x2_how, x2_thingIn, x2_full, x2_handOf, x2_heardBy, x2_passed)) else (lp (BX4_pass_19 v_inn_sleepers N v_dreamOf v_inn_states x2_been v_inn_listeners v_inn_house_doors v_inn_house_one v_inn_house_other v_ways_rooms v_ways_steps v_inn_house_creak v_inn_listensIn v_inn_house_ways_steps v_inn_house_cold v_inn_house_falls (un9 fun (x72_awake : Nat → Int32) (x72_stateOf : Nat → Int32) (x72_roomOf : Nat → Int32) (x72_how : Nat → Int32) (x72_thingIn : Nat → Int32) (x72_full : Nat → Int32) (x72_handOf : Nat → Int32) (x72_heardBy : Nat → Int64) (x72_passed : Nat → Int32) => rec2 (x2_2 + 1, x2_been + 1, x72_awake, x72_stateOf, x72_roomOf, x72_how, x72_thingIn, x72_full, x72_handOf, x72_heardBy, x72_passed))) N (0, x2_awake, x2_stateOf, x2_roomOf, x2_how, x2_thingIn, x2_full, x2_handOf, x2_heardBy, x2_passed))
def fX4_pass (N : Nat) (p0 : Int32) (v_been : Int32) (v_inn_sleepers : Int32) (v_inn_listeners : Int32) (v_awake : Nat → Int32) (v_dreamOf : Nat → Int32) (v_stateOf : Nat → Int32) (v_inn_states : Nat → Int32) (v_roomOf : Nat → Int32) (v_inn_house_doors : Int32) (v_inn_house_one : Nat → Int32) (v_inn_house_other : Nat → Int32) (v_how : Nat → Int32) (v_thingIn : Nat → Int32) (v_full : Nat → Int32) (v_handOf : Nat → Int32) (v_ways_rooms : Int32) (v_ways_steps : Nat → Int32) (v_inn_house_creak : Nat → Int32) (v_inn_listensIn : Nat → Int32) (v_inn_house_ways_steps : Nat → Int32) (v_heardBy : Nat → Int64) (v_inn_house_cold : Nat → Int32) (v_inn_house_falls : Nat → Int32) (v_passed : Nat → Int32) : Option (Int32 × Int32 × (Nat → Int32) × (Nat → Int32) × (Nat → Int32) × (Nat → Int32) × (Nat → Int32) × (Nat → Int32) × (Nat → Int32) × (Nat → Int64) × (Nat → Int32)) := lp (BX4_pass_2 p0 v_inn_sleepers N v_dreamOf v_inn_states v_inn_listeners v_inn_house_doors v_inn_house_one v_inn_house_other v_ways_rooms v_ways_steps v_inn_house_creak v_inn_listensIn v_inn_house_ways_steps v_inn_house_cold v_inn_house_falls) N (0, v_been, v_awake, v_stateOf, v_roomOf, v_how, v_thingIn, v_full, v_handOf, v_heardBy, v_passed)
set_option maxHeartbeats 4000000 in
set_option maxRecDepth 100000 in
theorem ctX4_pass (l : Launch) (E : EN) (h h_inn h_ways h_how h_passed h_dreamOf h_stateOf h_roomOf h_handOf h_awake h_thingIn h_full h_heardBy h_inn_house h_inn_thingIn h_inn_full h_inn_states h_inn_bed h_inn_dreamOf h_inn_listensIn h_inn_house_creak h_inn_house_cold h_inn_house_one h_inn_house_other h_inn_house_how h_inn_house_falls h_inn_house_ways h_ways_steps h_inn_house_ways_steps : Nat) (v_setting : Int32) (v_been : Int32) (v_inn_minutes : Int32) (v_inn_things : Int32) (v_inn_dreams : Int32) (v_inn_sleepers : Int32) (v_inn_listeners : Int32) (v_awake : Nat → Int32) (v_dreamOf : Nat → Int32) (v_stateOf : Nat → Int32) (v_inn_states : Nat → Int32) (v_roomOf : Nat → Int32) (v_inn_house_rooms : Int32) (v_inn_house_doors : Int32) (v_inn_house_one : Nat → Int32) (v_inn_house_other : Nat → Int32) (v_how : Nat → Int32) (v_thingIn : Nat → Int32) (v_full : Nat → Int32) (v_handOf : Nat → Int32) (v_ways_rooms : Int32) (v_ways_steps : Nat → Int32) (v_inn_house_creak : Nat → Int32) (v_inn_listensIn : Nat → Int32) (v_inn_house_ways_rooms : Int32) (v_inn_house_ways_steps : Nat → Int32) (v_heardBy : Nat → Int64) (v_inn_house_cold : Nat → Int32) (v_inn_house_falls : Nat → Int32) (v_passed : Nat → Int32) (N : Nat) (p0 : Int32) (z : Int32 × Int32 × (Nat → Int32) × (Nat → Int32) × (Nat → Int32) × (Nat → Int32) × (Nat → Int32) × (Nat → Int32) × (Nat → Int32) × (Nat → Int64) × (Nat → Int32)) (hf : fX4_pass N p0 v_been v_inn_sleepers v_inn_listeners v_awake v_dreamOf v_stateOf v_inn_states v_roomOf v_inn_house_doors v_inn_house_one v_inn_house_other v_how v_thingIn v_full v_handOf v_ways_rooms v_ways_steps v_inn_house_creak v_inn_listensIn v_inn_house_ways_steps v_heardBy v_inn_house_cold v_inn_house_falls v_passed = some z) : CTi l E yX4_pass cX4_pass 4 .int 4 96 [.ref h, .int p0] (wX4_pass E h h_inn h_ways h_how h_passed h_dreamOf h_stateOf h_roomOf h_handOf h_awake h_thingIn h_full h_heardBy h_inn_house h_inn_thingIn h_inn_full h_inn_states h_inn_bed h_inn_dreamOf h_inn_listensIn h_inn_house_creak h_inn_house_cold h_inn_house_one h_inn_house_other h_inn_house_how h_inn_house_falls h_inn_house_ways h_ways_steps h_inn_house_ways_steps v_setting v_been v_inn_minutes v_inn_things v_inn_dreams v_inn_sleepers v_inn_listeners v_awake v_dreamOf v_stateOf v_inn_states v_roomOf v_inn_house_rooms v_inn_house_doors v_inn_house_one v_inn_house_other v_how v_thingIn v_full v_handOf v_ways_rooms v_ways_steps v_inn_house_creak v_inn_listensIn v_inn_house_ways_rooms v_inn_house_ways_steps v_heardBy v_inn_house_cold v_inn_house_falls v_passed) (z.1) (wX4_pass E h h_inn h_ways h_how h_passed h_dreamOf h_stateOf h_roomOf h_handOf h_awake h_thingIn h_full h_heardBy h_inn_house h_inn_thingIn h_inn_full h_inn_states h_inn_bed h_inn_dreamOf h_inn_listensIn h_inn_house_creak h_inn_house_cold h_inn_house_one h_inn_house_other h_inn_house_how h_inn_house_falls h_inn_house_ways h_ways_steps h_inn_house_ways_steps v_setting z.2.1 v_inn_minutes v_inn_things v_inn_dreams v_inn_sleepers v_inn_listeners z.2.2.1 v_dreamOf z.2.2.2.1 v_inn_states z.2.2.2.2.1 v_inn_house_rooms v_inn_house_doors v_inn_house_one v_inn_house_other z.2.2.2.2.2.1 z.2.2.2.2.2.2.1 z.2.2.2.2.2.2.2.1 z.2.2.2.2.2.2.2.2.1 v_ways_rooms v_ways_steps v_inn_house_creak v_inn_listensIn v_inn_house_ways_rooms v_inn_house_ways_steps z.2.2.2.2.2.2.2.2.2.1 v_inn_house_cold v_inn_house_falls z.2.2.2.2.2.2.2.2.2.2) := by
  intro sz
  refine ct_body (by decide) (Nat.le_of_ble_eq_true rfl) ?_
  intro p e s m args below meth c A ls hAe C hr hin hP hD hS hl
  have C : CX p s m args meth c cX4_pass RX4 4 E A := C
  have hl : lv_has ls 4 [(0, .ref h), (1, .int p0)] := hl
  have hx := C.1
  have hb := C.2.1
  rw [hAe]
  clear hAe
  obtain ⟨Q, hQ⟩ : ∃ Q, Q = MQ below (Qi E A (z.1) (wX4_pass E h h_inn h_ways h_how h_passed h_dreamOf h_stateOf h_roomOf h_handOf h_awake h_thingIn h_full h_heardBy h_inn_house h_inn_thingIn h_inn_full h_inn_states h_inn_bed h_inn_dreamOf h_inn_listensIn h_inn_house_creak h_inn_house_cold h_inn_house_one h_inn_house_other h_inn_house_how h_inn_house_falls h_inn_house_ways h_ways_steps h_inn_house_ways_steps v_setting z.2.1 v_inn_minutes v_inn_things v_inn_dreams v_inn_sleepers v_inn_listeners z.2.2.1 v_dreamOf z.2.2.2.1 v_inn_states z.2.2.2.2.1 v_inn_house_rooms v_inn_house_doors v_inn_house_one v_inn_house_other z.2.2.2.2.2.1 z.2.2.2.2.2.2.1 z.2.2.2.2.2.2.2.1 z.2.2.2.2.2.2.2.2.1 v_ways_rooms v_ways_steps v_inn_house_creak v_inn_listensIn v_inn_house_ways_rooms v_inn_house_ways_steps z.2.2.2.2.2.2.2.2.2.1 v_inn_house_cold v_inn_house_falls z.2.2.2.2.2.2.2.2.2.2)) args s 0 0 A := ⟨_, rfl⟩
  rw [← hQ]
  unfold fX4_pass at hf
  refine lv_iconst (pc := 0) (v := 0) hx hb dX4_pass_0 (by decide) ?_
  refine lv_istore_n (pc := 1) (lv' := [(2, .int 0), (0, .ref h), (1, .int p0)]) hx hb dX4_pass_1 rfl hl (by decide) rfl (fun ls hl => ?_)
  have key2 : ∀ (n : Nat) (x2_2 : Int32) (x2_been : Int32) (x2_awake : Nat → Int32) (x2_stateOf : Nat → Int32) (x2_roomOf : Nat → Int32) (x2_how : Nat → Int32) (x2_thingIn : Nat → Int32) (x2_full : Nat → Int32) (x2_handOf : Nat → Int32) (x2_heardBy : Nat → Int64) (x2_passed : Nat → Int32) , lp (BX4_pass_2 p0 v_inn_sleepers N v_dreamOf v_inn_states v_inn_listeners v_inn_house_doors v_inn_house_one v_inn_house_other v_ways_rooms v_ways_steps v_inn_house_creak v_inn_listensIn v_inn_house_ways_steps v_inn_house_cold v_inn_house_falls) n (x2_2, x2_been, x2_awake, x2_stateOf, x2_roomOf, x2_how, x2_thingIn, x2_full, x2_handOf, x2_heardBy, x2_passed) = some z → AT p l e (rmOf 4 96) s m args below meth c E A Q 0 0 4 [(0, .ref h), (1, .int p0), (2, .int x2_2)] (wX4_pass E h h_inn h_ways h_how h_passed h_dreamOf h_stateOf h_roomOf h_handOf h_awake h_thingIn h_full h_heardBy h_inn_house h_inn_thingIn h_inn_full h_inn_states h_inn_bed h_inn_dreamOf h_inn_listensIn h_inn_house_creak h_inn_house_cold h_inn_house_one h_inn_house_other h_inn_house_how h_inn_house_falls h_inn_house_ways h_ways_steps h_inn_house_ways_steps v_setting x2_been v_inn_minutes v_inn_things v_inn_dreams v_inn_sleepers v_inn_listeners x2_awake v_dreamOf x2_stateOf v_inn_states x2_roomOf v_inn_house_rooms v_inn_house_doors v_inn_house_one v_inn_house_other x2_how x2_thingIn x2_full x2_handOf v_ways_rooms v_ways_steps v_inn_house_creak v_inn_listensIn v_inn_house_ways_rooms v_inn_house_ways_steps x2_heardBy v_inn_house_cold v_inn_house_falls x2_passed) 2 [] := by
    intro n
    induction n with
    | zero => intro x2_2 x2_been x2_awake x2_stateOf x2_roomOf x2_how x2_thingIn x2_full x2_handOf x2_heardBy x2_passed hf; exact (lp_0 hf).elim
    | succ n ih2 =>
      intro x2_2 x2_been x2_awake x2_stateOf x2_roomOf x2_how x2_thingIn x2_full x2_handOf x2_heardBy x2_passed hf H locs ls hl hP hD hS
      replace hf := lp_s hf
      generalize lp (BX4_pass_2 p0 v_inn_sleepers N v_dreamOf v_inn_states v_inn_listeners v_inn_house_doors v_inn_house_one v_inn_house_other v_ways_rooms v_ways_steps v_inn_house_creak v_inn_listensIn v_inn_house_ways_steps v_inn_house_cold v_inn_house_falls) n = rec2 at ih2 hf
      unfold BX4_pass_2 at hf
      replace hf := un11_s hf
      refine lv_iload_n (pc := 2) hx hb dX4_pass_2 rfl (lv_at hl 2 rfl) ?_
      refine lv_iload_n (pc := 3) hx hb dX4_pass_3 rfl (lv_at hl 1 rfl) ?_
      refine lv_icmp_ge (pc := 4) (tgt := 78) hx hb dX4_pass_4 (by decide) (fun c_4 => ?_) (fun c_4 => ?_)
      · replace hf := it_t c_4 hf
        refine lv_iload_n (pc := 78) hx hb dX4_pass_78 rfl (lv_at hl 1 rfl) ?_
        cases hf
        rw [hQ]
        exact r_iret C hr hP hD hS rfl dX4_pass_79
      · replace hf := it_f c_4 hf
        refine lv_aload_n (pc := 7) hx hb dX4_pass_7 rfl (lv_at hl 0 rfl) ?_
        refine lv_dup (pc := 8) hx hb dX4_pass_8 rfl ?_
        refine r_get (pc := 9) C hP 0 rfl fl_X4_73 rfl dX4_pass_9 ?_
        refine lv_iconst (pc := 12) (v := 1) hx hb dX4_pass_12 (by decide) ?_
        refine lv_iadd (pc := 13) hx hb dX4_pass_13 ?_
        refine r_put (pc := 14) (ws' := (wX4_pass E h h_inn h_ways h_how h_passed h_dreamOf h_stateOf h_roomOf h_handOf h_awake h_thingIn h_full h_heardBy h_inn_house h_inn_thingIn h_inn_full h_inn_states h_inn_bed h_inn_dreamOf h_inn_listensIn h_inn_house_creak h_inn_house_cold h_inn_house_one h_inn_house_other h_inn_house_how h_inn_house_falls h_inn_house_ways h_ways_steps h_inn_house_ways_steps v_setting (x2_been + 1) v_inn_minutes v_inn_things v_inn_dreams v_inn_sleepers v_inn_listeners x2_awake v_dreamOf x2_stateOf v_inn_states x2_roomOf v_inn_house_rooms v_inn_house_doors v_inn_house_one v_inn_house_other x2_how x2_thingIn x2_full x2_handOf v_ways_rooms v_ways_steps v_inn_house_creak v_inn_listensIn v_inn_house_ways_rooms v_inn_house_ways_steps x2_heardBy v_inn_house_cold v_inn_house_falls x2_passed)) C hP hD hS 0 rfl fl_X4_73 rfl rfl (Nat.le_of_ble_eq_true rfl) rfl dX4_pass_14 ?_
        clear hP hD hS; intro H locs hP hD hS
        refine lv_iconst (pc := 17) (v := 0) hx hb dX4_pass_17 (by decide) ?_
        refine lv_istore_n (pc := 18) (lv' := [(3, .int 0), (0, .ref h), (1, .int p0), (2, .int x2_2)]) hx hb dX4_pass_18 rfl hl (by decide) rfl (fun ls hl => ?_)
        refine lpK hf (fun K72 eK72 hf => ?_)
        have hK72 : ∀ (x72_awake : Nat → Int32) (x72_stateOf : Nat → Int32) (x72_roomOf : Nat → Int32) (x72_how : Nat → Int32) (x72_thingIn : Nat → Int32) (x72_full : Nat → Int32) (x72_handOf : Nat → Int32) (x72_heardBy : Nat → Int64) (x72_passed : Nat → Int32) , K72 (x72_awake, x72_stateOf, x72_roomOf, x72_how, x72_thingIn, x72_full, x72_handOf, x72_heardBy, x72_passed) = some z → AT p l e (rmOf 4 96) s m args below meth c E A Q 0 0 4 [(0, .ref h), (1, .int p0), (2, .int x2_2)] (wX4_pass E h h_inn h_ways h_how h_passed h_dreamOf h_stateOf h_roomOf h_handOf h_awake h_thingIn h_full h_heardBy h_inn_house h_inn_thingIn h_inn_full h_inn_states h_inn_bed h_inn_dreamOf h_inn_listensIn h_inn_house_creak h_inn_house_cold h_inn_house_one h_inn_house_other h_inn_house_how h_inn_house_falls h_inn_house_ways h_ways_steps h_inn_house_ways_steps v_setting (x2_been + 1) v_inn_minutes v_inn_things v_inn_dreams v_inn_sleepers v_inn_listeners x72_awake v_dreamOf x72_stateOf v_inn_states x72_roomOf v_inn_house_rooms v_inn_house_doors v_inn_house_one v_inn_house_other x72_how x72_thingIn x72_full x72_handOf v_ways_rooms v_ways_steps v_inn_house_creak v_inn_listensIn v_inn_house_ways_rooms v_inn_house_ways_steps x72_heardBy v_inn_house_cold v_inn_house_falls x72_passed) 72 [] := by
          intro x72_awake x72_stateOf x72_roomOf x72_how x72_thingIn x72_full x72_handOf x72_heardBy x72_passed hf H locs ls hl hP hD hS
          rw [eK72] at hf
          replace hf := un9_s hf
          refine lv_iinc (pc := 72) (v := x2_2 + 1) (lv' := [(2, .int (x2_2 + 1)), (0, .ref h), (1, .int p0)]) hx hb dX4_pass_72 hl (k := 2) rfl rfl (by decide) rfl (fun ls hl => ?_)
          refine lv_goto (pc := 75) (tgt := 2) hx hb dX4_pass_75 (by decide) ?_
          exact ih2 (x2_2 + 1) (x2_been + 1) x72_awake x72_stateOf x72_roomOf x72_how x72_thingIn x72_full x72_handOf x72_heardBy x72_passed hf _ _ _ (lv_sub hl [1, 2, 0] rfl) hP hD hS
        clear eK72
        have key19 : ∀ (n : Nat) (x19_3 : Int32) (x19_awake : Nat → Int32) (x19_stateOf : Nat → Int32) (x19_roomOf : Nat → Int32) (x19_how : Nat → Int32) (x19_thingIn : Nat → Int32) (x19_full : Nat → Int32) (x19_handOf : Nat → Int32) (x19_heardBy : Nat → Int64) (x19_passed : Nat → Int32) , lp (BX4_pass_19 v_inn_sleepers N v_dreamOf v_inn_states x2_been v_inn_listeners v_inn_house_doors v_inn_house_one v_inn_house_other v_ways_rooms v_ways_steps v_inn_house_creak v_inn_listensIn v_inn_house_ways_steps v_inn_house_cold v_inn_house_falls K72) n (x19_3, x19_awake, x19_stateOf, x19_roomOf, x19_how, x19_thingIn, x19_full, x19_handOf, x19_heardBy, x19_passed) = some z → AT p l e (rmOf 4 96) s m args below meth c E A Q 0 0 4 [(0, .ref h), (1, .int p0), (2, .int x2_2), (3, .int x19_3)] (wX4_pass E h h_inn h_ways h_how h_passed h_dreamOf h_stateOf h_roomOf h_handOf h_awake h_thingIn h_full h_heardBy h_inn_house h_inn_thingIn h_inn_full h_inn_states h_inn_bed h_inn_dreamOf h_inn_listensIn h_inn_house_creak h_inn_house_cold h_inn_house_one h_inn_house_other h_inn_house_how h_inn_house_falls h_inn_house_ways h_ways_steps h_inn_house_ways_steps v_setting (x2_been + 1) v_inn_minutes v_inn_things v_inn_dreams v_inn_sleepers v_inn_listeners x19_awake v_dreamOf x19_stateOf v_inn_states x19_roomOf v_inn_house_rooms v_inn_house_doors v_inn_house_one v_inn_house_other x19_how x19_thingIn x19_full x19_handOf v_ways_rooms v_ways_steps v_inn_house_creak v_inn_listensIn v_inn_house_ways_rooms v_inn_house_ways_steps x19_heardBy v_inn_house_cold v_inn_house_falls x19_passed) 19 [] := by
          intro n
          induction n with
          | zero => intro x19_3 x19_awake x19_stateOf x19_roomOf x19_how x19_thingIn x19_full x19_handOf x19_heardBy x19_passed hf; exact (lp_0 hf).elim
          | succ n ih19 =>
            intro x19_3 x19_awake x19_stateOf x19_roomOf x19_how x19_thingIn x19_full x19_handOf x19_heardBy x19_passed hf H locs ls hl hP hD hS
            replace hf := lp_s hf
            generalize lp (BX4_pass_19 v_inn_sleepers N v_dreamOf v_inn_states x2_been v_inn_listeners v_inn_house_doors v_inn_house_one v_inn_house_other v_ways_rooms v_ways_steps v_inn_house_creak v_inn_listensIn v_inn_house_ways_steps v_inn_house_cold v_inn_house_falls K72) n = rec19 at ih19 hf
            unfold BX4_pass_19 at hf
            replace hf := un10_s hf
            refine lv_iload_n (pc := 19) hx hb dX4_pass_19 rfl (lv_at hl 3 rfl) ?_
            refine lv_aload_n (pc := 20) hx hb dX4_pass_20 rfl (lv_at hl 0 rfl) ?_
            refine r_get (pc := 21) C hP 0 rfl fl_X4_51 rfl dX4_pass_21 ?_
            refine r_get (pc := 24) C hP 1 rfl fl_X4_85 rfl dX4_pass_24 ?_
            refine lv_icmp_ge (pc := 27) (tgt := 72) hx hb dX4_pass_27 (by decide) (fun c_27 => ?_) (fun c_27 => ?_)
            · replace hf := it_t c_27 hf
              exact hK72 x19_awake x19_stateOf x19_roomOf x19_how x19_thingIn x19_full x19_handOf x19_heardBy x19_passed hf _ _ _ (lv_sub hl [0, 1, 2] rfl) hP hD hS
            · replace hf := it_f c_27 hf
              refine lv_aload_n (pc := 30) hx hb dX4_pass_30 rfl (lv_at hl 0 rfl) ?_
              refine r_get (pc := 31) C hP 0 rfl fl_X4_37 rfl dX4_pass_31 ?_
              refine lv_iload_n (pc := 34) hx hb dX4_pass_34 rfl (lv_at hl 3 rfl) ?_
              obtain ⟨hi_35, hf⟩ := gd_s hf
              refine r_zald (pc := 35) C hP 2 rfl hi_35 dX4_pass_35 ?_
              refine jnK hf (fun j66 ej66 hf => ?_)
              have hj66 : ∀ (x66_awake : Nat → Int32) (x66_stateOf : Nat → Int32) (x66_roomOf : Nat → Int32) (x66_how : Nat → Int32) (x66_thingIn : Nat → Int32) (x66_full : Nat → Int32) (x66_handOf : Nat → Int32) (x66_heardBy : Nat → Int64) (x66_passed : Nat → Int32) , j66 (x66_awake, x66_stateOf, x66_roomOf, x66_how, x66_thingIn, x66_full, x66_handOf, x66_heardBy, x66_passed) = some z → AT p l e (rmOf 4 96) s m args below meth c E A Q 0 0 4 [(0, .ref h), (1, .int p0), (2, .int x2_2), (3, .int x19_3)] (wX4_pass E h h_inn h_ways h_how h_passed h_dreamOf h_stateOf h_roomOf h_handOf h_awake h_thingIn h_full h_heardBy h_inn_house h_inn_thingIn h_inn_full h_inn_states h_inn_bed h_inn_dreamOf h_inn_listensIn h_inn_house_creak h_inn_house_cold h_inn_house_one h_inn_house_other h_inn_house_how h_inn_house_falls h_inn_house_ways h_ways_steps h_inn_house_ways_steps v_setting (x2_been + 1) v_inn_minutes v_inn_things v_inn_dreams v_inn_sleepers v_inn_listeners x66_awake v_dreamOf x66_stateOf v_inn_states x66_roomOf v_inn_house_rooms v_inn_house_doors v_inn_house_one v_inn_house_other x66_how x66_thingIn x66_full x66_handOf v_ways_rooms v_ways_steps v_inn_house_creak v_inn_listensIn v_inn_house_ways_rooms v_inn_house_ways_steps x66_heardBy v_inn_house_cold v_inn_house_falls x66_passed) 66 [] := by
                intro x66_awake x66_stateOf x66_roomOf x66_how x66_thingIn x66_full x66_handOf x66_heardBy x66_passed hf H locs ls hl hP hD hS
                rw [ej66] at hf
                replace hf := un9_s hf
                refine lv_iinc (pc := 66) (v := x19_3 + 1) (lv' := [(3, .int (x19_3 + 1)), (0, .ref h), (1, .int p0), (2, .int x2_2)]) hx hb dX4_pass_66 hl (k := 3) rfl rfl (by decide) rfl (fun ls hl => ?_)
                refine lv_goto (pc := 69) (tgt := 19) hx hb dX4_pass_69 (by decide) ?_
                exact ih19 (x19_3 + 1) x66_awake x66_stateOf x66_roomOf x66_how x66_thingIn x66_full x66_handOf x66_heardBy x66_passed hf _ _ _ (lv_sub hl [1, 2, 3, 0] rfl) hP hD hS
              clear ej66
              refine lv_if_ne (pc := 36) (tgt := 66) hx hb dX4_pass_36 (by decide) (fun c_36 => ?_) (fun c_36 => ?_)
              · replace hf := it_f c_36 hf
                exact hj66 x19_awake x19_stateOf x19_roomOf x19_how x19_thingIn x19_full x19_handOf x19_heardBy x19_passed hf _ _ _ (lv_sub hl [0, 1, 2, 3] rfl) hP hD hS
              · replace hf := it_t c_36 hf
                refine lv_aload_n (pc := 39) hx hb dX4_pass_39 rfl (lv_at hl 0 rfl) ?_
                refine r_get (pc := 40) C hP 0 rfl fl_X4_51 rfl dX4_pass_40 ?_
                refine lv_aload_n (pc := 43) hx hb dX4_pass_43 rfl (lv_at hl 0 rfl) ?_
                refine r_get (pc := 44) C hP 0 rfl fl_X4_25 rfl dX4_pass_44 ?_
                refine lv_iload_n (pc := 47) hx hb dX4_pass_47 rfl (lv_at hl 3 rfl) ?_
                obtain ⟨hi_48, hf⟩ := gd_s hf
                refine r_iald (pc := 48) C hP 3 rfl hi_48 dX4_pass_48 ?_
                refine lv_aload_n (pc := 49) hx hb dX4_pass_49 rfl (lv_at hl 0 rfl) ?_
                refine r_get (pc := 50) C hP 0 rfl fl_X4_28 rfl dX4_pass_50 ?_
                refine lv_iload_n (pc := 53) hx hb dX4_pass_53 rfl (lv_at hl 3 rfl) ?_
                obtain ⟨hi_54, hf⟩ := gd_s hf
                refine r_iald (pc := 54) C hP 4 rfl hi_54 dX4_pass_54 ?_
                obtain ⟨r_55, hc_55, hf⟩ := bd1 hf
                refine r_dalVi (pc := 55) (ws' := (wX4_pass E h h_inn h_ways h_how h_passed h_dreamOf h_stateOf h_roomOf h_handOf h_awake h_thingIn h_full h_heardBy h_inn_house h_inn_thingIn h_inn_full h_inn_states h_inn_bed h_inn_dreamOf h_inn_listensIn h_inn_house_creak h_inn_house_cold h_inn_house_one h_inn_house_other h_inn_house_how h_inn_house_falls h_inn_house_ways h_ways_steps h_inn_house_ways_steps v_setting (x2_been + 1) v_inn_minutes v_inn_things v_inn_dreams v_inn_sleepers v_inn_listeners x19_awake v_dreamOf x19_stateOf v_inn_states x19_roomOf v_inn_house_rooms v_inn_house_doors v_inn_house_one v_inn_house_other x19_how x19_thingIn x19_full x19_handOf v_ways_rooms v_ways_steps v_inn_house_creak v_inn_listensIn v_inn_house_ways_rooms v_inn_house_ways_steps x19_heardBy v_inn_house_cold v_inn_house_falls x19_passed)) (As := [.int (v_dreamOf x19_3.toNatClampNeg), .int (x19_stateOf x19_3.toNatClampNeg)]) (rest := []) C (ctX2_isTold l E h_inn h_inn_house h_inn_thingIn h_inn_full h_inn_states h_inn_bed h_inn_dreamOf h_inn_listensIn v_inn_minutes v_inn_things v_inn_dreams v_inn_sleepers v_inn_listeners v_inn_states N (v_dreamOf x19_3.toNatClampNeg) (x19_stateOf x19_3.toNatClampNeg) r_55 hc_55) ml_X4_109 ⟨Nat.le_of_ble_eq_true rfl, Nat.le_of_ble_eq_true rfl⟩ hP hD hS 1 rfl rfl rfl [1, 5] [0, 24, 2, 3, 4, 25, 6, 7, 8, 9, 10, 11, 12, 13, 14, 15, 16, 17, 18, 19, 20, 21, 22, 23] 24 rfl rfl rfl rfl rfl rfl rfl hl.1 rfl (Nat.le_of_ble_eq_true rfl) ⟨Nat.zero_le _, Nat.zero_le _⟩ dX4_pass_55 ?_
                clear hP hD hS; intro H locs hP hD hS
                refine lv_if_eq (pc := 58) (tgt := 66) hx hb dX4_pass_58 (by decide) (fun c_58 => ?_) (fun c_58 => ?_)
                · replace hf := it_t c_58 hf
                  exact hj66 x19_awake x19_stateOf x19_roomOf x19_how x19_thingIn x19_full x19_handOf x19_heardBy x19_passed hf _ _ _ (lv_sub hl [0, 1, 2, 3] rfl) hP hD hS
                · replace hf := it_f c_58 hf
                  refine lv_aload_n (pc := 61) hx hb dX4_pass_61 rfl (lv_at hl 0 rfl) ?_
                  refine lv_iload_n (pc := 62) hx hb dX4_pass_62 rfl (lv_at hl 3 rfl) ?_
                  obtain ⟨v_stateOf_63, v_roomOf_63, v_how_63, v_thingIn_63, v_full_63, v_handOf_63, v_heardBy_63, v_awake_63, v_passed_63, hc_63, hf⟩ := bd9 hf
                  refine r_dalVv (pc := 63) (ws' := (wX4_pass E h h_inn h_ways h_how h_passed h_dreamOf h_stateOf h_roomOf h_handOf h_awake h_thingIn h_full h_heardBy h_inn_house h_inn_thingIn h_inn_full h_inn_states h_inn_bed h_inn_dreamOf h_inn_listensIn h_inn_house_creak h_inn_house_cold h_inn_house_one h_inn_house_other h_inn_house_how h_inn_house_falls h_inn_house_ways h_ways_steps h_inn_house_ways_steps v_setting (x2_been + 1) v_inn_minutes v_inn_things v_inn_dreams v_inn_sleepers v_inn_listeners v_awake_63 v_dreamOf v_stateOf_63 v_inn_states v_roomOf_63 v_inn_house_rooms v_inn_house_doors v_inn_house_one v_inn_house_other v_how_63 v_thingIn_63 v_full_63 v_handOf_63 v_ways_rooms v_ways_steps v_inn_house_creak v_inn_listensIn v_inn_house_ways_rooms v_inn_house_ways_steps v_heardBy_63 v_inn_house_cold v_inn_house_falls v_passed_63)) (As := [.int x19_3]) (rest := []) C (ctX4_follow l E h h_inn h_ways h_how h_passed h_dreamOf h_stateOf h_roomOf h_handOf h_awake h_thingIn h_full h_heardBy h_inn_house h_inn_thingIn h_inn_full h_inn_states h_inn_bed h_inn_dreamOf h_inn_listensIn h_inn_house_creak h_inn_house_cold h_inn_house_one h_inn_house_other h_inn_house_how h_inn_house_falls h_inn_house_ways h_ways_steps h_inn_house_ways_steps v_setting (x2_been + 1) v_dreamOf x19_stateOf v_inn_minutes v_inn_things v_inn_dreams v_inn_sleepers v_inn_listeners v_inn_states x19_roomOf v_inn_house_rooms v_inn_house_doors v_inn_house_one v_inn_house_other x19_how x19_thingIn x19_full x19_handOf v_ways_rooms v_ways_steps v_inn_house_creak v_inn_listensIn v_inn_house_ways_rooms v_inn_house_ways_steps x19_heardBy v_inn_house_cold x19_awake v_inn_house_falls x19_passed N x19_3 (v_stateOf_63, v_roomOf_63, v_how_63, v_thingIn_63, v_full_63, v_handOf_63, v_heardBy_63, v_awake_63, v_passed_63) hc_63) ml_X4_113 ⟨Nat.le_of_ble_eq_true rfl, Nat.le_of_ble_eq_true rfl⟩ hP hD hS 0 rfl rfl rfl [0, 3, 4, 1, 5, 6, 7, 8, 9, 10, 11, 12, 13, 14, 15, 16, 17, 18, 19, 20, 21, 2, 22, 23] [24, 27, 45, 25, 26, 28, 29, 30, 31, 32, 33, 34, 35, 36, 37, 38, 39, 40, 41, 42, 43, 44, 46, 47] 24 rfl rfl rfl rfl rfl rfl rfl hl.1 rfl (Nat.le_of_ble_eq_true rfl) ⟨Nat.zero_le _, Nat.zero_le _⟩ dX4_pass_63 ?_
                  clear hP hD hS; intro H locs hP hD hS
                  exact hj66 v_awake_63 v_stateOf_63 v_roomOf_63 v_how_63 v_thingIn_63 v_full_63 v_handOf_63 v_heardBy_63 v_passed_63 hf _ _ _ (lv_sub hl [0, 1, 2, 3] rfl) hP hD hS
        exact key19 _ 0 x2_awake x2_stateOf x2_roomOf x2_how x2_thingIn x2_full x2_handOf x2_heardBy x2_passed hf _ _ _ (lv_sub hl [1, 2, 3, 0] rfl) hP hD hS
  exact key2 _ 0 v_been v_awake v_stateOf v_roomOf v_how v_thingIn v_full v_handOf v_heardBy v_passed hf _ _ _ (lv_sub hl [1, 2, 0] rfl) hP hD hS
def wX3_keep (E : EN) (a1 a1_inn a1_ways a1_how a1_passed a1_dreamOf a1_stateOf a1_roomOf a1_handOf a1_awake a1_thingIn a1_full a1_heardBy h h_rows a1_inn_house a1_inn_thingIn a1_inn_full a1_inn_states a1_inn_bed a1_inn_dreamOf a1_inn_listensIn a1_inn_house_creak a1_inn_house_cold a1_inn_house_one a1_inn_house_other a1_inn_house_how a1_inn_house_falls a1_inn_house_ways : Nat) (v_a1_setting : Int32) (v_a1_been : Int32) (v_a1_heardBy : Nat → Int64) (v_rows : Nat → Int64) (v_a1_inn_minutes : Int32) (v_a1_inn_things : Int32) (v_a1_inn_dreams : Int32) (v_a1_inn_sleepers : Int32) (v_a1_inn_listeners : Int32) (v_a1_inn_house_rooms : Int32) (v_a1_inn_house_doors : Int32) (v_a1_roomOf : Nat → Int32) (v_a1_awake : Nat → Int32) (v_a1_how : Nat → Int32) (v_a1_thingIn : Nat → Int32) (v_a1_full : Nat → Int32) : va_W := [(a1, .inr (4, [.ref a1_inn, .int v_a1_setting, .int v_a1_been, .ref a1_ways, .ref a1_how, .ref a1_passed, .ref a1_dreamOf, .ref a1_stateOf, .ref a1_roomOf, .ref a1_handOf, .ref a1_awake, .ref a1_thingIn, .ref a1_full, .ref a1_heardBy])), (h, .inr (3, [.ref h_rows])), (a1_heardBy, aJ E 3 v_a1_heardBy), (h_rows, aJ E 256 v_rows), (a1_inn, .inr (2, [.ref a1_inn_house, .int v_a1_inn_minutes, .int v_a1_inn_things, .ref a1_inn_thingIn, .ref a1_inn_full, .int v_a1_inn_dreams, .ref a1_inn_states, .int v_a1_inn_sleepers, .ref a1_inn_bed, .ref a1_inn_dreamOf, .int v_a1_inn_listeners, .ref a1_inn_listensIn])), (a1_inn_house, .inr (1, [.int v_a1_inn_house_rooms, .ref a1_inn_house_creak, .ref a1_inn_house_cold, .int v_a1_inn_house_doors, .ref a1_inn_house_one, .ref a1_inn_house_other, .ref a1_inn_house_how, .ref a1_inn_house_falls, .ref a1_inn_house_ways])), (a1_roomOf, aI E 3 v_a1_roomOf), (a1_awake, aZ E 3 v_a1_awake), (a1_how, aI E 10 v_a1_how), (a1_thingIn, aI E 4 v_a1_thingIn), (a1_full, aZ E 4 v_a1_full)]
def BX3_keep_121 (v_a1_inn_sleepers : Int32) (p0 : Int32) (v_a1_heardBy : Nat → Int64) (v_rows : Nat → Int64) (N : Nat) (v_a1_awake : Nat → Int32) (v_a1_roomOf : Nat → Int32) (rec121 : (Int64 × Int32) → Option (Nat → Int64)) : (Int64 × Int32) → Option (Nat → Int64) := un2 fun (x121_4 : Int64) (x121_6 : Int32) => if v_a1_inn_sleepers ≤ x121_6 then (gd ((p0 * 4) + 3) 256 (some (vp_updL (va_cpy v_a1_heardBy v_rows (0 : Int32).toNatClampNeg (p0 * 4).toNatClampNeg (3 : Int32).toNatClampNeg) ((p0 * 4) + 3).toNatClampNeg x121_4))) else (gd x121_6 3 (gd x121_6 3 ((fX10_bit N (v_a1_awake x121_6.toNatClampNeg)).bind (un1 fun (r_151 : Int32) => rec121 (x121_4 ||| ((((2 * (v_a1_roomOf x121_6.toNatClampNeg)) + r_151).toInt64) <<< ((36 + (4 * x121_6)).toInt64 &&& 63)), x121_6 + 1)))))
def BX3_keep_76 (v_a1_inn_house_doors : Int32) (v_a1_how : Nat → Int32) (K118 : (Int64) → Option (Nat → Int64)) (rec76 : (Int64 × Int32) → Option (Nat → Int64)) : (Int64 × Int32) → Option (Nat → Int64) := un2 fun (x76_4 : Int64) (x76_6 : Int32) => if v_a1_inn_house_doors ≤ x76_6 then (K118 x76_4) else (gd x76_6 10 (rec76 (x76_4 ||| (((v_a1_how x76_6.toNatClampNeg).toInt64) <<< ((16 + (2 * x76_6)).toInt64 &&& 63)), x76_6 + 1)))
def BX3_keep_24 (v_a1_inn_things : Int32) (N : Nat) (v_a1_full : Nat → Int32) (v_a1_thingIn : Nat → Int32) (K73 : (Int64) → Option (Nat → Int64)) (rec24 : (Int64 × Int32) → Option (Nat → Int64)) : (Int64 × Int32) → Option (Nat → Int64) := un2 fun (x24_4 : Int64) (x24_6 : Int32) => if v_a1_inn_things ≤ x24_6 then (K73 x24_4) else (gd x24_6 4 (gd x24_6 4 ((fX10_bit N (v_a1_full x24_6.toNatClampNeg)).bind (un1 fun (r_54 : Int32) => rec24 (x24_4 ||| ((((2 * (v_a1_thingIn x24_6.toNatClampNeg)) + r_54).toInt64) <<< ((4 * x24_6).toInt64 &&& 63)), x24_6 + 1)))))
def fX3_keep (N : Nat) (p0 : Int32) (v_a1_heardBy : Nat → Int64) (v_rows : Nat → Int64) (v_a1_inn_things : Int32) (v_a1_inn_sleepers : Int32) (v_a1_inn_house_doors : Int32) (v_a1_roomOf : Nat → Int32) (v_a1_awake : Nat → Int32) (v_a1_how : Nat → Int32) (v_a1_thingIn : Nat → Int32) (v_a1_full : Nat → Int32) : Option (Nat → Int64) := cpg 0 (p0 * 4) 3 3 256 (lp (BX3_keep_24 v_a1_inn_things N v_a1_full v_a1_thingIn (un1 fun (x73_4 : Int64) => lp (BX3_keep_76 v_a1_inn_house_doors v_a1_how (un1 fun (x118_4 : Int64) => lp (BX3_keep_121 v_a1_inn_sleepers p0 v_a1_heardBy v_rows N v_a1_awake v_a1_roomOf) N (x118_4, 0))) N (x73_4, 0))) N (0, 0))
set_option maxHeartbeats 4000000 in
set_option maxRecDepth 100000 in
theorem ctX3_keep (l : Launch) (E : EN) (a1 a1_inn a1_ways a1_how a1_passed a1_dreamOf a1_stateOf a1_roomOf a1_handOf a1_awake a1_thingIn a1_full a1_heardBy h h_rows a1_inn_house a1_inn_thingIn a1_inn_full a1_inn_states a1_inn_bed a1_inn_dreamOf a1_inn_listensIn a1_inn_house_creak a1_inn_house_cold a1_inn_house_one a1_inn_house_other a1_inn_house_how a1_inn_house_falls a1_inn_house_ways : Nat) (v_a1_setting : Int32) (v_a1_been : Int32) (v_a1_heardBy : Nat → Int64) (v_rows : Nat → Int64) (v_a1_inn_minutes : Int32) (v_a1_inn_things : Int32) (v_a1_inn_dreams : Int32) (v_a1_inn_sleepers : Int32) (v_a1_inn_listeners : Int32) (v_a1_inn_house_rooms : Int32) (v_a1_inn_house_doors : Int32) (v_a1_roomOf : Nat → Int32) (v_a1_awake : Nat → Int32) (v_a1_how : Nat → Int32) (v_a1_thingIn : Nat → Int32) (v_a1_full : Nat → Int32) (N : Nat) (p0 : Int32) (z : Nat → Int64) (hf : fX3_keep N p0 v_a1_heardBy v_rows v_a1_inn_things v_a1_inn_sleepers v_a1_inn_house_doors v_a1_roomOf v_a1_awake v_a1_how v_a1_thingIn v_a1_full = some z) : CTv l E yX3_keep cX3_keep 7 1 26 [.ref h, .int p0, .ref a1] (wX3_keep E a1 a1_inn a1_ways a1_how a1_passed a1_dreamOf a1_stateOf a1_roomOf a1_handOf a1_awake a1_thingIn a1_full a1_heardBy h h_rows a1_inn_house a1_inn_thingIn a1_inn_full a1_inn_states a1_inn_bed a1_inn_dreamOf a1_inn_listensIn a1_inn_house_creak a1_inn_house_cold a1_inn_house_one a1_inn_house_other a1_inn_house_how a1_inn_house_falls a1_inn_house_ways v_a1_setting v_a1_been v_a1_heardBy v_rows v_a1_inn_minutes v_a1_inn_things v_a1_inn_dreams v_a1_inn_sleepers v_a1_inn_listeners v_a1_inn_house_rooms v_a1_inn_house_doors v_a1_roomOf v_a1_awake v_a1_how v_a1_thingIn v_a1_full) (wX3_keep E a1 a1_inn a1_ways a1_how a1_passed a1_dreamOf a1_stateOf a1_roomOf a1_handOf a1_awake a1_thingIn a1_full a1_heardBy h h_rows a1_inn_house a1_inn_thingIn a1_inn_full a1_inn_states a1_inn_bed a1_inn_dreamOf a1_inn_listensIn a1_inn_house_creak a1_inn_house_cold a1_inn_house_one a1_inn_house_other a1_inn_house_how a1_inn_house_falls a1_inn_house_ways v_a1_setting v_a1_been v_a1_heardBy z v_a1_inn_minutes v_a1_inn_things v_a1_inn_dreams v_a1_inn_sleepers v_a1_inn_listeners v_a1_inn_house_rooms v_a1_inn_house_doors v_a1_roomOf v_a1_awake v_a1_how v_a1_thingIn v_a1_full) := by
  intro sz
  refine ct_body (by decide) (Nat.le_of_ble_eq_true rfl) ?_
  intro p e s m args below meth c A ls hAe C hr hin hP hD hS hl
  have C : CX p s m args meth c cX3_keep RX3 7 E A := C
  have hl : lv_has ls 7 [(0, .ref h), (1, .int p0), (2, .ref a1)] := hl
  have hx := C.1
  have hb := C.2.1
  rw [hAe]
  clear hAe
  obtain ⟨Q, hQ⟩ : ∃ Q, Q = MQ below (Qv E A (wX3_keep E a1 a1_inn a1_ways a1_how a1_passed a1_dreamOf a1_stateOf a1_roomOf a1_handOf a1_awake a1_thingIn a1_full a1_heardBy h h_rows a1_inn_house a1_inn_thingIn a1_inn_full a1_inn_states a1_inn_bed a1_inn_dreamOf a1_inn_listensIn a1_inn_house_creak a1_inn_house_cold a1_inn_house_one a1_inn_house_other a1_inn_house_how a1_inn_house_falls a1_inn_house_ways v_a1_setting v_a1_been v_a1_heardBy z v_a1_inn_minutes v_a1_inn_things v_a1_inn_dreams v_a1_inn_sleepers v_a1_inn_listeners v_a1_inn_house_rooms v_a1_inn_house_doors v_a1_roomOf v_a1_awake v_a1_how v_a1_thingIn v_a1_full)) args s 0 0 A := ⟨_, rfl⟩
  rw [← hQ]
  unfold fX3_keep at hf
  refine lv_iload_n (pc := 0) hx hb dX3_keep_0 rfl (lv_at hl 1 rfl) ?_
  refine lv_iconst (pc := 1) (v := 4) hx hb dX3_keep_1 (by decide) ?_
  refine lv_imul (pc := 2) hx hb dX3_keep_2 ?_
  refine lv_istore_n (pc := 3) (lv' := [(3, .int (p0 * 4)), (0, .ref h), (1, .int p0), (2, .ref a1)]) hx hb dX3_keep_3 rfl hl (by decide) rfl (fun ls hl => ?_)
  refine lv_aload_n (pc := 4) hx hb dX3_keep_4 rfl (lv_at hl 3 rfl) ?_
  refine r_get (pc := 5) C hP 0 rfl fl_X3_15 rfl dX3_keep_5 ?_
  refine lv_iconst (pc := 8) (v := 0) hx hb dX3_keep_8 (by decide) ?_
  refine lv_aload_n (pc := 9) hx hb dX3_keep_9 rfl (lv_at hl 1 rfl) ?_
  refine r_get (pc := 10) C hP 1 rfl fl_X3_11 rfl dX3_keep_10 ?_
  refine lv_iload_n (pc := 13) hx hb dX3_keep_13 rfl (lv_at hl 0 rfl) ?_
  refine lv_iconst (pc := 14) (v := 3) hx hb dX3_keep_14 (by decide) ?_
  obtain ⟨hg_15, hf⟩ := cpg_s hf
  refine r_copyl (pc := 15) (ws' := (wX3_keep E a1 a1_inn a1_ways a1_how a1_passed a1_dreamOf a1_stateOf a1_roomOf a1_handOf a1_awake a1_thingIn a1_full a1_heardBy h h_rows a1_inn_house a1_inn_thingIn a1_inn_full a1_inn_states a1_inn_bed a1_inn_dreamOf a1_inn_listensIn a1_inn_house_creak a1_inn_house_cold a1_inn_house_one a1_inn_house_other a1_inn_house_how a1_inn_house_falls a1_inn_house_ways v_a1_setting v_a1_been v_a1_heardBy (va_cpy v_a1_heardBy v_rows (0 : Int32).toNatClampNeg (p0 * 4).toNatClampNeg (3 : Int32).toNatClampNeg) v_a1_inn_minutes v_a1_inn_things v_a1_inn_dreams v_a1_inn_sleepers v_a1_inn_listeners v_a1_inn_house_rooms v_a1_inn_house_doors v_a1_roomOf v_a1_awake v_a1_how v_a1_thingIn v_a1_full)) C sc_X3_20 (Nat.le_of_ble_eq_true rfl) (Nat.le_of_ble_eq_true rfl) hP hD hS hl.1 2 3 rfl rfl hg_15.1 hg_15.2.1 hg_15.2.2.1 hg_15.2.2.2.1 hg_15.2.2.2.2 rfl dX3_keep_15 ?_
  clear hP hD hS; intro H locs hP hD hS
  refine lv_lconst (pc := 18) (v := 0) hx hb dX3_keep_18 (by decide) ?_
  refine lv_lstore (pc := 19) (lv' := [(4, .long 0), (3, .int (p0 * 4)), (0, .ref h), (1, .int p0), (2, .ref a1)]) hx hb dX3_keep_19 hl (by decide) rfl (fun ls hl => ?_)
  refine lv_iconst (pc := 21) (v := 0) hx hb dX3_keep_21 (by decide) ?_
  refine lv_istore (pc := 22) (lv' := [(6, .int 0), (4, .long 0), (3, .int (p0 * 4)), (0, .ref h), (1, .int p0), (2, .ref a1)]) hx hb dX3_keep_22 hl (by decide) rfl (fun ls hl => ?_)
  refine lpK hf (fun K73 eK73 hf => ?_)
  have hK73 : ∀ (x73_4 : Int64) , K73 x73_4 = some z → AT p l e (rmOf 1 26) s m args below meth c E A Q 0 0 7 [(0, .ref h), (2, .ref a1), (3, .int (p0 * 4)), (4, .long x73_4)] (wX3_keep E a1 a1_inn a1_ways a1_how a1_passed a1_dreamOf a1_stateOf a1_roomOf a1_handOf a1_awake a1_thingIn a1_full a1_heardBy h h_rows a1_inn_house a1_inn_thingIn a1_inn_full a1_inn_states a1_inn_bed a1_inn_dreamOf a1_inn_listensIn a1_inn_house_creak a1_inn_house_cold a1_inn_house_one a1_inn_house_other a1_inn_house_how a1_inn_house_falls a1_inn_house_ways v_a1_setting v_a1_been v_a1_heardBy (va_cpy v_a1_heardBy v_rows (0 : Int32).toNatClampNeg (p0 * 4).toNatClampNeg (3 : Int32).toNatClampNeg) v_a1_inn_minutes v_a1_inn_things v_a1_inn_dreams v_a1_inn_sleepers v_a1_inn_listeners v_a1_inn_house_rooms v_a1_inn_house_doors v_a1_roomOf v_a1_awake v_a1_how v_a1_thingIn v_a1_full) 73 [] := by
    intro x73_4 hf H locs ls hl hP hD hS
    rw [eK73] at hf
    replace hf := un1_s hf
    refine lv_iconst (pc := 73) (v := 0) hx hb dX3_keep_73 (by decide) ?_
    refine lv_istore (pc := 74) (lv' := [(6, .int 0), (0, .ref h), (2, .ref a1), (3, .int (p0 * 4)), (4, .long x73_4)]) hx hb dX3_keep_74 hl (by decide) rfl (fun ls hl => ?_)
    refine lpK hf (fun K118 eK118 hf => ?_)
    have hK118 : ∀ (x118_4 : Int64) , K118 x118_4 = some z → AT p l e (rmOf 1 26) s m args below meth c E A Q 0 0 7 [(0, .ref h), (2, .ref a1), (3, .int (p0 * 4)), (4, .long x118_4)] (wX3_keep E a1 a1_inn a1_ways a1_how a1_passed a1_dreamOf a1_stateOf a1_roomOf a1_handOf a1_awake a1_thingIn a1_full a1_heardBy h h_rows a1_inn_house a1_inn_thingIn a1_inn_full a1_inn_states a1_inn_bed a1_inn_dreamOf a1_inn_listensIn a1_inn_house_creak a1_inn_house_cold a1_inn_house_one a1_inn_house_other a1_inn_house_how a1_inn_house_falls a1_inn_house_ways v_a1_setting v_a1_been v_a1_heardBy (va_cpy v_a1_heardBy v_rows (0 : Int32).toNatClampNeg (p0 * 4).toNatClampNeg (3 : Int32).toNatClampNeg) v_a1_inn_minutes v_a1_inn_things v_a1_inn_dreams v_a1_inn_sleepers v_a1_inn_listeners v_a1_inn_house_rooms v_a1_inn_house_doors v_a1_roomOf v_a1_awake v_a1_how v_a1_thingIn v_a1_full) 118 [] := by
      intro x118_4 hf H locs ls hl hP hD hS
      rw [eK118] at hf
      replace hf := un1_s hf
      refine lv_iconst (pc := 118) (v := 0) hx hb dX3_keep_118 (by decide) ?_
      refine lv_istore (pc := 119) (lv' := [(6, .int 0), (0, .ref h), (2, .ref a1), (3, .int (p0 * 4)), (4, .long x118_4)]) hx hb dX3_keep_119 hl (by decide) rfl (fun ls hl => ?_)
      have key121 : ∀ (n : Nat) (x121_4 : Int64) (x121_6 : Int32) , lp (BX3_keep_121 v_a1_inn_sleepers p0 v_a1_heardBy v_rows N v_a1_awake v_a1_roomOf) n (x121_4, x121_6) = some z → AT p l e (rmOf 1 26) s m args below meth c E A Q 0 0 7 [(0, .ref h), (2, .ref a1), (3, .int (p0 * 4)), (4, .long x121_4), (6, .int x121_6)] (wX3_keep E a1 a1_inn a1_ways a1_how a1_passed a1_dreamOf a1_stateOf a1_roomOf a1_handOf a1_awake a1_thingIn a1_full a1_heardBy h h_rows a1_inn_house a1_inn_thingIn a1_inn_full a1_inn_states a1_inn_bed a1_inn_dreamOf a1_inn_listensIn a1_inn_house_creak a1_inn_house_cold a1_inn_house_one a1_inn_house_other a1_inn_house_how a1_inn_house_falls a1_inn_house_ways v_a1_setting v_a1_been v_a1_heardBy (va_cpy v_a1_heardBy v_rows (0 : Int32).toNatClampNeg (p0 * 4).toNatClampNeg (3 : Int32).toNatClampNeg) v_a1_inn_minutes v_a1_inn_things v_a1_inn_dreams v_a1_inn_sleepers v_a1_inn_listeners v_a1_inn_house_rooms v_a1_inn_house_doors v_a1_roomOf v_a1_awake v_a1_how v_a1_thingIn v_a1_full) 121 [] := by
        intro n
        induction n with
        | zero => intro x121_4 x121_6 hf; exact (lp_0 hf).elim
        | succ n ih121 =>
          intro x121_4 x121_6 hf H locs ls hl hP hD hS
          replace hf := lp_s hf
          generalize lp (BX3_keep_121 v_a1_inn_sleepers p0 v_a1_heardBy v_rows N v_a1_awake v_a1_roomOf) n = rec121 at ih121 hf
          unfold BX3_keep_121 at hf
          replace hf := un2_s hf
          refine lv_iload (pc := 121) hx hb dX3_keep_121 (lv_at hl 4 rfl) ?_
          refine lv_aload_n (pc := 123) hx hb dX3_keep_123 rfl (lv_at hl 1 rfl) ?_
          refine r_get (pc := 124) C hP 0 rfl fl_X3_26 rfl dX3_keep_124 ?_
          refine r_get (pc := 127) C hP 4 rfl fl_X3_60 rfl dX3_keep_127 ?_
          refine lv_icmp_ge (pc := 130) (tgt := 173) hx hb dX3_keep_130 (by decide) (fun c_130 => ?_) (fun c_130 => ?_)
          · replace hf := it_t c_130 hf
            refine lv_aload_n (pc := 173) hx hb dX3_keep_173 rfl (lv_at hl 0 rfl) ?_
            refine r_get (pc := 174) C hP 1 rfl fl_X3_11 rfl dX3_keep_174 ?_
            refine lv_iload_n (pc := 177) hx hb dX3_keep_177 rfl (lv_at hl 2 rfl) ?_
            refine lv_iconst (pc := 178) (v := 3) hx hb dX3_keep_178 (by decide) ?_
            refine lv_iadd (pc := 179) hx hb dX3_keep_179 ?_
            refine lv_lload (pc := 180) hx hb dX3_keep_180 (lv_at hl 3 rfl) ?_
            obtain ⟨hi_182, hf⟩ := gd_s hf
            refine r_last (pc := 182) (ws' := (wX3_keep E a1 a1_inn a1_ways a1_how a1_passed a1_dreamOf a1_stateOf a1_roomOf a1_handOf a1_awake a1_thingIn a1_full a1_heardBy h h_rows a1_inn_house a1_inn_thingIn a1_inn_full a1_inn_states a1_inn_bed a1_inn_dreamOf a1_inn_listensIn a1_inn_house_creak a1_inn_house_cold a1_inn_house_one a1_inn_house_other a1_inn_house_how a1_inn_house_falls a1_inn_house_ways v_a1_setting v_a1_been v_a1_heardBy (vp_updL (va_cpy v_a1_heardBy v_rows (0 : Int32).toNatClampNeg (p0 * 4).toNatClampNeg (3 : Int32).toNatClampNeg) ((p0 * 4) + 3).toNatClampNeg x121_4) v_a1_inn_minutes v_a1_inn_things v_a1_inn_dreams v_a1_inn_sleepers v_a1_inn_listeners v_a1_inn_house_rooms v_a1_inn_house_doors v_a1_roomOf v_a1_awake v_a1_how v_a1_thingIn v_a1_full)) C hP hD hS 3 rfl hi_182 rfl dX3_keep_182 ?_
            clear hP hD hS; intro H locs hP hD hS
            cases hf
            rw [hQ]
            exact r_vret C hr hP hD hS dX3_keep_183
          · replace hf := it_f c_130 hf
            refine lv_lload (pc := 133) hx hb dX3_keep_133 (lv_at hl 3 rfl) ?_
            refine lv_iconst (pc := 135) (v := 2) hx hb dX3_keep_135 (by decide) ?_
            refine lv_aload_n (pc := 136) hx hb dX3_keep_136 rfl (lv_at hl 1 rfl) ?_
            refine r_get (pc := 137) C hP 0 rfl fl_X3_63 rfl dX3_keep_137 ?_
            refine lv_iload (pc := 140) hx hb dX3_keep_140 (lv_at hl 4 rfl) ?_
            obtain ⟨hi_142, hf⟩ := gd_s hf
            refine r_iald (pc := 142) C hP 6 rfl hi_142 dX3_keep_142 ?_
            refine lv_imul (pc := 143) hx hb dX3_keep_143 ?_
            refine lv_aload_n (pc := 144) hx hb dX3_keep_144 rfl (lv_at hl 1 rfl) ?_
            refine r_get (pc := 145) C hP 0 rfl fl_X3_66 rfl dX3_keep_145 ?_
            refine lv_iload (pc := 148) hx hb dX3_keep_148 (lv_at hl 4 rfl) ?_
            obtain ⟨hi_150, hf⟩ := gd_s hf
            refine r_zald (pc := 150) C hP 7 rfl hi_150 dX3_keep_150 ?_
            obtain ⟨r_151, hc_151, hf⟩ := bd1 hf
            refine r_dalSi (pc := 151) (Cn := "") (h := 0) (ws' := (wX3_keep E a1 a1_inn a1_ways a1_how a1_passed a1_dreamOf a1_stateOf a1_roomOf a1_handOf a1_awake a1_thingIn a1_full a1_heardBy h h_rows a1_inn_house a1_inn_thingIn a1_inn_full a1_inn_states a1_inn_bed a1_inn_dreamOf a1_inn_listensIn a1_inn_house_creak a1_inn_house_cold a1_inn_house_one a1_inn_house_other a1_inn_house_how a1_inn_house_falls a1_inn_house_ways v_a1_setting v_a1_been v_a1_heardBy (va_cpy v_a1_heardBy v_rows (0 : Int32).toNatClampNeg (p0 * 4).toNatClampNeg (3 : Int32).toNatClampNeg) v_a1_inn_minutes v_a1_inn_things v_a1_inn_dreams v_a1_inn_sleepers v_a1_inn_listeners v_a1_inn_house_rooms v_a1_inn_house_doors v_a1_roomOf v_a1_awake v_a1_how v_a1_thingIn v_a1_full)) (As := [.int (v_a1_awake x121_6.toNatClampNeg)]) (rest := [.int (2 * (v_a1_roomOf x121_6.toNatClampNeg)), .long x121_4]) C (ctX10_bit l E N (v_a1_awake x121_6.toNatClampNeg) r_151 hc_151) ml_X3_44 ⟨Nat.le_of_ble_eq_true rfl, Nat.le_of_ble_eq_true rfl⟩ hP hD hS [] [0, 1, 2, 3, 4, 5, 6, 7, 8, 9, 10] 11 rfl rfl rfl rfl rfl rfl rfl hl.1 rfl (Nat.le_of_ble_eq_true rfl) ⟨Nat.zero_le _, Nat.zero_le _⟩ dX3_keep_151 ?_
            clear hP hD hS; intro H locs hP hD hS
            refine lv_iadd (pc := 154) hx hb dX3_keep_154 ?_
            refine lv_i2l (pc := 155) (v := ((2 * (v_a1_roomOf x121_6.toNatClampNeg)) + r_151).toInt64) hx hb dX3_keep_155 rfl ?_
            refine lv_bipush (pc := 156) (v := 36) hx hb dX3_keep_156 (by decide) ?_
            refine lv_iconst (pc := 158) (v := 4) hx hb dX3_keep_158 (by decide) ?_
            refine lv_iload (pc := 159) hx hb dX3_keep_159 (lv_at hl 4 rfl) ?_
            refine lv_imul (pc := 161) hx hb dX3_keep_161 ?_
            refine lv_iadd (pc := 162) hx hb dX3_keep_162 ?_
            refine lv_lshl (pc := 163) (v := (((2 * (v_a1_roomOf x121_6.toNatClampNeg)) + r_151).toInt64) <<< ((36 + (4 * x121_6)).toInt64 &&& 63)) hx hb dX3_keep_163 rfl ?_
            refine lv_lor (pc := 164) hx hb dX3_keep_164 ?_
            refine lv_lstore (pc := 165) (lv' := [(4, .long (x121_4 ||| ((((2 * (v_a1_roomOf x121_6.toNatClampNeg)) + r_151).toInt64) <<< ((36 + (4 * x121_6)).toInt64 &&& 63)))), (0, .ref h), (2, .ref a1), (3, .int (p0 * 4)), (6, .int x121_6)]) hx hb dX3_keep_165 hl (by decide) rfl (fun ls hl => ?_)
            refine lv_iinc (pc := 167) (v := x121_6 + 1) (lv' := [(6, .int (x121_6 + 1)), (4, .long (x121_4 ||| ((((2 * (v_a1_roomOf x121_6.toNatClampNeg)) + r_151).toInt64) <<< ((36 + (4 * x121_6)).toInt64 &&& 63)))), (0, .ref h), (2, .ref a1), (3, .int (p0 * 4))]) hx hb dX3_keep_167 hl (k := 4) rfl rfl (by decide) rfl (fun ls hl => ?_)
            refine lv_goto (pc := 170) (tgt := 121) hx hb dX3_keep_170 (by decide) ?_
            exact ih121 (x121_4 ||| ((((2 * (v_a1_roomOf x121_6.toNatClampNeg)) + r_151).toInt64) <<< ((36 + (4 * x121_6)).toInt64 &&& 63))) (x121_6 + 1) hf _ _ _ (lv_sub hl [2, 3, 4, 1, 0] rfl) hP hD hS
      exact key121 _ x118_4 0 hf _ _ _ (lv_sub hl [1, 2, 3, 4, 0] rfl) hP hD hS
    clear eK118
    have key76 : ∀ (n : Nat) (x76_4 : Int64) (x76_6 : Int32) , lp (BX3_keep_76 v_a1_inn_house_doors v_a1_how K118) n (x76_4, x76_6) = some z → AT p l e (rmOf 1 26) s m args below meth c E A Q 0 0 7 [(0, .ref h), (2, .ref a1), (3, .int (p0 * 4)), (4, .long x76_4), (6, .int x76_6)] (wX3_keep E a1 a1_inn a1_ways a1_how a1_passed a1_dreamOf a1_stateOf a1_roomOf a1_handOf a1_awake a1_thingIn a1_full a1_heardBy h h_rows a1_inn_house a1_inn_thingIn a1_inn_full a1_inn_states a1_inn_bed a1_inn_dreamOf a1_inn_listensIn a1_inn_house_creak a1_inn_house_cold a1_inn_house_one a1_inn_house_other a1_inn_house_how a1_inn_house_falls a1_inn_house_ways v_a1_setting v_a1_been v_a1_heardBy (va_cpy v_a1_heardBy v_rows (0 : Int32).toNatClampNeg (p0 * 4).toNatClampNeg (3 : Int32).toNatClampNeg) v_a1_inn_minutes v_a1_inn_things v_a1_inn_dreams v_a1_inn_sleepers v_a1_inn_listeners v_a1_inn_house_rooms v_a1_inn_house_doors v_a1_roomOf v_a1_awake v_a1_how v_a1_thingIn v_a1_full) 76 [] := by
      intro n
      induction n with
      | zero => intro x76_4 x76_6 hf; exact (lp_0 hf).elim
      | succ n ih76 =>
        intro x76_4 x76_6 hf H locs ls hl hP hD hS
        replace hf := lp_s hf
        generalize lp (BX3_keep_76 v_a1_inn_house_doors v_a1_how K118) n = rec76 at ih76 hf
        unfold BX3_keep_76 at hf
        replace hf := un2_s hf
        refine lv_iload (pc := 76) hx hb dX3_keep_76 (lv_at hl 4 rfl) ?_
        refine lv_aload_n (pc := 78) hx hb dX3_keep_78 rfl (lv_at hl 1 rfl) ?_
        refine r_get (pc := 79) C hP 0 rfl fl_X3_26 rfl dX3_keep_79 ?_
        refine r_get (pc := 82) C hP 4 rfl fl_X3_48 rfl dX3_keep_82 ?_
        refine r_get (pc := 85) C hP 5 rfl fl_X3_52 rfl dX3_keep_85 ?_
        refine lv_icmp_ge (pc := 88) (tgt := 118) hx hb dX3_keep_88 (by decide) (fun c_88 => ?_) (fun c_88 => ?_)
        · replace hf := it_t c_88 hf
          exact hK118 x76_4 hf _ _ _ (lv_sub hl [0, 1, 2, 3] rfl) hP hD hS
        · replace hf := it_f c_88 hf
          refine lv_lload (pc := 91) hx hb dX3_keep_91 (lv_at hl 3 rfl) ?_
          refine lv_aload_n (pc := 93) hx hb dX3_keep_93 rfl (lv_at hl 1 rfl) ?_
          refine r_get (pc := 94) C hP 0 rfl fl_X3_57 rfl dX3_keep_94 ?_
          refine lv_iload (pc := 97) hx hb dX3_keep_97 (lv_at hl 4 rfl) ?_
          obtain ⟨hi_99, hf⟩ := gd_s hf
          refine r_iald (pc := 99) C hP 8 rfl hi_99 dX3_keep_99 ?_
          refine lv_i2l (pc := 100) (v := (v_a1_how x76_6.toNatClampNeg).toInt64) hx hb dX3_keep_100 rfl ?_
          refine lv_bipush (pc := 101) (v := 16) hx hb dX3_keep_101 (by decide) ?_
          refine lv_iconst (pc := 103) (v := 2) hx hb dX3_keep_103 (by decide) ?_
          refine lv_iload (pc := 104) hx hb dX3_keep_104 (lv_at hl 4 rfl) ?_
          refine lv_imul (pc := 106) hx hb dX3_keep_106 ?_
          refine lv_iadd (pc := 107) hx hb dX3_keep_107 ?_
          refine lv_lshl (pc := 108) (v := ((v_a1_how x76_6.toNatClampNeg).toInt64) <<< ((16 + (2 * x76_6)).toInt64 &&& 63)) hx hb dX3_keep_108 rfl ?_
          refine lv_lor (pc := 109) hx hb dX3_keep_109 ?_
          refine lv_lstore (pc := 110) (lv' := [(4, .long (x76_4 ||| (((v_a1_how x76_6.toNatClampNeg).toInt64) <<< ((16 + (2 * x76_6)).toInt64 &&& 63)))), (0, .ref h), (2, .ref a1), (3, .int (p0 * 4)), (6, .int x76_6)]) hx hb dX3_keep_110 hl (by decide) rfl (fun ls hl => ?_)
          refine lv_iinc (pc := 112) (v := x76_6 + 1) (lv' := [(6, .int (x76_6 + 1)), (4, .long (x76_4 ||| (((v_a1_how x76_6.toNatClampNeg).toInt64) <<< ((16 + (2 * x76_6)).toInt64 &&& 63)))), (0, .ref h), (2, .ref a1), (3, .int (p0 * 4))]) hx hb dX3_keep_112 hl (k := 4) rfl rfl (by decide) rfl (fun ls hl => ?_)
          refine lv_goto (pc := 115) (tgt := 76) hx hb dX3_keep_115 (by decide) ?_
          exact ih76 (x76_4 ||| (((v_a1_how x76_6.toNatClampNeg).toInt64) <<< ((16 + (2 * x76_6)).toInt64 &&& 63))) (x76_6 + 1) hf _ _ _ (lv_sub hl [2, 3, 4, 1, 0] rfl) hP hD hS
    exact key76 _ x73_4 0 hf _ _ _ (lv_sub hl [1, 2, 3, 4, 0] rfl) hP hD hS
  clear eK73
  have key24 : ∀ (n : Nat) (x24_4 : Int64) (x24_6 : Int32) , lp (BX3_keep_24 v_a1_inn_things N v_a1_full v_a1_thingIn K73) n (x24_4, x24_6) = some z → AT p l e (rmOf 1 26) s m args below meth c E A Q 0 0 7 [(0, .ref h), (2, .ref a1), (3, .int (p0 * 4)), (4, .long x24_4), (6, .int x24_6)] (wX3_keep E a1 a1_inn a1_ways a1_how a1_passed a1_dreamOf a1_stateOf a1_roomOf a1_handOf a1_awake a1_thingIn a1_full a1_heardBy h h_rows a1_inn_house a1_inn_thingIn a1_inn_full a1_inn_states a1_inn_bed a1_inn_dreamOf a1_inn_listensIn a1_inn_house_creak a1_inn_house_cold a1_inn_house_one a1_inn_house_other a1_inn_house_how a1_inn_house_falls a1_inn_house_ways v_a1_setting v_a1_been v_a1_heardBy (va_cpy v_a1_heardBy v_rows (0 : Int32).toNatClampNeg (p0 * 4).toNatClampNeg (3 : Int32).toNatClampNeg) v_a1_inn_minutes v_a1_inn_things v_a1_inn_dreams v_a1_inn_sleepers v_a1_inn_listeners v_a1_inn_house_rooms v_a1_inn_house_doors v_a1_roomOf v_a1_awake v_a1_how v_a1_thingIn v_a1_full) 24 [] := by
    intro n
    induction n with
    | zero => intro x24_4 x24_6 hf; exact (lp_0 hf).elim
    | succ n ih24 =>
      intro x24_4 x24_6 hf H locs ls hl hP hD hS
      replace hf := lp_s hf
      generalize lp (BX3_keep_24 v_a1_inn_things N v_a1_full v_a1_thingIn K73) n = rec24 at ih24 hf
      unfold BX3_keep_24 at hf
      replace hf := un2_s hf
      refine lv_iload (pc := 24) hx hb dX3_keep_24 (lv_at hl 4 rfl) ?_
      refine lv_aload_n (pc := 26) hx hb dX3_keep_26 rfl (lv_at hl 1 rfl) ?_
      refine r_get (pc := 27) C hP 0 rfl fl_X3_26 rfl dX3_keep_27 ?_
      refine r_get (pc := 30) C hP 4 rfl fl_X3_30 rfl dX3_keep_30 ?_
      refine lv_icmp_ge (pc := 33) (tgt := 73) hx hb dX3_keep_33 (by decide) (fun c_33 => ?_) (fun c_33 => ?_)
      · replace hf := it_t c_33 hf
        exact hK73 x24_4 hf _ _ _ (lv_sub hl [0, 1, 2, 3] rfl) hP hD hS
      · replace hf := it_f c_33 hf
        refine lv_lload (pc := 36) hx hb dX3_keep_36 (lv_at hl 3 rfl) ?_
        refine lv_iconst (pc := 38) (v := 2) hx hb dX3_keep_38 (by decide) ?_
        refine lv_aload_n (pc := 39) hx hb dX3_keep_39 rfl (lv_at hl 1 rfl) ?_
        refine r_get (pc := 40) C hP 0 rfl fl_X3_36 rfl dX3_keep_40 ?_
        refine lv_iload (pc := 43) hx hb dX3_keep_43 (lv_at hl 4 rfl) ?_
        obtain ⟨hi_45, hf⟩ := gd_s hf
        refine r_iald (pc := 45) C hP 9 rfl hi_45 dX3_keep_45 ?_
        refine lv_imul (pc := 46) hx hb dX3_keep_46 ?_
        refine lv_aload_n (pc := 47) hx hb dX3_keep_47 rfl (lv_at hl 1 rfl) ?_
        refine r_get (pc := 48) C hP 0 rfl fl_X3_40 rfl dX3_keep_48 ?_
        refine lv_iload (pc := 51) hx hb dX3_keep_51 (lv_at hl 4 rfl) ?_
        obtain ⟨hi_53, hf⟩ := gd_s hf
        refine r_zald (pc := 53) C hP 10 rfl hi_53 dX3_keep_53 ?_
        obtain ⟨r_54, hc_54, hf⟩ := bd1 hf
        refine r_dalSi (pc := 54) (Cn := "") (h := 0) (ws' := (wX3_keep E a1 a1_inn a1_ways a1_how a1_passed a1_dreamOf a1_stateOf a1_roomOf a1_handOf a1_awake a1_thingIn a1_full a1_heardBy h h_rows a1_inn_house a1_inn_thingIn a1_inn_full a1_inn_states a1_inn_bed a1_inn_dreamOf a1_inn_listensIn a1_inn_house_creak a1_inn_house_cold a1_inn_house_one a1_inn_house_other a1_inn_house_how a1_inn_house_falls a1_inn_house_ways v_a1_setting v_a1_been v_a1_heardBy (va_cpy v_a1_heardBy v_rows (0 : Int32).toNatClampNeg (p0 * 4).toNatClampNeg (3 : Int32).toNatClampNeg) v_a1_inn_minutes v_a1_inn_things v_a1_inn_dreams v_a1_inn_sleepers v_a1_inn_listeners v_a1_inn_house_rooms v_a1_inn_house_doors v_a1_roomOf v_a1_awake v_a1_how v_a1_thingIn v_a1_full)) (As := [.int (v_a1_full x24_6.toNatClampNeg)]) (rest := [.int (2 * (v_a1_thingIn x24_6.toNatClampNeg)), .long x24_4]) C (ctX10_bit l E N (v_a1_full x24_6.toNatClampNeg) r_54 hc_54) ml_X3_44 ⟨Nat.le_of_ble_eq_true rfl, Nat.le_of_ble_eq_true rfl⟩ hP hD hS [] [0, 1, 2, 3, 4, 5, 6, 7, 8, 9, 10] 11 rfl rfl rfl rfl rfl rfl rfl hl.1 rfl (Nat.le_of_ble_eq_true rfl) ⟨Nat.zero_le _, Nat.zero_le _⟩ dX3_keep_54 ?_
        clear hP hD hS; intro H locs hP hD hS
        refine lv_iadd (pc := 57) hx hb dX3_keep_57 ?_
        refine lv_i2l (pc := 58) (v := ((2 * (v_a1_thingIn x24_6.toNatClampNeg)) + r_54).toInt64) hx hb dX3_keep_58 rfl ?_
        refine lv_iconst (pc := 59) (v := 4) hx hb dX3_keep_59 (by decide) ?_
        refine lv_iload (pc := 60) hx hb dX3_keep_60 (lv_at hl 4 rfl) ?_
        refine lv_imul (pc := 62) hx hb dX3_keep_62 ?_
        refine lv_lshl (pc := 63) (v := (((2 * (v_a1_thingIn x24_6.toNatClampNeg)) + r_54).toInt64) <<< ((4 * x24_6).toInt64 &&& 63)) hx hb dX3_keep_63 rfl ?_
        refine lv_lor (pc := 64) hx hb dX3_keep_64 ?_
        refine lv_lstore (pc := 65) (lv' := [(4, .long (x24_4 ||| ((((2 * (v_a1_thingIn x24_6.toNatClampNeg)) + r_54).toInt64) <<< ((4 * x24_6).toInt64 &&& 63)))), (0, .ref h), (2, .ref a1), (3, .int (p0 * 4)), (6, .int x24_6)]) hx hb dX3_keep_65 hl (by decide) rfl (fun ls hl => ?_)
        refine lv_iinc (pc := 67) (v := x24_6 + 1) (lv' := [(6, .int (x24_6 + 1)), (4, .long (x24_4 ||| ((((2 * (v_a1_thingIn x24_6.toNatClampNeg)) + r_54).toInt64) <<< ((4 * x24_6).toInt64 &&& 63)))), (0, .ref h), (2, .ref a1), (3, .int (p0 * 4))]) hx hb dX3_keep_67 hl (k := 4) rfl rfl (by decide) rfl (fun ls hl => ?_)
        refine lv_goto (pc := 70) (tgt := 24) hx hb dX3_keep_70 (by decide) ?_
        exact ih24 (x24_4 ||| ((((2 * (v_a1_thingIn x24_6.toNatClampNeg)) + r_54).toInt64) <<< ((4 * x24_6).toInt64 &&& 63))) (x24_6 + 1) hf _ _ _ (lv_sub hl [2, 3, 4, 1, 0] rfl) hP hD hS
  exact key24 _ 0 0 hf _ _ _ (lv_sub hl [3, 5, 2, 1, 0] rfl) hP hD hS
def wX3_areSame (E : EN) (h h_rows : Nat) (v_rows : Nat → Int64) : va_W := [(h, .inr (3, [.ref h_rows])), (h_rows, aJ E 256 v_rows)]
def BX3_areSame_2 (p0 : Int32) (p1 : Int32) (v_rows : Nat → Int64) (rec2 : (Int32) → Option Int32) : (Int32) → Option Int32 := un1 fun (x2_3 : Int32) => if 4 ≤ x2_3 then (some 1) else (gd ((p0 * 4) + x2_3) 256 (gd ((p1 * 4) + x2_3) 256 (if (lg_cmp (v_rows ((p0 * 4) + x2_3).toNatClampNeg) (v_rows ((p1 * 4) + x2_3).toNatClampNeg)) = 0 then (rec2 (x2_3 + 1)) else (some 0))))
def fX3_areSame (N : Nat) (p0 : Int32) (p1 : Int32) (v_rows : Nat → Int64) : Option Int32 := lp (BX3_areSame_2 p0 p1 v_rows) N 0
set_option maxHeartbeats 4000000 in
set_option maxRecDepth 100000 in
theorem ctX3_areSame (l : Launch) (E : EN) (h h_rows : Nat) (v_rows : Nat → Int64) (N : Nat) (p0 : Int32) (p1 : Int32) (z : Int32) (hf : fX3_areSame N p0 p1 v_rows = some z) : CTi l E yX3_areSame cX3_areSame 4 .boolean 0 0 [.ref h, .int p0, .int p1] (wX3_areSame E h h_rows v_rows) (z) (wX3_areSame E h h_rows v_rows) := by
  intro sz
  refine ct_body (by decide) (Nat.le_of_ble_eq_true rfl) ?_
  intro p e s m args below meth c A ls hAe C hr hin hP hD hS hl
  have C : CX p s m args meth c cX3_areSame RX3 4 E A := C
  have hl : lv_has ls 4 [(0, .ref h), (1, .int p0), (2, .int p1)] := hl
  have hx := C.1
  have hb := C.2.1
  rw [hAe]
  clear hAe
  obtain ⟨Q, hQ⟩ : ∃ Q, Q = MQ below (Qi E A (z) (wX3_areSame E h h_rows v_rows)) args s 0 0 A := ⟨_, rfl⟩
  rw [← hQ]
  unfold fX3_areSame at hf
  refine lv_iconst (pc := 0) (v := 0) hx hb dX3_areSame_0 (by decide) ?_
  refine lv_istore_n (pc := 1) (lv' := [(3, .int 0), (0, .ref h), (1, .int p0), (2, .int p1)]) hx hb dX3_areSame_1 rfl hl (by decide) rfl (fun ls hl => ?_)
  have key2 : ∀ (n : Nat) (x2_3 : Int32) , lp (BX3_areSame_2 p0 p1 v_rows) n x2_3 = some z → AT p l e (rmOf 0 0) s m args below meth c E A Q 0 0 4 [(0, .ref h), (1, .int p0), (2, .int p1), (3, .int x2_3)] (wX3_areSame E h h_rows v_rows) 2 [] := by
    intro n
    induction n with
    | zero => intro x2_3 hf; exact (lp_0 hf).elim
    | succ n ih2 =>
      intro x2_3 hf H locs ls hl hP hD hS
      replace hf := lp_s hf
      generalize lp (BX3_areSame_2 p0 p1 v_rows) n = rec2 at ih2 hf
      unfold BX3_areSame_2 at hf
      replace hf := un1_s hf
      refine lv_iload_n (pc := 2) hx hb dX3_areSame_2 rfl (lv_at hl 3 rfl) ?_
      refine lv_iconst (pc := 3) (v := 4) hx hb dX3_areSame_3 (by decide) ?_
      refine lv_icmp_ge (pc := 4) (tgt := 39) hx hb dX3_areSame_4 (by decide) (fun c_4 => ?_) (fun c_4 => ?_)
      · replace hf := it_t c_4 hf
        refine lv_iconst (pc := 39) (v := 1) hx hb dX3_areSame_39 (by decide) ?_
        cases hf
        rw [hQ]
        exact r_zret C hr hP hD hS (Or.inr rfl) rfl dX3_areSame_40
      · replace hf := it_f c_4 hf
        refine lv_aload_n (pc := 7) hx hb dX3_areSame_7 rfl (lv_at hl 0 rfl) ?_
        refine r_get (pc := 8) C hP 0 rfl fl_X3_11 rfl dX3_areSame_8 ?_
        refine lv_iload_n (pc := 11) hx hb dX3_areSame_11 rfl (lv_at hl 1 rfl) ?_
        refine lv_iconst (pc := 12) (v := 4) hx hb dX3_areSame_12 (by decide) ?_
        refine lv_imul (pc := 13) hx hb dX3_areSame_13 ?_
        refine lv_iload_n (pc := 14) hx hb dX3_areSame_14 rfl (lv_at hl 3 rfl) ?_
        refine lv_iadd (pc := 15) hx hb dX3_areSame_15 ?_
        obtain ⟨hi_16, hf⟩ := gd_s hf
        refine r_lald (pc := 16) C hP 1 rfl hi_16 dX3_areSame_16 ?_
        refine lv_aload_n (pc := 17) hx hb dX3_areSame_17 rfl (lv_at hl 0 rfl) ?_
        refine r_get (pc := 18) C hP 0 rfl fl_X3_11 rfl dX3_areSame_18 ?_
        refine lv_iload_n (pc := 21) hx hb dX3_areSame_21 rfl (lv_at hl 2 rfl) ?_
        refine lv_iconst (pc := 22) (v := 4) hx hb dX3_areSame_22 (by decide) ?_
        refine lv_imul (pc := 23) hx hb dX3_areSame_23 ?_
        refine lv_iload_n (pc := 24) hx hb dX3_areSame_24 rfl (lv_at hl 3 rfl) ?_
        refine lv_iadd (pc := 25) hx hb dX3_areSame_25 ?_
        obtain ⟨hi_26, hf⟩ := gd_s hf
        refine r_lald (pc := 26) C hP 1 rfl hi_26 dX3_areSame_26 ?_
        refine W.lcmp (pc := 27) hx hb dX3_areSame_27 ?_
        refine lv_if_eq (pc := 28) (tgt := 33) hx hb dX3_areSame_28 (by decide) (fun c_28 => ?_) (fun c_28 => ?_)
        · replace hf := it_t c_28 hf
          refine lv_iinc (pc := 33) (v := x2_3 + 1) (lv' := [(3, .int (x2_3 + 1)), (0, .ref h), (1, .int p0), (2, .int p1)]) hx hb dX3_areSame_33 hl (k := 3) rfl rfl (by decide) rfl (fun ls hl => ?_)
          refine lv_goto (pc := 36) (tgt := 2) hx hb dX3_areSame_36 (by decide) ?_
          exact ih2 (x2_3 + 1) hf _ _ _ (lv_sub hl [1, 2, 3, 0] rfl) hP hD hS
        · replace hf := it_f c_28 hf
          refine lv_iconst (pc := 31) (v := 0) hx hb dX3_areSame_31 (by decide) ?_
          cases hf
          rw [hQ]
          exact r_zret C hr hP hD hS (Or.inl rfl) rfl dX3_areSame_32
  exact key2 _ 0 hf _ _ _ (lv_sub hl [1, 2, 3, 0] rfl) hP hD hS
def wX3_firstLike (E : EN) (h h_rows : Nat) (v_rows : Nat → Int64) : va_W := [(h, .inr (3, [.ref h_rows])), (h_rows, aJ E 256 v_rows)]
def BX3_firstLike_2 (p0 : Int32) (N : Nat) (v_rows : Nat → Int64) (rec2 : (Int32) → Option Int32) : (Int32) → Option Int32 := un1 fun (x2_2 : Int32) => if p0 ≤ x2_2 then (some x2_2) else ((fX3_areSame N x2_2 p0 v_rows).bind (un1 fun (r_10 : Int32) => if r_10 = 0 then (rec2 (x2_2 + 1)) else (some x2_2)))
def fX3_firstLike (N : Nat) (p0 : Int32) (v_rows : Nat → Int64) : Option Int32 := lp (BX3_firstLike_2 p0 N v_rows) N 0
set_option maxHeartbeats 4000000 in
set_option maxRecDepth 100000 in
theorem ctX3_firstLike (l : Launch) (E : EN) (h h_rows : Nat) (v_rows : Nat → Int64) (N : Nat) (p0 : Int32) (z : Int32) (hf : fX3_firstLike N p0 v_rows = some z) : CTi l E yX3_firstLike cX3_firstLike 3 .int 1 23 [.ref h, .int p0] (wX3_firstLike E h h_rows v_rows) (z) (wX3_firstLike E h h_rows v_rows) := by
  intro sz
  refine ct_body (by decide) (Nat.le_of_ble_eq_true rfl) ?_
  intro p e s m args below meth c A ls hAe C hr hin hP hD hS hl
  have C : CX p s m args meth c cX3_firstLike RX3 3 E A := C
  have hl : lv_has ls 3 [(0, .ref h), (1, .int p0)] := hl
  have hx := C.1
  have hb := C.2.1
  rw [hAe]
  clear hAe
  obtain ⟨Q, hQ⟩ : ∃ Q, Q = MQ below (Qi E A (z) (wX3_firstLike E h h_rows v_rows)) args s 0 0 A := ⟨_, rfl⟩
  rw [← hQ]
  unfold fX3_firstLike at hf
  refine lv_iconst (pc := 0) (v := 0) hx hb dX3_firstLike_0 (by decide) ?_
  refine lv_istore_n (pc := 1) (lv' := [(2, .int 0), (0, .ref h), (1, .int p0)]) hx hb dX3_firstLike_1 rfl hl (by decide) rfl (fun ls hl => ?_)
  have key2 : ∀ (n : Nat) (x2_2 : Int32) , lp (BX3_firstLike_2 p0 N v_rows) n x2_2 = some z → AT p l e (rmOf 1 23) s m args below meth c E A Q 0 0 3 [(0, .ref h), (1, .int p0), (2, .int x2_2)] (wX3_firstLike E h h_rows v_rows) 2 [] := by
    intro n
    induction n with
    | zero => intro x2_2 hf; exact (lp_0 hf).elim
    | succ n ih2 =>
      intro x2_2 hf H locs ls hl hP hD hS
      replace hf := lp_s hf
      generalize lp (BX3_firstLike_2 p0 N v_rows) n = rec2 at ih2 hf
      unfold BX3_firstLike_2 at hf
      replace hf := un1_s hf
      refine lv_iload_n (pc := 2) hx hb dX3_firstLike_2 rfl (lv_at hl 2 rfl) ?_
      refine lv_iload_n (pc := 3) hx hb dX3_firstLike_3 rfl (lv_at hl 1 rfl) ?_
      refine lv_icmp_ge (pc := 4) (tgt := 22) hx hb dX3_firstLike_4 (by decide) (fun c_4 => ?_) (fun c_4 => ?_)
      · replace hf := it_t c_4 hf
        refine lv_iload_n (pc := 22) hx hb dX3_firstLike_22 rfl (lv_at hl 2 rfl) ?_
        cases hf
        rw [hQ]
        exact r_iret C hr hP hD hS rfl dX3_firstLike_23
      · replace hf := it_f c_4 hf
        refine lv_aload_n (pc := 7) hx hb dX3_firstLike_7 rfl (lv_at hl 0 rfl) ?_
        refine lv_iload_n (pc := 8) hx hb dX3_firstLike_8 rfl (lv_at hl 2 rfl) ?_
        refine lv_iload_n (pc := 9) hx hb dX3_firstLike_9 rfl (lv_at hl 1 rfl) ?_
        obtain ⟨r_10, hc_10, hf⟩ := bd1 hf
        refine r_dalVi (pc := 10) (ws' := (wX3_firstLike E h h_rows v_rows)) (As := [.int x2_2, .int p0]) (rest := []) C (ctX3_areSame l E h h_rows v_rows N x2_2 p0 r_10 hc_10) ml_X3_69 ⟨Nat.le_of_ble_eq_true rfl, Nat.le_of_ble_eq_true rfl⟩ hP hD hS 0 rfl rfl rfl [0, 1] [2, 3] 2 rfl rfl rfl rfl rfl rfl rfl hl.1 rfl (Nat.le_of_ble_eq_true rfl) ⟨Nat.zero_le _, Nat.zero_le _⟩ dX3_firstLike_10 ?_
        clear hP hD hS; intro H locs hP hD hS
        refine lv_if_ne (pc := 13) (tgt := 22) hx hb dX3_firstLike_13 (by decide) (fun c_13 => ?_) (fun c_13 => ?_)
        · replace hf := it_f c_13 hf
          refine lv_iload_n (pc := 22) hx hb dX3_firstLike_22 rfl (lv_at hl 2 rfl) ?_
          cases hf
          rw [hQ]
          exact r_iret C hr hP hD hS rfl dX3_firstLike_23
        · replace hf := it_t c_13 hf
          refine lv_iinc (pc := 16) (v := x2_2 + 1) (lv' := [(2, .int (x2_2 + 1)), (0, .ref h), (1, .int p0)]) hx hb dX3_firstLike_16 hl (k := 2) rfl rfl (by decide) rfl (fun ls hl => ?_)
          refine lv_goto (pc := 19) (tgt := 2) hx hb dX3_firstLike_19 (by decide) ?_
          exact ih2 (x2_2 + 1) hf _ _ _ (lv_sub hl [1, 2, 0] rfl) hP hD hS
  exact key2 _ 0 hf _ _ _ (lv_sub hl [1, 2, 0] rfl) hP hD hS
def wX0_tryOuts (E : EN) (h h_trial h_inn h_dreams h_plain h_set h_tried h_kin h_fitters h_trial_ways h_trial_how h_trial_passed h_trial_dreamOf h_trial_stateOf h_trial_roomOf h_trial_handOf h_trial_awake h_trial_thingIn h_trial_full h_trial_heardBy h_inn_house h_inn_thingIn h_inn_full h_inn_states h_inn_bed h_inn_dreamOf h_inn_listensIn h_inn_house_creak h_inn_house_cold h_inn_house_one h_inn_house_other h_inn_house_how h_inn_house_falls h_inn_house_ways h_trial_ways_steps h_inn_house_ways_steps h_set_rows h_plain_rows : Nat) (v_count : Int32) (v_fitting : Int32) (v_tried : Nat → Int32) (v_trial_setting : Int32) (v_trial_been : Int32) (v_inn_minutes : Int32) (v_inn_things : Int32) (v_inn_dreams : Int32) (v_inn_sleepers : Int32) (v_inn_listeners : Int32) (v_inn_house_rooms : Int32) (v_inn_house_doors : Int32) (v_inn_house_how : Nat → Int32) (v_trial_ways_rooms : Int32) (v_trial_ways_steps : Nat → Int32) (v_inn_house_one : Nat → Int32) (v_inn_house_other : Nat → Int32) (v_inn_thingIn : Nat → Int32) (v_trial_thingIn : Nat → Int32) (v_inn_full : Nat → Int32) (v_trial_full : Nat → Int32) (v_trial_heardBy : Nat → Int64) (v_dreams : Nat → Int32) (v_trial_dreamOf : Nat → Int32) (v_trial_stateOf : Nat → Int32) (v_inn_bed : Nat → Int32) (v_trial_roomOf : Nat → Int32) (v_trial_handOf : Nat → Int32) (v_trial_awake : Nat → Int32) (v_trial_how : Nat → Int32) (v_trial_passed : Nat → Int32) (v_inn_states : Nat → Int32) (v_inn_house_creak : Nat → Int32) (v_inn_listensIn : Nat → Int32) (v_inn_house_ways_rooms : Int32) (v_inn_house_ways_steps : Nat → Int32) (v_inn_house_cold : Nat → Int32) (v_inn_house_falls : Nat → Int32) (v_set_rows : Nat → Int64) (v_kin : Nat → Int32) (v_plain_rows : Nat → Int64) : va_W := [(h, .inr (0, [.ref h_trial, .ref h_inn, .int v_count, .ref h_dreams, .ref h_plain, .ref h_set, .ref h_tried, .ref h_kin, .int v_fitting, .ref h_fitters])), (h_tried, aZ E 21 v_tried), (h_trial, .inr (4, [.ref h_inn, .int v_trial_setting, .int v_trial_been, .ref h_trial_ways, .ref h_trial_how, .ref h_trial_passed, .ref h_trial_dreamOf, .ref h_trial_stateOf, .ref h_trial_roomOf, .ref h_trial_handOf, .ref h_trial_awake, .ref h_trial_thingIn, .ref h_trial_full, .ref h_trial_heardBy])), (h_inn, .inr (2, [.ref h_inn_house, .int v_inn_minutes, .int v_inn_things, .ref h_inn_thingIn, .ref h_inn_full, .int v_inn_dreams, .ref h_inn_states, .int v_inn_sleepers, .ref h_inn_bed, .ref h_inn_dreamOf, .int v_inn_listeners, .ref h_inn_listensIn])), (h_inn_house, .inr (1, [.int v_inn_house_rooms, .ref h_inn_house_creak, .ref h_inn_house_cold, .int v_inn_house_doors, .ref h_inn_house_one, .ref h_inn_house_other, .ref h_inn_house_how, .ref h_inn_house_falls, .ref h_inn_house_ways])), (h_inn_house_how, aI E 10 v_inn_house_how), (h_trial_ways, .inr (8, [.ref h_trial_ways_steps, .int v_trial_ways_rooms])), (h_trial_ways_steps, aI E 64 v_trial_ways_steps), (h_inn_house_one, aI E 10 v_inn_house_one), (h_inn_house_other, aI E 10 v_inn_house_other), (h_inn_thingIn, aI E 4 v_inn_thingIn), (h_trial_thingIn, aI E 4 v_trial_thingIn), (h_inn_full, aZ E 4 v_inn_full), (h_trial_full, aZ E 4 v_trial_full), (h_trial_heardBy, aJ E 3 v_trial_heardBy), (h_dreams, aI E 192 v_dreams), (h_trial_dreamOf, aI E 3 v_trial_dreamOf), (h_trial_stateOf, aI E 3 v_trial_stateOf), (h_inn_bed, aI E 3 v_inn_bed), (h_trial_roomOf, aI E 3 v_trial_roomOf), (h_trial_handOf, aI E 3 v_trial_handOf), (h_trial_awake, aZ E 3 v_trial_awake), (h_trial_how, aI E 10 v_trial_how), (h_trial_passed, aI E 10 v_trial_passed), (h_inn_states, aI E 64 v_inn_states), (h_inn_house_creak, aI E 8 v_inn_house_creak), (h_inn_listensIn, aI E 3 v_inn_listensIn), (h_inn_house_ways, .inr (8, [.ref h_inn_house_ways_steps, .int v_inn_house_ways_rooms])), (h_inn_house_ways_steps, aI E 64 v_inn_house_ways_steps), (h_inn_house_cold, aZ E 8 v_inn_house_cold), (h_inn_house_falls, aZ E 10 v_inn_house_falls), (h_set, .inr (3, [.ref h_set_rows])), (h_set_rows, aJ E 256 v_set_rows), (h_kin, aI E 1344 v_kin), (h_plain, .inr (3, [.ref h_plain_rows])), (h_plain_rows, aJ E 256 v_plain_rows)]
def BX0_tryOuts_58 (v_count : Int32) (j133 : ((Nat → Int32) × Int32 × Int32 × Int32 × (Nat → Int32) × (Nat → Int32) × (Nat → Int32) × (Nat → Int64) × (Nat → Int32) × (Nat → Int32) × (Nat → Int32) × (Nat → Int32) × (Nat → Int32) × (Nat → Int32) × (Nat → Int32) × (Nat → Int64) × (Nat → Int32) × (Nat → Int64)) → Option ((Nat → Int32) × Int32 × Int32 × Int32 × (Nat → Int32) × (Nat → Int32) × (Nat → Int32) × (Nat → Int64) × (Nat → Int32) × (Nat → Int32) × (Nat → Int32) × (Nat → Int32) × (Nat → Int32) × (Nat → Int32) × (Nat → Int32) × (Nat → Int64) × (Nat → Int32) × (Nat → Int64))) (x2_tried : Nat → Int32) (x2_3 : Int32) (v_trial_setting_52 : Int32) (v_trial_ways_rooms_52 : Int32) (v_trial_ways_steps_52 : Nat → Int32) (N : Nat) (v_inn_sleepers : Int32) (v_inn_house_doors : Int32) (v_inn_thingIn : Nat → Int32) (v_inn_full : Nat → Int32) (v_dreams : Nat → Int32) (v_inn_bed : Nat → Int32) (v_inn_house_how : Nat → Int32) (v_inn_minutes : Int32) (v_inn_listeners : Int32) (v_inn_states : Nat → Int32) (v_inn_house_one : Nat → Int32) (v_inn_house_other : Nat → Int32) (v_inn_house_creak : Nat → Int32) (v_inn_listensIn : Nat → Int32) (v_inn_house_ways_steps : Nat → Int32) (v_inn_house_cold : Nat → Int32) (v_inn_house_falls : Nat → Int32) (v_inn_things : Int32) (rec58 : (Int32 × Int32 × (Nat → Int32) × (Nat → Int32) × (Nat → Int64) × (Nat → Int32) × (Nat → Int32) × (Nat → Int32) × (Nat → Int32) × (Nat → Int32) × (Nat → Int32) × (Nat → Int32) × (Nat → Int64) × (Nat → Int32) × (Nat → Int64)) → Option ((Nat → Int32) × Int32 × Int32 × Int32 × (Nat → Int32) × (Nat → Int32) × (Nat → Int32) × (Nat → Int64) × (Nat → Int32) × (Nat → Int32) × (Nat → Int32) × (Nat → Int32) × (Nat → Int32) × (Nat → Int32) × (Nat → Int32) × (Nat → Int64) × (Nat → Int32) × (Nat → Int64))) : (Int32 × Int32 × (Nat → Int32) × (Nat → Int32) × (Nat → Int64) × (Nat → Int32) × (Nat → Int32) × (Nat → Int32) × (Nat → Int32) × (Nat → Int32) × (Nat → Int32) × (Nat → Int32) × (Nat → Int64) × (Nat → Int32) × (Nat → Int64)) → Option ((Nat → Int32) × Int32 × Int32 × Int32 × (Nat → Int32) × (Nat → Int32) × (Nat → Int32) × (Nat → Int64) × (Nat → Int32) × (Nat → Int32) × (Nat → Int32) × (Nat → Int32) × (Nat → Int32) × (Nat → Int32) × (Nat → Int32) × (Nat → Int64) × (Nat → Int32) × (Nat → Int64)) := un15 fun (x58_5 : Int32) (x58_trial_been : Int32) (x58_trial_thingIn : Nat → Int32) (x58_trial_full : Nat → Int32) (x58_trial_heardBy : Nat → Int64) (x58_trial_dreamOf : Nat → Int32) (x58_trial_stateOf : Nat → Int32) (x58_trial_roomOf : Nat → Int32) (x58_trial_handOf : Nat → Int32) (x58_trial_awake : Nat → Int32) (x58_trial_how : Nat → Int32) (x58_trial_passed : Nat → Int32) (x58_set_rows : Nat → Int64) (x58_kin : Nat → Int32) (x58_plain_rows : Nat → Int64) => if v_count ≤ x58_5 then (j133 (upd x2_tried x2_3.toNatClampNeg 1, v_trial_setting_52, x58_trial_been, v_trial_ways_rooms_52, v_trial_ways_steps_52, x58_trial_thingIn, x58_trial_full, x58_trial_heardBy, x58_trial_dreamOf, x58_trial_stateOf, x58_trial_roomOf, x58_trial_handOf, x58_trial_awake, x58_trial_how, x58_trial_passed, x58_set_rows, x58_kin, x58_plain_rows)) else ((fX4_begind N (x58_5 * 3) v_trial_setting_52 v_inn_sleepers v_inn_house_doors v_inn_thingIn x58_trial_thingIn v_inn_full x58_trial_full x58_trial_heardBy v_dreams x58_trial_dreamOf x58_trial_stateOf v_inn_bed x58_trial_roomOf x58_trial_handOf x58_trial_awake v_inn_house_how x58_trial_how x58_trial_passed).bind (un11 fun (v_trial_been_79 : Int32) (v_trial_thingIn_79 : Nat → Int32) (v_trial_full_79 : Nat → Int32) (v_trial_heardBy_79 : Nat → Int64) (v_trial_dreamOf_79 : Nat → Int32) (v_trial_stateOf_79 : Nat → Int32) (v_trial_roomOf_79 : Nat → Int32) (v_trial_handOf_79 : Nat → Int32) (v_trial_awake_79 : Nat → Int32) (v_trial_how_79 : Nat → Int32) (v_trial_passed_79 : Nat → Int32) => (fX4_pass N v_inn_minutes v_trial_been_79 v_inn_sleepers v_inn_listeners v_trial_awake_79 v_trial_dreamOf_79 v_trial_stateOf_79 v_inn_states v_trial_roomOf_79 v_inn_house_doors v_inn_house_one v_inn_house_other v_trial_how_79 v_trial_thingIn_79 v_trial_full_79 v_trial_handOf_79 v_trial_ways_rooms_52 v_trial_ways_steps_52 v_inn_house_creak v_inn_listensIn v_inn_house_ways_steps v_trial_heardBy_79 v_inn_house_cold v_inn_house_falls v_trial_passed_79).bind (un11 fun (r_93 : Int32) (v_trial_been_93 : Int32) (v_trial_awake_93 : Nat → Int32) (v_trial_stateOf_93 : Nat → Int32) (v_trial_roomOf_93 : Nat → Int32) (v_trial_how_93 : Nat → Int32) (v_trial_thingIn_93 : Nat → Int32) (v_trial_full_93 : Nat → Int32) (v_trial_handOf_93 : Nat → Int32) (v_trial_heardBy_93 : Nat → Int64) (v_trial_passed_93 : Nat → Int32) => (fX3_keep N x58_5 v_trial_heardBy_93 x58_set_rows v_inn_things v_inn_sleepers v_inn_house_doors v_trial_roomOf_93 v_trial_awake_93 v_trial_how_93 v_trial_thingIn_93 v_trial_full_93).bind (un1 fun (v_set_rows_105 : Nat → Int64) => (fX3_firstLike N x58_5 v_set_rows_105).bind (un1 fun (r_123 : Int32) => gd ((x2_3 * 64) + x58_5) 1344 (rec58 (x58_5 + 1, v_trial_been_93, v_trial_thingIn_93, v_trial_full_93, v_trial_heardBy_93, v_trial_dreamOf_79, v_trial_stateOf_93, v_trial_roomOf_93, v_trial_handOf_93, v_trial_awake_93, v_trial_how_93, v_trial_passed_93, v_set_rows_105, upd x58_kin ((x2_3 * 64) + x58_5).toNatClampNeg r_123, x58_plain_rows)))))))
def BX0_tryOuts_58a (v_count : Int32) (j133 : ((Nat → Int32) × Int32 × Int32 × Int32 × (Nat → Int32) × (Nat → Int32) × (Nat → Int32) × (Nat → Int64) × (Nat → Int32) × (Nat → Int32) × (Nat → Int32) × (Nat → Int32) × (Nat → Int32) × (Nat → Int32) × (Nat → Int32) × (Nat → Int64) × (Nat → Int32) × (Nat → Int64)) → Option ((Nat → Int32) × Int32 × Int32 × Int32 × (Nat → Int32) × (Nat → Int32) × (Nat → Int32) × (Nat → Int64) × (Nat → Int32) × (Nat → Int32) × (Nat → Int32) × (Nat → Int32) × (Nat → Int32) × (Nat → Int32) × (Nat → Int32) × (Nat → Int64) × (Nat → Int32) × (Nat → Int64))) (x2_tried : Nat → Int32) (x2_3 : Int32) (v_trial_setting_52 : Int32) (v_trial_ways_rooms_52 : Int32) (v_trial_ways_steps_52 : Nat → Int32) (N : Nat) (v_inn_sleepers : Int32) (v_inn_house_doors : Int32) (v_inn_thingIn : Nat → Int32) (v_inn_full : Nat → Int32) (v_dreams : Nat → Int32) (v_inn_bed : Nat → Int32) (v_inn_house_how : Nat → Int32) (v_inn_minutes : Int32) (v_inn_listeners : Int32) (v_inn_states : Nat → Int32) (v_inn_house_one : Nat → Int32) (v_inn_house_other : Nat → Int32) (v_inn_house_creak : Nat → Int32) (v_inn_listensIn : Nat → Int32) (v_inn_house_ways_steps : Nat → Int32) (v_inn_house_cold : Nat → Int32) (v_inn_house_falls : Nat → Int32) (v_inn_things : Int32) (rec58a : (Int32 × Int32 × (Nat → Int32) × (Nat → Int32) × (Nat → Int64) × (Nat → Int32) × (Nat → Int32) × (Nat → Int32) × (Nat → Int32) × (Nat → Int32) × (Nat → Int32) × (Nat → Int32) × (Nat → Int64) × (Nat → Int32) × (Nat → Int64)) → Option ((Nat → Int32) × Int32 × Int32 × Int32 × (Nat → Int32) × (Nat → Int32) × (Nat → Int32) × (Nat → Int64) × (Nat → Int32) × (Nat → Int32) × (Nat → Int32) × (Nat → Int32) × (Nat → Int32) × (Nat → Int32) × (Nat → Int32) × (Nat → Int64) × (Nat → Int32) × (Nat → Int64))) : (Int32 × Int32 × (Nat → Int32) × (Nat → Int32) × (Nat → Int64) × (Nat → Int32) × (Nat → Int32) × (Nat → Int32) × (Nat → Int32) × (Nat → Int32) × (Nat → Int32) × (Nat → Int32) × (Nat → Int64) × (Nat → Int32) × (Nat → Int64)) → Option ((Nat → Int32) × Int32 × Int32 × Int32 × (Nat → Int32) × (Nat → Int32) × (Nat → Int32) × (Nat → Int64) × (Nat → Int32) × (Nat → Int32) × (Nat → Int32) × (Nat → Int32) × (Nat → Int32) × (Nat → Int32) × (Nat → Int32) × (Nat → Int64) × (Nat → Int32) × (Nat → Int64)) := un15 fun (x58a_5 : Int32) (x58a_trial_been : Int32) (x58a_trial_thingIn : Nat → Int32) (x58a_trial_full : Nat → Int32) (x58a_trial_heardBy : Nat → Int64) (x58a_trial_dreamOf : Nat → Int32) (x58a_trial_stateOf : Nat → Int32) (x58a_trial_roomOf : Nat → Int32) (x58a_trial_handOf : Nat → Int32) (x58a_trial_awake : Nat → Int32) (x58a_trial_how : Nat → Int32) (x58a_trial_passed : Nat → Int32) (x58a_set_rows : Nat → Int64) (x58a_kin : Nat → Int32) (x58a_plain_rows : Nat → Int64) => if v_count ≤ x58a_5 then (j133 (upd x2_tried x2_3.toNatClampNeg 1, v_trial_setting_52, x58a_trial_been, v_trial_ways_rooms_52, v_trial_ways_steps_52, x58a_trial_thingIn, x58a_trial_full, x58a_trial_heardBy, x58a_trial_dreamOf, x58a_trial_stateOf, x58a_trial_roomOf, x58a_trial_handOf, x58a_trial_awake, x58a_trial_how, x58a_trial_passed, x58a_set_rows, x58a_kin, x58a_plain_rows)) else ((fX4_begind N (x58a_5 * 3) v_trial_setting_52 v_inn_sleepers v_inn_house_doors v_inn_thingIn x58a_trial_thingIn v_inn_full x58a_trial_full x58a_trial_heardBy v_dreams x58a_trial_dreamOf x58a_trial_stateOf v_inn_bed x58a_trial_roomOf x58a_trial_handOf x58a_trial_awake v_inn_house_how x58a_trial_how x58a_trial_passed).bind (un11 fun (v_trial_been_79 : Int32) (v_trial_thingIn_79 : Nat → Int32) (v_trial_full_79 : Nat → Int32) (v_trial_heardBy_79 : Nat → Int64) (v_trial_dreamOf_79 : Nat → Int32) (v_trial_stateOf_79 : Nat → Int32) (v_trial_roomOf_79 : Nat → Int32) (v_trial_handOf_79 : Nat → Int32) (v_trial_awake_79 : Nat → Int32) (v_trial_how_79 : Nat → Int32) (v_trial_passed_79 : Nat → Int32) => (fX4_pass N v_inn_minutes v_trial_been_79 v_inn_sleepers v_inn_listeners v_trial_awake_79 v_trial_dreamOf_79 v_trial_stateOf_79 v_inn_states v_trial_roomOf_79 v_inn_house_doors v_inn_house_one v_inn_house_other v_trial_how_79 v_trial_thingIn_79 v_trial_full_79 v_trial_handOf_79 v_trial_ways_rooms_52 v_trial_ways_steps_52 v_inn_house_creak v_inn_listensIn v_inn_house_ways_steps v_trial_heardBy_79 v_inn_house_cold v_inn_house_falls v_trial_passed_79).bind (un11 fun (r_93 : Int32) (v_trial_been_93 : Int32) (v_trial_awake_93 : Nat → Int32) (v_trial_stateOf_93 : Nat → Int32) (v_trial_roomOf_93 : Nat → Int32) (v_trial_how_93 : Nat → Int32) (v_trial_thingIn_93 : Nat → Int32) (v_trial_full_93 : Nat → Int32) (v_trial_handOf_93 : Nat → Int32) (v_trial_heardBy_93 : Nat → Int64) (v_trial_passed_93 : Nat → Int32) => (fX3_keep N x58a_5 v_trial_heardBy_93 x58a_plain_rows v_inn_things v_inn_sleepers v_inn_house_doors v_trial_roomOf_93 v_trial_awake_93 v_trial_how_93 v_trial_thingIn_93 v_trial_full_93).bind (un1 fun (v_plain_rows_105 : Nat → Int64) => (fX3_firstLike N x58a_5 v_plain_rows_105).bind (un1 fun (r_123 : Int32) => gd ((x2_3 * 64) + x58a_5) 1344 (rec58a (x58a_5 + 1, v_trial_been_93, v_trial_thingIn_93, v_trial_full_93, v_trial_heardBy_93, v_trial_dreamOf_79, v_trial_stateOf_93, v_trial_roomOf_93, v_trial_handOf_93, v_trial_awake_93, v_trial_how_93, v_trial_passed_93, x58a_set_rows, upd x58a_kin ((x2_3 * 64) + x58a_5).toNatClampNeg r_123, v_plain_rows_105)))))))
def BX0_tryOuts_2 (p1 : Int32) (N : Nat) (v_inn_house_rooms : Int32) (v_inn_house_doors : Int32) (v_inn_house_how : Nat → Int32) (v_inn_house_one : Nat → Int32) (v_inn_house_other : Nat → Int32) (v_count : Int32) (v_inn_sleepers : Int32) (v_inn_thingIn : Nat → Int32) (v_inn_full : Nat → Int32) (v_dreams : Nat → Int32) (v_inn_bed : Nat → Int32) (v_inn_minutes : Int32) (v_inn_listeners : Int32) (v_inn_states : Nat → Int32) (v_inn_house_creak : Nat → Int32) (v_inn_listensIn : Nat → Int32) (v_inn_house_ways_steps : Nat → Int32) (v_inn_house_cold : Nat → Int32) (v_inn_house_falls : Nat → Int32) (v_inn_things : Int32) (rec2 : (Int32 × (Nat → Int32) × Int32 × Int32 × Int32 × (Nat → Int32) × (Nat → Int32) × (Nat → Int32) × (Nat → Int64) × (Nat → Int32) × (Nat → Int32) × (Nat → Int32) × (Nat → Int32) × (Nat → Int32) × (Nat → Int32) × (Nat → Int32) × (Nat → Int64) × (Nat → Int32) × (Nat → Int64)) → Option ((Nat → Int32) × Int32 × Int32 × Int32 × (Nat → Int32) × (Nat → Int32) × (Nat → Int32) × (Nat → Int64) × (Nat → Int32) × (Nat → Int32) × (Nat → Int32) × (Nat → Int32) × (Nat → Int32) × (Nat → Int32) × (Nat → Int32) × (Nat → Int64) × (Nat → Int32) × (Nat → Int64))) : (Int32 × (Nat → Int32) × Int32 × Int32 × Int32 × (Nat → Int32) × (Nat → Int32) × (Nat → Int32) × (Nat → Int64) × (Nat → Int32) × (Nat → Int32) × (Nat → Int32) × (Nat → Int32) × (Nat → Int32) × (Nat → Int32) × (Nat → Int32) × (Nat → Int64) × (Nat → Int32) × (Nat → Int64)) → Option ((Nat → Int32) × Int32 × Int32 × Int32 × (Nat → Int32) × (Nat → Int32) × (Nat → Int32) × (Nat → Int64) × (Nat → Int32) × (Nat → Int32) × (Nat → Int32) × (Nat → Int32) × (Nat → Int32) × (Nat → Int32) × (Nat → Int32) × (Nat → Int64) × (Nat → Int32) × (Nat → Int64)) := un19 fun (x2_3 : Int32) (x2_tried : Nat → Int32) (x2_trial_setting : Int32) (x2_trial_been : Int32) (x2_trial_ways_rooms : Int32) (x2_trial_ways_steps : Nat → Int32) (x2_trial_thingIn : Nat → Int32) (x2_trial_full : Nat → Int32) (x2_trial_heardBy : Nat → Int64) (x2_trial_dreamOf : Nat → Int32) (x2_trial_stateOf : Nat → Int32) (x2_trial_roomOf : Nat → Int32) (x2_trial_handOf : Nat → Int32) (x2_trial_awake : Nat → Int32) (x2_trial_how : Nat → Int32) (x2_trial_passed : Nat → Int32) (x2_set_rows : Nat → Int64) (x2_kin : Nat → Int32) (x2_plain_rows : Nat → Int64) => if p1 < x2_3 then (some (x2_tried, x2_trial_setting, x2_trial_been, x2_trial_ways_rooms, x2_trial_ways_steps, x2_trial_thingIn, x2_trial_full, x2_trial_heardBy, x2_trial_dreamOf, x2_trial_stateOf, x2_trial_roomOf, x2_trial_handOf, x2_trial_awake, x2_trial_how, x2_trial_passed, x2_set_rows, x2_kin, x2_plain_rows)) else (gd x2_3 21 (jn (un18 fun (x133_tried : Nat → Int32) (x133_trial_setting : Int32) (x133_trial_been : Int32) (x133_trial_ways_rooms : Int32) (x133_trial_ways_steps : Nat → Int32) (x133_trial_thingIn : Nat → Int32) (x133_trial_full : Nat → Int32) (x133_trial_heardBy : Nat → Int64) (x133_trial_dreamOf : Nat → Int32) (x133_trial_stateOf : Nat → Int32) (x133_trial_roomOf : Nat → Int32) (x133_trial_handOf : Nat → Int32) (x133_trial_awake : Nat → Int32) (x133_trial_how : Nat → Int32) (x133_trial_passed : Nat → Int32) (x133_set_rows : Nat → Int64) (x133_kin : Nat → Int32) (x133_plain_rows : Nat → Int64) => rec2 (x2_3 + 1, x133_tried, x133_trial_setting, x133_trial_been, x133_trial_ways_rooms, x133_trial_ways_steps, x133_trial_thingIn, x133_trial_full, x133_trial_heardBy, x133_trial_dreamOf, x133_trial_stateOf, x133_trial_roomOf, x133_trial_handOf, x133_trial_awake, x133_trial_how, x133_trial_passed, x133_set_rows, x133_kin, x133_plain_rows)) (fun j133 => if (x2_tried x2_3.toNatClampNeg) = 0 then (gd x2_3 21 (if x2_3 = 0 then ((fX4_prepare N x2_3 v_inn_house_rooms v_inn_house_doors v_inn_house_how x2_trial_ways_steps v_inn_house_one v_inn_house_other).bind (un3 fun (v_trial_setting_52 : Int32) (v_trial_ways_rooms_52 : Int32) (v_trial_ways_steps_52 : Nat → Int32) => lp (BX0_tryOuts_58a v_count j133 x2_tried x2_3 v_trial_setting_52 v_trial_ways_rooms_52 v_trial_ways_steps_52 N v_inn_sleepers v_inn_house_doors v_inn_thingIn v_inn_full v_dreams v_inn_bed v_inn_house_how v_inn_minutes v_inn_listeners v_inn_states v_inn_house_one v_inn_house_other v_inn_house_creak v_inn_listensIn v_inn_house_ways_steps v_inn_house_cold v_inn_house_falls v_inn_things) N (0, x2_trial_been, x2_trial_thingIn, x2_trial_full, x2_trial_heardBy, x2_trial_dreamOf, x2_trial_stateOf, x2_trial_roomOf, x2_trial_handOf, x2_trial_awake, x2_trial_how, x2_trial_passed, x2_set_rows, x2_kin, x2_plain_rows))) else ((fX4_prepare N x2_3 v_inn_house_rooms v_inn_house_doors v_inn_house_how x2_trial_ways_steps v_inn_house_one v_inn_house_other).bind (un3 fun (v_trial_setting_52 : Int32) (v_trial_ways_rooms_52 : Int32) (v_trial_ways_steps_52 : Nat → Int32) => lp (BX0_tryOuts_58 v_count j133 x2_tried x2_3 v_trial_setting_52 v_trial_ways_rooms_52 v_trial_ways_steps_52 N v_inn_sleepers v_inn_house_doors v_inn_thingIn v_inn_full v_dreams v_inn_bed v_inn_house_how v_inn_minutes v_inn_listeners v_inn_states v_inn_house_one v_inn_house_other v_inn_house_creak v_inn_listensIn v_inn_house_ways_steps v_inn_house_cold v_inn_house_falls v_inn_things) N (0, x2_trial_been, x2_trial_thingIn, x2_trial_full, x2_trial_heardBy, x2_trial_dreamOf, x2_trial_stateOf, x2_trial_roomOf, x2_trial_handOf, x2_trial_awake, x2_trial_how, x2_trial_passed, x2_set_rows, x2_kin, x2_plain_rows))))) else (j133 (x2_tried, x2_trial_setting, x2_trial_been, x2_trial_ways_rooms, x2_trial_ways_steps, x2_trial_thingIn, x2_trial_full, x2_trial_heardBy, x2_trial_dreamOf, x2_trial_stateOf, x2_trial_roomOf, x2_trial_handOf, x2_trial_awake, x2_trial_how, x2_trial_passed, x2_set_rows, x2_kin, x2_plain_rows)))))
def fX0_tryOuts (N : Nat) (p0 : Int32) (p1 : Int32) (v_count : Int32) (v_tried : Nat → Int32) (v_trial_setting : Int32) (v_trial_been : Int32) (v_inn_minutes : Int32) (v_inn_things : Int32) (v_inn_sleepers : Int32) (v_inn_listeners : Int32) (v_inn_house_rooms : Int32) (v_inn_house_doors : Int32) (v_inn_house_how : Nat → Int32) (v_trial_ways_rooms : Int32) (v_trial_ways_steps : Nat → Int32) (v_inn_house_one : Nat → Int32) (v_inn_house_other : Nat → Int32) (v_inn_thingIn : Nat → Int32) (v_trial_thingIn : Nat → Int32) (v_inn_full : Nat → Int32) (v_trial_full : Nat → Int32) (v_trial_heardBy : Nat → Int64) (v_dreams : Nat → Int32) (v_trial_dreamOf : Nat → Int32) (v_trial_stateOf : Nat → Int32) (v_inn_bed : Nat → Int32) (v_trial_roomOf : Nat → Int32) (v_trial_handOf : Nat → Int32) (v_trial_awake : Nat → Int32) (v_trial_how : Nat → Int32) (v_trial_passed : Nat → Int32) (v_inn_states : Nat → Int32) (v_inn_house_creak : Nat → Int32) (v_inn_listensIn : Nat → Int32) (v_inn_house_ways_steps : Nat → Int32) (v_inn_house_cold : Nat → Int32) (v_inn_house_falls : Nat → Int32) (v_set_rows : Nat → Int64) (v_kin : Nat → Int32) (v_plain_rows : Nat → Int64) : Option ((Nat → Int32) × Int32 × Int32 × Int32 × (Nat → Int32) × (Nat → Int32) × (Nat → Int32) × (Nat → Int64) × (Nat → Int32) × (Nat → Int32) × (Nat → Int32) × (Nat → Int32) × (Nat → Int32) × (Nat → Int32) × (Nat → Int32) × (Nat → Int64) × (Nat → Int32) × (Nat → Int64)) := lp (BX0_tryOuts_2 p1 N v_inn_house_rooms v_inn_house_doors v_inn_house_how v_inn_house_one v_inn_house_other v_count v_inn_sleepers v_inn_thingIn v_inn_full v_dreams v_inn_bed v_inn_minutes v_inn_listeners v_inn_states v_inn_house_creak v_inn_listensIn v_inn_house_ways_steps v_inn_house_cold v_inn_house_falls v_inn_things) N (p0, v_tried, v_trial_setting, v_trial_been, v_trial_ways_rooms, v_trial_ways_steps, v_trial_thingIn, v_trial_full, v_trial_heardBy, v_trial_dreamOf, v_trial_stateOf, v_trial_roomOf, v_trial_handOf, v_trial_awake, v_trial_how, v_trial_passed, v_set_rows, v_kin, v_plain_rows)
set_option maxHeartbeats 4000000 in
set_option maxRecDepth 100000 in
theorem ctX0_tryOuts (l : Launch) (E : EN) (h h_trial h_inn h_dreams h_plain h_set h_tried h_kin h_fitters h_trial_ways h_trial_how h_trial_passed h_trial_dreamOf h_trial_stateOf h_trial_roomOf h_trial_handOf h_trial_awake h_trial_thingIn h_trial_full h_trial_heardBy h_inn_house h_inn_thingIn h_inn_full h_inn_states h_inn_bed h_inn_dreamOf h_inn_listensIn h_inn_house_creak h_inn_house_cold h_inn_house_one h_inn_house_other h_inn_house_how h_inn_house_falls h_inn_house_ways h_trial_ways_steps h_inn_house_ways_steps h_set_rows h_plain_rows : Nat) (v_count : Int32) (v_fitting : Int32) (v_tried : Nat → Int32) (v_trial_setting : Int32) (v_trial_been : Int32) (v_inn_minutes : Int32) (v_inn_things : Int32) (v_inn_dreams : Int32) (v_inn_sleepers : Int32) (v_inn_listeners : Int32) (v_inn_house_rooms : Int32) (v_inn_house_doors : Int32) (v_inn_house_how : Nat → Int32) (v_trial_ways_rooms : Int32) (v_trial_ways_steps : Nat → Int32) (v_inn_house_one : Nat → Int32) (v_inn_house_other : Nat → Int32) (v_inn_thingIn : Nat → Int32) (v_trial_thingIn : Nat → Int32) (v_inn_full : Nat → Int32) (v_trial_full : Nat → Int32) (v_trial_heardBy : Nat → Int64) (v_dreams : Nat → Int32) (v_trial_dreamOf : Nat → Int32) (v_trial_stateOf : Nat → Int32) (v_inn_bed : Nat → Int32) (v_trial_roomOf : Nat → Int32) (v_trial_handOf : Nat → Int32) (v_trial_awake : Nat → Int32) (v_trial_how : Nat → Int32) (v_trial_passed : Nat → Int32) (v_inn_states : Nat → Int32) (v_inn_house_creak : Nat → Int32) (v_inn_listensIn : Nat → Int32) (v_inn_house_ways_rooms : Int32) (v_inn_house_ways_steps : Nat → Int32) (v_inn_house_cold : Nat → Int32) (v_inn_house_falls : Nat → Int32) (v_set_rows : Nat → Int64) (v_kin : Nat → Int32) (v_plain_rows : Nat → Int64) (N : Nat) (p0 : Int32) (p1 : Int32) (z : (Nat → Int32) × Int32 × Int32 × Int32 × (Nat → Int32) × (Nat → Int32) × (Nat → Int32) × (Nat → Int64) × (Nat → Int32) × (Nat → Int32) × (Nat → Int32) × (Nat → Int32) × (Nat → Int32) × (Nat → Int32) × (Nat → Int32) × (Nat → Int64) × (Nat → Int32) × (Nat → Int64)) (hf : fX0_tryOuts N p0 p1 v_count v_tried v_trial_setting v_trial_been v_inn_minutes v_inn_things v_inn_sleepers v_inn_listeners v_inn_house_rooms v_inn_house_doors v_inn_house_how v_trial_ways_rooms v_trial_ways_steps v_inn_house_one v_inn_house_other v_inn_thingIn v_trial_thingIn v_inn_full v_trial_full v_trial_heardBy v_dreams v_trial_dreamOf v_trial_stateOf v_inn_bed v_trial_roomOf v_trial_handOf v_trial_awake v_trial_how v_trial_passed v_inn_states v_inn_house_creak v_inn_listensIn v_inn_house_ways_steps v_inn_house_cold v_inn_house_falls v_set_rows v_kin v_plain_rows = some z) : CTv l E yX0_tryOut cX0_tryOut 6 5 119 [.ref h, .int p0, .int p1] (wX0_tryOuts E h h_trial h_inn h_dreams h_plain h_set h_tried h_kin h_fitters h_trial_ways h_trial_how h_trial_passed h_trial_dreamOf h_trial_stateOf h_trial_roomOf h_trial_handOf h_trial_awake h_trial_thingIn h_trial_full h_trial_heardBy h_inn_house h_inn_thingIn h_inn_full h_inn_states h_inn_bed h_inn_dreamOf h_inn_listensIn h_inn_house_creak h_inn_house_cold h_inn_house_one h_inn_house_other h_inn_house_how h_inn_house_falls h_inn_house_ways h_trial_ways_steps h_inn_house_ways_steps h_set_rows h_plain_rows v_count v_fitting v_tried v_trial_setting v_trial_been v_inn_minutes v_inn_things v_inn_dreams v_inn_sleepers v_inn_listeners v_inn_house_rooms v_inn_house_doors v_inn_house_how v_trial_ways_rooms v_trial_ways_steps v_inn_house_one v_inn_house_other v_inn_thingIn v_trial_thingIn v_inn_full v_trial_full v_trial_heardBy v_dreams v_trial_dreamOf v_trial_stateOf v_inn_bed v_trial_roomOf v_trial_handOf v_trial_awake v_trial_how v_trial_passed v_inn_states v_inn_house_creak v_inn_listensIn v_inn_house_ways_rooms v_inn_house_ways_steps v_inn_house_cold v_inn_house_falls v_set_rows v_kin v_plain_rows) (wX0_tryOuts E h h_trial h_inn h_dreams h_plain h_set h_tried h_kin h_fitters h_trial_ways h_trial_how h_trial_passed h_trial_dreamOf h_trial_stateOf h_trial_roomOf h_trial_handOf h_trial_awake h_trial_thingIn h_trial_full h_trial_heardBy h_inn_house h_inn_thingIn h_inn_full h_inn_states h_inn_bed h_inn_dreamOf h_inn_listensIn h_inn_house_creak h_inn_house_cold h_inn_house_one h_inn_house_other h_inn_house_how h_inn_house_falls h_inn_house_ways h_trial_ways_steps h_inn_house_ways_steps h_set_rows h_plain_rows v_count v_fitting z.1 z.2.1 z.2.2.1 v_inn_minutes v_inn_things v_inn_dreams v_inn_sleepers v_inn_listeners v_inn_house_rooms v_inn_house_doors v_inn_house_how z.2.2.2.1 z.2.2.2.2.1 v_inn_house_one v_inn_house_other v_inn_thingIn z.2.2.2.2.2.1 v_inn_full z.2.2.2.2.2.2.1 z.2.2.2.2.2.2.2.1 v_dreams z.2.2.2.2.2.2.2.2.1 z.2.2.2.2.2.2.2.2.2.1 v_inn_bed z.2.2.2.2.2.2.2.2.2.2.1 z.2.2.2.2.2.2.2.2.2.2.2.1 z.2.2.2.2.2.2.2.2.2.2.2.2.1 z.2.2.2.2.2.2.2.2.2.2.2.2.2.1 z.2.2.2.2.2.2.2.2.2.2.2.2.2.2.1 v_inn_states v_inn_house_creak v_inn_listensIn v_inn_house_ways_rooms v_inn_house_ways_steps v_inn_house_cold v_inn_house_falls z.2.2.2.2.2.2.2.2.2.2.2.2.2.2.2.1 z.2.2.2.2.2.2.2.2.2.2.2.2.2.2.2.2.1 z.2.2.2.2.2.2.2.2.2.2.2.2.2.2.2.2.2) := by
  intro sz
  refine ct_body (by decide) (Nat.le_of_ble_eq_true rfl) ?_
  intro p e s m args below meth c A ls hAe C hr hin hP hD hS hl
  have C : CX p s m args meth c cX0_tryOut RX0 6 E A := C
  have hl : lv_has ls 6 [(0, .ref h), (1, .int p0), (2, .int p1)] := hl
  have hx := C.1
  have hb := C.2.1
  rw [hAe]
  clear hAe
  obtain ⟨Q, hQ⟩ : ∃ Q, Q = MQ below (Qv E A (wX0_tryOuts E h h_trial h_inn h_dreams h_plain h_set h_tried h_kin h_fitters h_trial_ways h_trial_how h_trial_passed h_trial_dreamOf h_trial_stateOf h_trial_roomOf h_trial_handOf h_trial_awake h_trial_thingIn h_trial_full h_trial_heardBy h_inn_house h_inn_thingIn h_inn_full h_inn_states h_inn_bed h_inn_dreamOf h_inn_listensIn h_inn_house_creak h_inn_house_cold h_inn_house_one h_inn_house_other h_inn_house_how h_inn_house_falls h_inn_house_ways h_trial_ways_steps h_inn_house_ways_steps h_set_rows h_plain_rows v_count v_fitting z.1 z.2.1 z.2.2.1 v_inn_minutes v_inn_things v_inn_dreams v_inn_sleepers v_inn_listeners v_inn_house_rooms v_inn_house_doors v_inn_house_how z.2.2.2.1 z.2.2.2.2.1 v_inn_house_one v_inn_house_other v_inn_thingIn z.2.2.2.2.2.1 v_inn_full z.2.2.2.2.2.2.1 z.2.2.2.2.2.2.2.1 v_dreams z.2.2.2.2.2.2.2.2.1 z.2.2.2.2.2.2.2.2.2.1 v_inn_bed z.2.2.2.2.2.2.2.2.2.2.1 z.2.2.2.2.2.2.2.2.2.2.2.1 z.2.2.2.2.2.2.2.2.2.2.2.2.1 z.2.2.2.2.2.2.2.2.2.2.2.2.2.1 z.2.2.2.2.2.2.2.2.2.2.2.2.2.2.1 v_inn_states v_inn_house_creak v_inn_listensIn v_inn_house_ways_rooms v_inn_house_ways_steps v_inn_house_cold v_inn_house_falls z.2.2.2.2.2.2.2.2.2.2.2.2.2.2.2.1 z.2.2.2.2.2.2.2.2.2.2.2.2.2.2.2.2.1 z.2.2.2.2.2.2.2.2.2.2.2.2.2.2.2.2.2)) args s 0 0 A := ⟨_, rfl⟩
  rw [← hQ]
  unfold fX0_tryOuts at hf
  refine lv_iload_n (pc := 0) hx hb dX0_tryOut_0 rfl (lv_at hl 1 rfl) ?_
  refine lv_istore_n (pc := 1) (lv' := [(3, .int p0), (0, .ref h), (1, .int p0), (2, .int p1)]) hx hb dX0_tryOut_1 rfl hl (by decide) rfl (fun ls hl => ?_)
  have key2 : ∀ (n : Nat) (x2_3 : Int32) (x2_tried : Nat → Int32) (x2_trial_setting : Int32) (x2_trial_been : Int32) (x2_trial_ways_rooms : Int32) (x2_trial_ways_steps : Nat → Int32) (x2_trial_thingIn : Nat → Int32) (x2_trial_full : Nat → Int32) (x2_trial_heardBy : Nat → Int64) (x2_trial_dreamOf : Nat → Int32) (x2_trial_stateOf : Nat → Int32) (x2_trial_roomOf : Nat → Int32) (x2_trial_handOf : Nat → Int32) (x2_trial_awake : Nat → Int32) (x2_trial_how : Nat → Int32) (x2_trial_passed : Nat → Int32) (x2_set_rows : Nat → Int64) (x2_kin : Nat → Int32) (x2_plain_rows : Nat → Int64) , lp (BX0_tryOuts_2 p1 N v_inn_house_rooms v_inn_house_doors v_inn_house_how v_inn_house_one v_inn_house_other v_count v_inn_sleepers v_inn_thingIn v_inn_full v_dreams v_inn_bed v_inn_minutes v_inn_listeners v_inn_states v_inn_house_creak v_inn_listensIn v_inn_house_ways_steps v_inn_house_cold v_inn_house_falls v_inn_things) n (x2_3, x2_tried, x2_trial_setting, x2_trial_been, x2_trial_ways_rooms, x2_trial_ways_steps, x2_trial_thingIn, x2_trial_full, x2_trial_heardBy, x2_trial_dreamOf, x2_trial_stateOf, x2_trial_roomOf, x2_trial_handOf, x2_trial_awake, x2_trial_how, x2_trial_passed, x2_set_rows, x2_kin, x2_plain_rows) = some z → AT p l e (rmOf 5 119) s m args below meth c E A Q 0 0 6 [(0, .ref h), (2, .int p1), (3, .int x2_3)] (wX0_tryOuts E h h_trial h_inn h_dreams h_plain h_set h_tried h_kin h_fitters h_trial_ways h_trial_how h_trial_passed h_trial_dreamOf h_trial_stateOf h_trial_roomOf h_trial_handOf h_trial_awake h_trial_thingIn h_trial_full h_trial_heardBy h_inn_house h_inn_thingIn h_inn_full h_inn_states h_inn_bed h_inn_dreamOf h_inn_listensIn h_inn_house_creak h_inn_house_cold h_inn_house_one h_inn_house_other h_inn_house_how h_inn_house_falls h_inn_house_ways h_trial_ways_steps h_inn_house_ways_steps h_set_rows h_plain_rows v_count v_fitting x2_tried x2_trial_setting x2_trial_been v_inn_minutes v_inn_things v_inn_dreams v_inn_sleepers v_inn_listeners v_inn_house_rooms v_inn_house_doors v_inn_house_how x2_trial_ways_rooms x2_trial_ways_steps v_inn_house_one v_inn_house_other v_inn_thingIn x2_trial_thingIn v_inn_full x2_trial_full x2_trial_heardBy v_dreams x2_trial_dreamOf x2_trial_stateOf v_inn_bed x2_trial_roomOf x2_trial_handOf x2_trial_awake x2_trial_how x2_trial_passed v_inn_states v_inn_house_creak v_inn_listensIn v_inn_house_ways_rooms v_inn_house_ways_steps v_inn_house_cold v_inn_house_falls x2_set_rows x2_kin x2_plain_rows) 2 [] := by
    intro n
    induction n with
    | zero => intro x2_3 x2_tried x2_trial_setting x2_trial_been x2_trial_ways_rooms x2_trial_ways_steps x2_trial_thingIn x2_trial_full x2_trial_heardBy x2_trial_dreamOf x2_trial_stateOf x2_trial_roomOf x2_trial_handOf x2_trial_awake x2_trial_how x2_trial_passed x2_set_rows x2_kin x2_plain_rows hf; exact (lp_0 hf).elim
    | succ n ih2 =>
      intro x2_3 x2_tried x2_trial_setting x2_trial_been x2_trial_ways_rooms x2_trial_ways_steps x2_trial_thingIn x2_trial_full x2_trial_heardBy x2_trial_dreamOf x2_trial_stateOf x2_trial_roomOf x2_trial_handOf x2_trial_awake x2_trial_how x2_trial_passed x2_set_rows x2_kin x2_plain_rows hf H locs ls hl hP hD hS
      replace hf := lp_s hf
      generalize lp (BX0_tryOuts_2 p1 N v_inn_house_rooms v_inn_house_doors v_inn_house_how v_inn_house_one v_inn_house_other v_count v_inn_sleepers v_inn_thingIn v_inn_full v_dreams v_inn_bed v_inn_minutes v_inn_listeners v_inn_states v_inn_house_creak v_inn_listensIn v_inn_house_ways_steps v_inn_house_cold v_inn_house_falls v_inn_things) n = rec2 at ih2 hf
      unfold BX0_tryOuts_2 at hf
      replace hf := un19_s hf
      refine lv_iload_n (pc := 2) hx hb dX0_tryOut_2 rfl (lv_at hl 2 rfl) ?_
      refine lv_iload_n (pc := 3) hx hb dX0_tryOut_3 rfl (lv_at hl 1 rfl) ?_
      refine lv_icmp_gt (pc := 4) (tgt := 139) hx hb dX0_tryOut_4 (by decide) (fun c_4 => ?_) (fun c_4 => ?_)
      · replace hf := it_t c_4 hf
        cases hf
        rw [hQ]
        exact r_vret C hr hP hD hS dX0_tryOut_139
      · replace hf := it_f c_4 hf
        refine lv_aload_n (pc := 7) hx hb dX0_tryOut_7 rfl (lv_at hl 0 rfl) ?_
        refine r_get (pc := 8) C hP 0 rfl fl_X0_25 rfl dX0_tryOut_8 ?_
        refine lv_iload_n (pc := 11) hx hb dX0_tryOut_11 rfl (lv_at hl 2 rfl) ?_
        obtain ⟨hi_12, hf⟩ := gd_s hf
        refine r_zald (pc := 12) C hP 1 rfl hi_12 dX0_tryOut_12 ?_
        refine jnK hf (fun j133 ej133 hf => ?_)
        have hj133 : ∀ (x133_tried : Nat → Int32) (x133_trial_setting : Int32) (x133_trial_been : Int32) (x133_trial_ways_rooms : Int32) (x133_trial_ways_steps : Nat → Int32) (x133_trial_thingIn : Nat → Int32) (x133_trial_full : Nat → Int32) (x133_trial_heardBy : Nat → Int64) (x133_trial_dreamOf : Nat → Int32) (x133_trial_stateOf : Nat → Int32) (x133_trial_roomOf : Nat → Int32) (x133_trial_handOf : Nat → Int32) (x133_trial_awake : Nat → Int32) (x133_trial_how : Nat → Int32) (x133_trial_passed : Nat → Int32) (x133_set_rows : Nat → Int64) (x133_kin : Nat → Int32) (x133_plain_rows : Nat → Int64) , j133 (x133_tried, x133_trial_setting, x133_trial_been, x133_trial_ways_rooms, x133_trial_ways_steps, x133_trial_thingIn, x133_trial_full, x133_trial_heardBy, x133_trial_dreamOf, x133_trial_stateOf, x133_trial_roomOf, x133_trial_handOf, x133_trial_awake, x133_trial_how, x133_trial_passed, x133_set_rows, x133_kin, x133_plain_rows) = some z → AT p l e (rmOf 5 119) s m args below meth c E A Q 0 0 6 [(0, .ref h), (2, .int p1), (3, .int x2_3)] (wX0_tryOuts E h h_trial h_inn h_dreams h_plain h_set h_tried h_kin h_fitters h_trial_ways h_trial_how h_trial_passed h_trial_dreamOf h_trial_stateOf h_trial_roomOf h_trial_handOf h_trial_awake h_trial_thingIn h_trial_full h_trial_heardBy h_inn_house h_inn_thingIn h_inn_full h_inn_states h_inn_bed h_inn_dreamOf h_inn_listensIn h_inn_house_creak h_inn_house_cold h_inn_house_one h_inn_house_other h_inn_house_how h_inn_house_falls h_inn_house_ways h_trial_ways_steps h_inn_house_ways_steps h_set_rows h_plain_rows v_count v_fitting x133_tried x133_trial_setting x133_trial_been v_inn_minutes v_inn_things v_inn_dreams v_inn_sleepers v_inn_listeners v_inn_house_rooms v_inn_house_doors v_inn_house_how x133_trial_ways_rooms x133_trial_ways_steps v_inn_house_one v_inn_house_other v_inn_thingIn x133_trial_thingIn v_inn_full x133_trial_full x133_trial_heardBy v_dreams x133_trial_dreamOf x133_trial_stateOf v_inn_bed x133_trial_roomOf x133_trial_handOf x133_trial_awake x133_trial_how x133_trial_passed v_inn_states v_inn_house_creak v_inn_listensIn v_inn_house_ways_rooms v_inn_house_ways_steps v_inn_house_cold v_inn_house_falls x133_set_rows x133_kin x133_plain_rows) 133 [] := by
          intro x133_tried x133_trial_setting x133_trial_been x133_trial_ways_rooms x133_trial_ways_steps x133_trial_thingIn x133_trial_full x133_trial_heardBy x133_trial_dreamOf x133_trial_stateOf x133_trial_roomOf x133_trial_handOf x133_trial_awake x133_trial_how x133_trial_passed x133_set_rows x133_kin x133_plain_rows hf H locs ls hl hP hD hS
          rw [ej133] at hf
          replace hf := un18_s hf
          refine lv_iinc (pc := 133) (v := x2_3 + 1) (lv' := [(3, .int (x2_3 + 1)), (0, .ref h), (2, .int p1)]) hx hb dX0_tryOut_133 hl (k := 2) rfl rfl (by decide) rfl (fun ls hl => ?_)
          refine lv_goto (pc := 136) (tgt := 2) hx hb dX0_tryOut_136 (by decide) ?_
          exact ih2 (x2_3 + 1) x133_tried x133_trial_setting x133_trial_been x133_trial_ways_rooms x133_trial_ways_steps x133_trial_thingIn x133_trial_full x133_trial_heardBy x133_trial_dreamOf x133_trial_stateOf x133_trial_roomOf x133_trial_handOf x133_trial_awake x133_trial_how x133_trial_passed x133_set_rows x133_kin x133_plain_rows hf _ _ _ (lv_sub hl [1, 2, 0] rfl) hP hD hS
        clear ej133
        refine lv_if_eq (pc := 13) (tgt := 19) hx hb dX0_tryOut_13 (by decide) (fun c_13 => ?_) (fun c_13 => ?_)
        · replace hf := it_t c_13 hf
          refine lv_aload_n (pc := 19) hx hb dX0_tryOut_19 rfl (lv_at hl 0 rfl) ?_
          refine r_get (pc := 20) C hP 0 rfl fl_X0_25 rfl dX0_tryOut_20 ?_
          refine lv_iload_n (pc := 23) hx hb dX0_tryOut_23 rfl (lv_at hl 2 rfl) ?_
          refine lv_iconst (pc := 24) (v := 1) hx hb dX0_tryOut_24 (by decide) ?_
          obtain ⟨hi_25, hf⟩ := gd_s hf
          refine r_zast (pc := 25) (ws' := (wX0_tryOuts E h h_trial h_inn h_dreams h_plain h_set h_tried h_kin h_fitters h_trial_ways h_trial_how h_trial_passed h_trial_dreamOf h_trial_stateOf h_trial_roomOf h_trial_handOf h_trial_awake h_trial_thingIn h_trial_full h_trial_heardBy h_inn_house h_inn_thingIn h_inn_full h_inn_states h_inn_bed h_inn_dreamOf h_inn_listensIn h_inn_house_creak h_inn_house_cold h_inn_house_one h_inn_house_other h_inn_house_how h_inn_house_falls h_inn_house_ways h_trial_ways_steps h_inn_house_ways_steps h_set_rows h_plain_rows v_count v_fitting (upd x2_tried x2_3.toNatClampNeg 1) x2_trial_setting x2_trial_been v_inn_minutes v_inn_things v_inn_dreams v_inn_sleepers v_inn_listeners v_inn_house_rooms v_inn_house_doors v_inn_house_how x2_trial_ways_rooms x2_trial_ways_steps v_inn_house_one v_inn_house_other v_inn_thingIn x2_trial_thingIn v_inn_full x2_trial_full x2_trial_heardBy v_dreams x2_trial_dreamOf x2_trial_stateOf v_inn_bed x2_trial_roomOf x2_trial_handOf x2_trial_awake x2_trial_how x2_trial_passed v_inn_states v_inn_house_creak v_inn_listensIn v_inn_house_ways_rooms v_inn_house_ways_steps v_inn_house_cold v_inn_house_falls x2_set_rows x2_kin x2_plain_rows)) C hP hD hS 1 rfl hi_25 (Or.inr rfl) rfl dX0_tryOut_25 ?_
          clear hP hD hS; intro H locs hP hD hS
          refine lv_iload_n (pc := 26) hx hb dX0_tryOut_26 rfl (lv_at hl 2 rfl) ?_
          refine lv_if_ne (pc := 27) (tgt := 37) hx hb dX0_tryOut_27 (by decide) (fun c_27 => ?_) (fun c_27 => ?_)
          · replace hf := it_f c_27 hf
            refine lv_aload_n (pc := 37) hx hb dX0_tryOut_37 rfl (lv_at hl 0 rfl) ?_
            refine r_get (pc := 38) C hP 0 rfl fl_X0_22 rfl dX0_tryOut_38 ?_
            refine lv_astore (pc := 41) (lv' := [(4, .ref h_set), (0, .ref h), (2, .int p1), (3, .int x2_3)]) hx hb dX0_tryOut_41 hl (by decide) rfl (fun ls hl => ?_)
            refine lv_aload_n (pc := 43) hx hb dX0_tryOut_43 rfl (lv_at hl 1 rfl) ?_
            refine r_get (pc := 44) C hP 0 rfl fl_X0_44 rfl dX0_tryOut_44 ?_
            refine lv_aload_n (pc := 47) hx hb dX0_tryOut_47 rfl (lv_at hl 1 rfl) ?_
            refine r_get (pc := 48) C hP 0 rfl fl_X0_35 rfl dX0_tryOut_48 ?_
            refine lv_iload_n (pc := 51) hx hb dX0_tryOut_51 rfl (lv_at hl 3 rfl) ?_
            obtain ⟨v_trial_setting_52, v_trial_ways_rooms_52, v_trial_ways_steps_52, hc_52, hf⟩ := bd3 hf
            refine r_dalVv (pc := 52) (ws' := (wX0_tryOuts E h h_trial h_inn h_dreams h_plain h_set h_tried h_kin h_fitters h_trial_ways h_trial_how h_trial_passed h_trial_dreamOf h_trial_stateOf h_trial_roomOf h_trial_handOf h_trial_awake h_trial_thingIn h_trial_full h_trial_heardBy h_inn_house h_inn_thingIn h_inn_full h_inn_states h_inn_bed h_inn_dreamOf h_inn_listensIn h_inn_house_creak h_inn_house_cold h_inn_house_one h_inn_house_other h_inn_house_how h_inn_house_falls h_inn_house_ways h_trial_ways_steps h_inn_house_ways_steps h_set_rows h_plain_rows v_count v_fitting (upd x2_tried x2_3.toNatClampNeg 1) v_trial_setting_52 x2_trial_been v_inn_minutes v_inn_things v_inn_dreams v_inn_sleepers v_inn_listeners v_inn_house_rooms v_inn_house_doors v_inn_house_how v_trial_ways_rooms_52 v_trial_ways_steps_52 v_inn_house_one v_inn_house_other v_inn_thingIn x2_trial_thingIn v_inn_full x2_trial_full x2_trial_heardBy v_dreams x2_trial_dreamOf x2_trial_stateOf v_inn_bed x2_trial_roomOf x2_trial_handOf x2_trial_awake x2_trial_how x2_trial_passed v_inn_states v_inn_house_creak v_inn_listensIn v_inn_house_ways_rooms v_inn_house_ways_steps v_inn_house_cold v_inn_house_falls x2_set_rows x2_kin x2_plain_rows)) (As := [.ref h_inn, .int x2_3]) (rest := []) C (ctX4_prepare l E h_trial h_trial_ways h_trial_how h_trial_passed h_trial_dreamOf h_trial_stateOf h_trial_roomOf h_trial_handOf h_trial_awake h_trial_thingIn h_trial_full h_trial_heardBy h_inn h_inn_house h_inn_thingIn h_inn_full h_inn_states h_inn_bed h_inn_dreamOf h_inn_listensIn h_inn_house_creak h_inn_house_cold h_inn_house_one h_inn_house_other h_inn_house_how h_inn_house_falls h_inn_house_ways h_trial_ways_steps (some h_inn) x2_trial_setting x2_trial_been v_inn_minutes v_inn_things v_inn_dreams v_inn_sleepers v_inn_listeners v_inn_house_rooms v_inn_house_doors v_inn_house_how x2_trial_ways_rooms x2_trial_ways_steps v_inn_house_one v_inn_house_other N x2_3 (v_trial_setting_52, v_trial_ways_rooms_52, v_trial_ways_steps_52) hc_52) ml_X0_69 ⟨Nat.le_of_ble_eq_true rfl, Nat.le_of_ble_eq_true rfl⟩ hP hD hS 2 rfl rfl rfl [2, 3, 4, 5, 6, 7, 8, 9] [0, 1, 36, 37, 38, 39, 40, 41, 42, 43, 10, 11, 12, 13, 14, 15, 16, 17, 18, 19, 20, 21, 22, 23, 24, 25, 26, 27, 28, 29, 30, 31, 32, 33, 34, 35] 36 rfl rfl rfl rfl rfl rfl rfl hl.1 rfl (Nat.le_of_ble_eq_true rfl) ⟨Nat.zero_le _, Nat.zero_le _⟩ dX0_tryOut_52 ?_
            clear hP hD hS; intro H locs hP hD hS
            refine lv_iconst (pc := 55) (v := 0) hx hb dX0_tryOut_55 (by decide) ?_
            refine lv_istore (pc := 56) (lv' := [(5, .int 0), (4, .ref h_set), (0, .ref h), (2, .int p1), (3, .int x2_3)]) hx hb dX0_tryOut_56 hl (by decide) rfl (fun ls hl => ?_)
            have key58 : ∀ (n : Nat) (x58_5 : Int32) (x58_trial_been : Int32) (x58_trial_thingIn : Nat → Int32) (x58_trial_full : Nat → Int32) (x58_trial_heardBy : Nat → Int64) (x58_trial_dreamOf : Nat → Int32) (x58_trial_stateOf : Nat → Int32) (x58_trial_roomOf : Nat → Int32) (x58_trial_handOf : Nat → Int32) (x58_trial_awake : Nat → Int32) (x58_trial_how : Nat → Int32) (x58_trial_passed : Nat → Int32) (x58_set_rows : Nat → Int64) (x58_kin : Nat → Int32) (x58_plain_rows : Nat → Int64) , lp (BX0_tryOuts_58 v_count j133 x2_tried x2_3 v_trial_setting_52 v_trial_ways_rooms_52 v_trial_ways_steps_52 N v_inn_sleepers v_inn_house_doors v_inn_thingIn v_inn_full v_dreams v_inn_bed v_inn_house_how v_inn_minutes v_inn_listeners v_inn_states v_inn_house_one v_inn_house_other v_inn_house_creak v_inn_listensIn v_inn_house_ways_steps v_inn_house_cold v_inn_house_falls v_inn_things) n (x58_5, x58_trial_been, x58_trial_thingIn, x58_trial_full, x58_trial_heardBy, x58_trial_dreamOf, x58_trial_stateOf, x58_trial_roomOf, x58_trial_handOf, x58_trial_awake, x58_trial_how, x58_trial_passed, x58_set_rows, x58_kin, x58_plain_rows) = some z → AT p l e (rmOf 5 119) s m args below meth c E A Q 0 0 6 [(0, .ref h), (2, .int p1), (3, .int x2_3), (4, .ref h_set), (5, .int x58_5)] (wX0_tryOuts E h h_trial h_inn h_dreams h_plain h_set h_tried h_kin h_fitters h_trial_ways h_trial_how h_trial_passed h_trial_dreamOf h_trial_stateOf h_trial_roomOf h_trial_handOf h_trial_awake h_trial_thingIn h_trial_full h_trial_heardBy h_inn_house h_inn_thingIn h_inn_full h_inn_states h_inn_bed h_inn_dreamOf h_inn_listensIn h_inn_house_creak h_inn_house_cold h_inn_house_one h_inn_house_other h_inn_house_how h_inn_house_falls h_inn_house_ways h_trial_ways_steps h_inn_house_ways_steps h_set_rows h_plain_rows v_count v_fitting (upd x2_tried x2_3.toNatClampNeg 1) v_trial_setting_52 x58_trial_been v_inn_minutes v_inn_things v_inn_dreams v_inn_sleepers v_inn_listeners v_inn_house_rooms v_inn_house_doors v_inn_house_how v_trial_ways_rooms_52 v_trial_ways_steps_52 v_inn_house_one v_inn_house_other v_inn_thingIn x58_trial_thingIn v_inn_full x58_trial_full x58_trial_heardBy v_dreams x58_trial_dreamOf x58_trial_stateOf v_inn_bed x58_trial_roomOf x58_trial_handOf x58_trial_awake x58_trial_how x58_trial_passed v_inn_states v_inn_house_creak v_inn_listensIn v_inn_house_ways_rooms v_inn_house_ways_steps v_inn_house_cold v_inn_house_falls x58_set_rows x58_kin x58_plain_rows) 58 [] := by
              intro n
              induction n with
              | zero => intro x58_5 x58_trial_been x58_trial_thingIn x58_trial_full x58_trial_heardBy x58_trial_dreamOf x58_trial_stateOf x58_trial_roomOf x58_trial_handOf x58_trial_awake x58_trial_how x58_trial_passed x58_set_rows x58_kin x58_plain_rows hf; exact (lp_0 hf).elim
              | succ n ih58 =>
                intro x58_5 x58_trial_been x58_trial_thingIn x58_trial_full x58_trial_heardBy x58_trial_dreamOf x58_trial_stateOf x58_trial_roomOf x58_trial_handOf x58_trial_awake x58_trial_how x58_trial_passed x58_set_rows x58_kin x58_plain_rows hf H locs ls hl hP hD hS
                replace hf := lp_s hf
                generalize lp (BX0_tryOuts_58 v_count j133 x2_tried x2_3 v_trial_setting_52 v_trial_ways_rooms_52 v_trial_ways_steps_52 N v_inn_sleepers v_inn_house_doors v_inn_thingIn v_inn_full v_dreams v_inn_bed v_inn_house_how v_inn_minutes v_inn_listeners v_inn_states v_inn_house_one v_inn_house_other v_inn_house_creak v_inn_listensIn v_inn_house_ways_steps v_inn_house_cold v_inn_house_falls v_inn_things) n = rec58 at ih58 hf
                unfold BX0_tryOuts_58 at hf
                replace hf := un15_s hf
                refine lv_iload (pc := 58) hx hb dX0_tryOut_58 (lv_at hl 4 rfl) ?_
                refine lv_aload_n (pc := 60) hx hb dX0_tryOut_60 rfl (lv_at hl 0 rfl) ?_
                refine r_get (pc := 61) C hP 0 rfl fl_X0_48 rfl dX0_tryOut_61 ?_
                refine lv_icmp_ge (pc := 64) (tgt := 133) hx hb dX0_tryOut_64 (by decide) (fun c_64 => ?_) (fun c_64 => ?_)
                · replace hf := it_t c_64 hf
                  exact hj133 (upd x2_tried x2_3.toNatClampNeg 1) v_trial_setting_52 x58_trial_been v_trial_ways_rooms_52 v_trial_ways_steps_52 x58_trial_thingIn x58_trial_full x58_trial_heardBy x58_trial_dreamOf x58_trial_stateOf x58_trial_roomOf x58_trial_handOf x58_trial_awake x58_trial_how x58_trial_passed x58_set_rows x58_kin x58_plain_rows hf _ _ _ (lv_sub hl [0, 1, 2] rfl) hP hD hS
                · replace hf := it_f c_64 hf
                  refine lv_aload_n (pc := 67) hx hb dX0_tryOut_67 rfl (lv_at hl 0 rfl) ?_
                  refine r_get (pc := 68) C hP 0 rfl fl_X0_44 rfl dX0_tryOut_68 ?_
                  refine lv_aload_n (pc := 71) hx hb dX0_tryOut_71 rfl (lv_at hl 0 rfl) ?_
                  refine r_get (pc := 72) C hP 0 rfl fl_X0_9 rfl dX0_tryOut_72 ?_
                  refine lv_iload (pc := 75) hx hb dX0_tryOut_75 (lv_at hl 4 rfl) ?_
                  refine lv_iconst (pc := 77) (v := 3) hx hb dX0_tryOut_77 (by decide) ?_
                  refine lv_imul (pc := 78) hx hb dX0_tryOut_78 ?_
                  obtain ⟨v_trial_been_79, v_trial_thingIn_79, v_trial_full_79, v_trial_heardBy_79, v_trial_dreamOf_79, v_trial_stateOf_79, v_trial_roomOf_79, v_trial_handOf_79, v_trial_awake_79, v_trial_how_79, v_trial_passed_79, hc_79, hf⟩ := bd11 hf
                  refine r_dalVv (pc := 79) (ws' := (wX0_tryOuts E h h_trial h_inn h_dreams h_plain h_set h_tried h_kin h_fitters h_trial_ways h_trial_how h_trial_passed h_trial_dreamOf h_trial_stateOf h_trial_roomOf h_trial_handOf h_trial_awake h_trial_thingIn h_trial_full h_trial_heardBy h_inn_house h_inn_thingIn h_inn_full h_inn_states h_inn_bed h_inn_dreamOf h_inn_listensIn h_inn_house_creak h_inn_house_cold h_inn_house_one h_inn_house_other h_inn_house_how h_inn_house_falls h_inn_house_ways h_trial_ways_steps h_inn_house_ways_steps h_set_rows h_plain_rows v_count v_fitting (upd x2_tried x2_3.toNatClampNeg 1) v_trial_setting_52 v_trial_been_79 v_inn_minutes v_inn_things v_inn_dreams v_inn_sleepers v_inn_listeners v_inn_house_rooms v_inn_house_doors v_inn_house_how v_trial_ways_rooms_52 v_trial_ways_steps_52 v_inn_house_one v_inn_house_other v_inn_thingIn v_trial_thingIn_79 v_inn_full v_trial_full_79 v_trial_heardBy_79 v_dreams v_trial_dreamOf_79 v_trial_stateOf_79 v_inn_bed v_trial_roomOf_79 v_trial_handOf_79 v_trial_awake_79 v_trial_how_79 v_trial_passed_79 v_inn_states v_inn_house_creak v_inn_listensIn v_inn_house_ways_rooms v_inn_house_ways_steps v_inn_house_cold v_inn_house_falls x58_set_rows x58_kin x58_plain_rows)) (As := [.ref h_dreams, .int (x58_5 * 3)]) (rest := []) C (ctX4_begind l E h_trial h_inn h_trial_ways h_trial_how h_trial_passed h_trial_dreamOf h_trial_stateOf h_trial_roomOf h_trial_handOf h_trial_awake h_trial_thingIn h_trial_full h_trial_heardBy h_inn_house h_inn_thingIn h_inn_full h_inn_states h_inn_bed h_inn_dreamOf h_inn_listensIn h_inn_house_creak h_inn_house_cold h_inn_house_one h_inn_house_other h_inn_house_how h_inn_house_falls h_inn_house_ways h_dreams v_trial_setting_52 x58_trial_been v_inn_minutes v_inn_things v_inn_dreams v_inn_sleepers v_inn_listeners v_inn_house_rooms v_inn_house_doors v_inn_thingIn x58_trial_thingIn v_inn_full x58_trial_full x58_trial_heardBy v_dreams x58_trial_dreamOf x58_trial_stateOf v_inn_bed x58_trial_roomOf x58_trial_handOf x58_trial_awake v_inn_house_how x58_trial_how x58_trial_passed N (x58_5 * 3) (v_trial_been_79, v_trial_thingIn_79, v_trial_full_79, v_trial_heardBy_79, v_trial_dreamOf_79, v_trial_stateOf_79, v_trial_roomOf_79, v_trial_handOf_79, v_trial_awake_79, v_trial_how_79, v_trial_passed_79) hc_79) ml_X0_73 ⟨Nat.le_of_ble_eq_true rfl, Nat.le_of_ble_eq_true rfl⟩ hP hD hS 2 rfl rfl rfl [2, 3, 4, 10, 11, 12, 13, 14, 15, 16, 17, 18, 19, 20, 21, 5, 22, 23] [0, 1, 36, 37, 38, 51, 6, 7, 8, 9, 39, 40, 41, 42, 43, 44, 45, 46, 47, 48, 49, 50, 52, 53, 24, 25, 26, 27, 28, 29, 30, 31, 32, 33, 34, 35] 36 rfl rfl rfl rfl rfl rfl rfl hl.1 rfl (Nat.le_of_ble_eq_true rfl) ⟨Nat.zero_le _, Nat.zero_le _⟩ dX0_tryOut_79 ?_
                  clear hP hD hS; intro H locs hP hD hS
                  refine lv_aload_n (pc := 82) hx hb dX0_tryOut_82 rfl (lv_at hl 0 rfl) ?_
                  refine r_get (pc := 83) C hP 0 rfl fl_X0_44 rfl dX0_tryOut_83 ?_
                  refine lv_aload_n (pc := 86) hx hb dX0_tryOut_86 rfl (lv_at hl 0 rfl) ?_
                  refine r_get (pc := 87) C hP 0 rfl fl_X0_35 rfl dX0_tryOut_87 ?_
                  refine r_get (pc := 90) C hP 3 rfl fl_X0_77 rfl dX0_tryOut_90 ?_
                  obtain ⟨r_93, v_trial_been_93, v_trial_awake_93, v_trial_stateOf_93, v_trial_roomOf_93, v_trial_how_93, v_trial_thingIn_93, v_trial_full_93, v_trial_handOf_93, v_trial_heardBy_93, v_trial_passed_93, hc_93, hf⟩ := bd11 hf
                  refine r_dalVi (pc := 93) (ws' := (wX0_tryOuts E h h_trial h_inn h_dreams h_plain h_set h_tried h_kin h_fitters h_trial_ways h_trial_how h_trial_passed h_trial_dreamOf h_trial_stateOf h_trial_roomOf h_trial_handOf h_trial_awake h_trial_thingIn h_trial_full h_trial_heardBy h_inn_house h_inn_thingIn h_inn_full h_inn_states h_inn_bed h_inn_dreamOf h_inn_listensIn h_inn_house_creak h_inn_house_cold h_inn_house_one h_inn_house_other h_inn_house_how h_inn_house_falls h_inn_house_ways h_trial_ways_steps h_inn_house_ways_steps h_set_rows h_plain_rows v_count v_fitting (upd x2_tried x2_3.toNatClampNeg 1) v_trial_setting_52 v_trial_been_93 v_inn_minutes v_inn_things v_inn_dreams v_inn_sleepers v_inn_listeners v_inn_house_rooms v_inn_house_doors v_inn_house_how v_trial_ways_rooms_52 v_trial_ways_steps_52 v_inn_house_one v_inn_house_other v_inn_thingIn v_trial_thingIn_93 v_inn_full v_trial_full_93 v_trial_heardBy_93 v_dreams v_trial_dreamOf_79 v_trial_stateOf_93 v_inn_bed v_trial_roomOf_93 v_trial_handOf_93 v_trial_awake_93 v_trial_how_93 v_trial_passed_93 v_inn_states v_inn_house_creak v_inn_listensIn v_inn_house_ways_rooms v_inn_house_ways_steps v_inn_house_cold v_inn_house_falls x58_set_rows x58_kin x58_plain_rows)) (As := [.int v_inn_minutes]) (rest := []) C (ctX4_pass l E h_trial h_inn h_trial_ways h_trial_how h_trial_passed h_trial_dreamOf h_trial_stateOf h_trial_roomOf h_trial_handOf h_trial_awake h_trial_thingIn h_trial_full h_trial_heardBy h_inn_house h_inn_thingIn h_inn_full h_inn_states h_inn_bed h_inn_dreamOf h_inn_listensIn h_inn_house_creak h_inn_house_cold h_inn_house_one h_inn_house_other h_inn_house_how h_inn_house_falls h_inn_house_ways h_trial_ways_steps h_inn_house_ways_steps v_trial_setting_52 v_trial_been_79 v_inn_minutes v_inn_things v_inn_dreams v_inn_sleepers v_inn_listeners v_trial_awake_79 v_trial_dreamOf_79 v_trial_stateOf_79 v_inn_states v_trial_roomOf_79 v_inn_house_rooms v_inn_house_doors v_inn_house_one v_inn_house_other v_trial_how_79 v_trial_thingIn_79 v_trial_full_79 v_trial_handOf_79 v_trial_ways_rooms_52 v_trial_ways_steps_52 v_inn_house_creak v_inn_listensIn v_inn_house_ways_rooms v_inn_house_ways_steps v_trial_heardBy_79 v_inn_house_cold v_inn_house_falls v_trial_passed_79 N v_inn_minutes (r_93, v_trial_been_93, v_trial_awake_93, v_trial_stateOf_93, v_trial_roomOf_93, v_trial_how_93, v_trial_thingIn_93, v_trial_full_93, v_trial_handOf_93, v_trial_heardBy_93, v_trial_passed_93) hc_93) ml_X0_80 ⟨Nat.le_of_ble_eq_true rfl, Nat.le_of_ble_eq_true rfl⟩ hP hD hS 2 rfl rfl rfl [2, 3, 21, 16, 17, 24, 19, 4, 8, 9, 22, 11, 13, 20, 6, 7, 25, 26, 27, 28, 14, 29, 30, 23] [0, 1, 36, 37, 43, 5, 50, 51, 44, 45, 10, 47, 12, 48, 56, 15, 39, 40, 18, 42, 49, 38, 46, 59, 41, 52, 53, 54, 55, 57, 58, 31, 32, 33, 34, 35] 36 rfl rfl rfl rfl rfl rfl rfl hl.1 rfl (Nat.le_of_ble_eq_true rfl) ⟨Nat.zero_le _, Nat.zero_le _⟩ dX0_tryOut_93 ?_
                  clear hP hD hS; intro H locs hP hD hS
                  refine lv_pop (pc := 96) hx hb dX0_tryOut_96 rfl ?_
                  refine lv_aload (pc := 97) hx hb dX0_tryOut_97 (lv_at hl 3 rfl) ?_
                  refine lv_iload (pc := 99) hx hb dX0_tryOut_99 (lv_at hl 4 rfl) ?_
                  refine lv_aload_n (pc := 101) hx hb dX0_tryOut_101 rfl (lv_at hl 0 rfl) ?_
                  refine r_get (pc := 102) C hP 0 rfl fl_X0_44 rfl dX0_tryOut_102 ?_
                  obtain ⟨v_set_rows_105, hc_105, hf⟩ := bd1 hf
                  refine r_dalVv (pc := 105) (ws' := (wX0_tryOuts E h h_trial h_inn h_dreams h_plain h_set h_tried h_kin h_fitters h_trial_ways h_trial_how h_trial_passed h_trial_dreamOf h_trial_stateOf h_trial_roomOf h_trial_handOf h_trial_awake h_trial_thingIn h_trial_full h_trial_heardBy h_inn_house h_inn_thingIn h_inn_full h_inn_states h_inn_bed h_inn_dreamOf h_inn_listensIn h_inn_house_creak h_inn_house_cold h_inn_house_one h_inn_house_other h_inn_house_how h_inn_house_falls h_inn_house_ways h_trial_ways_steps h_inn_house_ways_steps h_set_rows h_plain_rows v_count v_fitting (upd x2_tried x2_3.toNatClampNeg 1) v_trial_setting_52 v_trial_been_93 v_inn_minutes v_inn_things v_inn_dreams v_inn_sleepers v_inn_listeners v_inn_house_rooms v_inn_house_doors v_inn_house_how v_trial_ways_rooms_52 v_trial_ways_steps_52 v_inn_house_one v_inn_house_other v_inn_thingIn v_trial_thingIn_93 v_inn_full v_trial_full_93 v_trial_heardBy_93 v_dreams v_trial_dreamOf_79 v_trial_stateOf_93 v_inn_bed v_trial_roomOf_93 v_trial_handOf_93 v_trial_awake_93 v_trial_how_93 v_trial_passed_93 v_inn_states v_inn_house_creak v_inn_listensIn v_inn_house_ways_rooms v_inn_house_ways_steps v_inn_house_cold v_inn_house_falls v_set_rows_105 x58_kin x58_plain_rows)) (As := [.int x58_5, .ref h_trial]) (rest := []) C (ctX3_keep l E h_trial h_inn h_trial_ways h_trial_how h_trial_passed h_trial_dreamOf h_trial_stateOf h_trial_roomOf h_trial_handOf h_trial_awake h_trial_thingIn h_trial_full h_trial_heardBy h_set h_set_rows h_inn_house h_inn_thingIn h_inn_full h_inn_states h_inn_bed h_inn_dreamOf h_inn_listensIn h_inn_house_creak h_inn_house_cold h_inn_house_one h_inn_house_other h_inn_house_how h_inn_house_falls h_inn_house_ways v_trial_setting_52 v_trial_been_93 v_trial_heardBy_93 x58_set_rows v_inn_minutes v_inn_things v_inn_dreams v_inn_sleepers v_inn_listeners v_inn_house_rooms v_inn_house_doors v_trial_roomOf_93 v_trial_awake_93 v_trial_how_93 v_trial_thingIn_93 v_trial_full_93 N x58_5 v_set_rows_105 hc_105) ml_X0_84 ⟨Nat.le_of_ble_eq_true rfl, Nat.le_of_ble_eq_true rfl⟩ hP hD hS 31 rfl rfl rfl [2, 31, 14, 32, 3, 4, 19, 21, 22, 11, 13] [0, 1, 36, 40, 41, 5, 6, 7, 8, 9, 10, 45, 12, 46, 38, 15, 16, 17, 18, 42, 20, 43, 44, 23, 24, 25, 26, 27, 28, 29, 30, 37, 39, 33, 34, 35] 36 rfl rfl rfl rfl rfl rfl rfl hl.1 rfl (Nat.le_of_ble_eq_true rfl) ⟨Nat.zero_le _, Nat.zero_le _⟩ dX0_tryOut_105 ?_
                  clear hP hD hS; intro H locs hP hD hS
                  refine lv_aload_n (pc := 108) hx hb dX0_tryOut_108 rfl (lv_at hl 0 rfl) ?_
                  refine r_get (pc := 109) C hP 0 rfl fl_X0_29 rfl dX0_tryOut_109 ?_
                  refine lv_iload_n (pc := 112) hx hb dX0_tryOut_112 rfl (lv_at hl 2 rfl) ?_
                  refine lv_bipush (pc := 113) (v := 64) hx hb dX0_tryOut_113 (by decide) ?_
                  refine lv_imul (pc := 115) hx hb dX0_tryOut_115 ?_
                  refine lv_iload (pc := 116) hx hb dX0_tryOut_116 (lv_at hl 4 rfl) ?_
                  refine lv_iadd (pc := 118) hx hb dX0_tryOut_118 ?_
                  refine lv_aload (pc := 119) hx hb dX0_tryOut_119 (lv_at hl 3 rfl) ?_
                  refine lv_iload (pc := 121) hx hb dX0_tryOut_121 (lv_at hl 4 rfl) ?_
                  obtain ⟨r_123, hc_123, hf⟩ := bd1 hf
                  refine r_dalVi (pc := 123) (ws' := (wX0_tryOuts E h h_trial h_inn h_dreams h_plain h_set h_tried h_kin h_fitters h_trial_ways h_trial_how h_trial_passed h_trial_dreamOf h_trial_stateOf h_trial_roomOf h_trial_handOf h_trial_awake h_trial_thingIn h_trial_full h_trial_heardBy h_inn_house h_inn_thingIn h_inn_full h_inn_states h_inn_bed h_inn_dreamOf h_inn_listensIn h_inn_house_creak h_inn_house_cold h_inn_house_one h_inn_house_other h_inn_house_how h_inn_house_falls h_inn_house_ways h_trial_ways_steps h_inn_house_ways_steps h_set_rows h_plain_rows v_count v_fitting (upd x2_tried x2_3.toNatClampNeg 1) v_trial_setting_52 v_trial_been_93 v_inn_minutes v_inn_things v_inn_dreams v_inn_sleepers v_inn_listeners v_inn_house_rooms v_inn_house_doors v_inn_house_how v_trial_ways_rooms_52 v_trial_ways_steps_52 v_inn_house_one v_inn_house_other v_inn_thingIn v_trial_thingIn_93 v_inn_full v_trial_full_93 v_trial_heardBy_93 v_dreams v_trial_dreamOf_79 v_trial_stateOf_93 v_inn_bed v_trial_roomOf_93 v_trial_handOf_93 v_trial_awake_93 v_trial_how_93 v_trial_passed_93 v_inn_states v_inn_house_creak v_inn_listensIn v_inn_house_ways_rooms v_inn_house_ways_steps v_inn_house_cold v_inn_house_falls v_set_rows_105 x58_kin x58_plain_rows)) (As := [.int x58_5]) (rest := [.int ((x2_3 * 64) + x58_5), .ref h_kin]) C (ctX3_firstLike l E h_set h_set_rows v_set_rows_105 N x58_5 r_123 hc_123) ml_X0_88 ⟨Nat.le_of_ble_eq_true rfl, Nat.le_of_ble_eq_true rfl⟩ hP hD hS 31 rfl rfl rfl [31, 32] [0, 1, 2, 3, 4, 5, 6, 7, 8, 9, 10, 11, 12, 13, 14, 15, 16, 17, 18, 19, 20, 21, 22, 23, 24, 25, 26, 27, 28, 29, 30, 36, 37, 33, 34, 35] 36 rfl rfl rfl rfl rfl rfl rfl hl.1 rfl (Nat.le_of_ble_eq_true rfl) ⟨Nat.zero_le _, Nat.zero_le _⟩ dX0_tryOut_123 ?_
                  clear hP hD hS; intro H locs hP hD hS
                  obtain ⟨hi_126, hf⟩ := gd_s hf
                  refine r_iast (pc := 126) (ws' := (wX0_tryOuts E h h_trial h_inn h_dreams h_plain h_set h_tried h_kin h_fitters h_trial_ways h_trial_how h_trial_passed h_trial_dreamOf h_trial_stateOf h_trial_roomOf h_trial_handOf h_trial_awake h_trial_thingIn h_trial_full h_trial_heardBy h_inn_house h_inn_thingIn h_inn_full h_inn_states h_inn_bed h_inn_dreamOf h_inn_listensIn h_inn_house_creak h_inn_house_cold h_inn_house_one h_inn_house_other h_inn_house_how h_inn_house_falls h_inn_house_ways h_trial_ways_steps h_inn_house_ways_steps h_set_rows h_plain_rows v_count v_fitting (upd x2_tried x2_3.toNatClampNeg 1) v_trial_setting_52 v_trial_been_93 v_inn_minutes v_inn_things v_inn_dreams v_inn_sleepers v_inn_listeners v_inn_house_rooms v_inn_house_doors v_inn_house_how v_trial_ways_rooms_52 v_trial_ways_steps_52 v_inn_house_one v_inn_house_other v_inn_thingIn v_trial_thingIn_93 v_inn_full v_trial_full_93 v_trial_heardBy_93 v_dreams v_trial_dreamOf_79 v_trial_stateOf_93 v_inn_bed v_trial_roomOf_93 v_trial_handOf_93 v_trial_awake_93 v_trial_how_93 v_trial_passed_93 v_inn_states v_inn_house_creak v_inn_listensIn v_inn_house_ways_rooms v_inn_house_ways_steps v_inn_house_cold v_inn_house_falls v_set_rows_105 (upd x58_kin ((x2_3 * 64) + x58_5).toNatClampNeg r_123) x58_plain_rows)) C hP hD hS 33 rfl hi_126 rfl dX0_tryOut_126 ?_
                  clear hP hD hS; intro H locs hP hD hS
                  refine lv_iinc (pc := 127) (v := x58_5 + 1) (lv' := [(5, .int (x58_5 + 1)), (0, .ref h), (2, .int p1), (3, .int x2_3), (4, .ref h_set)]) hx hb dX0_tryOut_127 hl (k := 4) rfl rfl (by decide) rfl (fun ls hl => ?_)
                  refine lv_goto (pc := 130) (tgt := 58) hx hb dX0_tryOut_130 (by decide) ?_
                  exact ih58 (x58_5 + 1) v_trial_been_93 v_trial_thingIn_93 v_trial_full_93 v_trial_heardBy_93 v_trial_dreamOf_79 v_trial_stateOf_93 v_trial_roomOf_93 v_trial_handOf_93 v_trial_awake_93 v_trial_how_93 v_trial_passed_93 v_set_rows_105 (upd x58_kin ((x2_3 * 64) + x58_5).toNatClampNeg r_123) x58_plain_rows hf _ _ _ (lv_sub hl [1, 2, 3, 4, 0] rfl) hP hD hS
            exact key58 _ 0 x2_trial_been x2_trial_thingIn x2_trial_full x2_trial_heardBy x2_trial_dreamOf x2_trial_stateOf x2_trial_roomOf x2_trial_handOf x2_trial_awake x2_trial_how x2_trial_passed x2_set_rows x2_kin x2_plain_rows hf _ _ _ (lv_sub hl [2, 3, 4, 1, 0] rfl) hP hD hS
          · replace hf := it_t c_27 hf
            refine lv_aload_n (pc := 30) hx hb dX0_tryOut_30 rfl (lv_at hl 0 rfl) ?_
            refine r_get (pc := 31) C hP 0 rfl fl_X0_18 rfl dX0_tryOut_31 ?_
            refine lv_goto (pc := 34) (tgt := 41) hx hb dX0_tryOut_34 (by decide) ?_
            refine lv_astore (pc := 41) (lv' := [(4, .ref h_plain), (0, .ref h), (2, .int p1), (3, .int x2_3)]) hx hb dX0_tryOut_41 hl (by decide) rfl (fun ls hl => ?_)
            refine lv_aload_n (pc := 43) hx hb dX0_tryOut_43 rfl (lv_at hl 1 rfl) ?_
            refine r_get (pc := 44) C hP 0 rfl fl_X0_44 rfl dX0_tryOut_44 ?_
            refine lv_aload_n (pc := 47) hx hb dX0_tryOut_47 rfl (lv_at hl 1 rfl) ?_
            refine r_get (pc := 48) C hP 0 rfl fl_X0_35 rfl dX0_tryOut_48 ?_
            refine lv_iload_n (pc := 51) hx hb dX0_tryOut_51 rfl (lv_at hl 3 rfl) ?_
            obtain ⟨v_trial_setting_52, v_trial_ways_rooms_52, v_trial_ways_steps_52, hc_52, hf⟩ := bd3 hf
            refine r_dalVv (pc := 52) (ws' := (wX0_tryOuts E h h_trial h_inn h_dreams h_plain h_set h_tried h_kin h_fitters h_trial_ways h_trial_how h_trial_passed h_trial_dreamOf h_trial_stateOf h_trial_roomOf h_trial_handOf h_trial_awake h_trial_thingIn h_trial_full h_trial_heardBy h_inn_house h_inn_thingIn h_inn_full h_inn_states h_inn_bed h_inn_dreamOf h_inn_listensIn h_inn_house_creak h_inn_house_cold h_inn_house_one h_inn_house_other h_inn_house_how h_inn_house_falls h_inn_house_ways h_trial_ways_steps h_inn_house_ways_steps h_set_rows h_plain_rows v_count v_fitting (upd x2_tried x2_3.toNatClampNeg 1) v_trial_setting_52 x2_trial_been v_inn_minutes v_inn_things v_inn_dreams v_inn_sleepers v_inn_listeners v_inn_house_rooms v_inn_house_doors v_inn_house_how v_trial_ways_rooms_52 v_trial_ways_steps_52 v_inn_house_one v_inn_house_other v_inn_thingIn x2_trial_thingIn v_inn_full x2_trial_full x2_trial_heardBy v_dreams x2_trial_dreamOf x2_trial_stateOf v_inn_bed x2_trial_roomOf x2_trial_handOf x2_trial_awake x2_trial_how x2_trial_passed v_inn_states v_inn_house_creak v_inn_listensIn v_inn_house_ways_rooms v_inn_house_ways_steps v_inn_house_cold v_inn_house_falls x2_set_rows x2_kin x2_plain_rows)) (As := [.ref h_inn, .int x2_3]) (rest := []) C (ctX4_prepare l E h_trial h_trial_ways h_trial_how h_trial_passed h_trial_dreamOf h_trial_stateOf h_trial_roomOf h_trial_handOf h_trial_awake h_trial_thingIn h_trial_full h_trial_heardBy h_inn h_inn_house h_inn_thingIn h_inn_full h_inn_states h_inn_bed h_inn_dreamOf h_inn_listensIn h_inn_house_creak h_inn_house_cold h_inn_house_one h_inn_house_other h_inn_house_how h_inn_house_falls h_inn_house_ways h_trial_ways_steps (some h_inn) x2_trial_setting x2_trial_been v_inn_minutes v_inn_things v_inn_dreams v_inn_sleepers v_inn_listeners v_inn_house_rooms v_inn_house_doors v_inn_house_how x2_trial_ways_rooms x2_trial_ways_steps v_inn_house_one v_inn_house_other N x2_3 (v_trial_setting_52, v_trial_ways_rooms_52, v_trial_ways_steps_52) hc_52) ml_X0_69 ⟨Nat.le_of_ble_eq_true rfl, Nat.le_of_ble_eq_true rfl⟩ hP hD hS 2 rfl rfl rfl [2, 3, 4, 5, 6, 7, 8, 9] [0, 1, 36, 37, 38, 39, 40, 41, 42, 43, 10, 11, 12, 13, 14, 15, 16, 17, 18, 19, 20, 21, 22, 23, 24, 25, 26, 27, 28, 29, 30, 31, 32, 33, 34, 35] 36 rfl rfl rfl rfl rfl rfl rfl hl.1 rfl (Nat.le_of_ble_eq_true rfl) ⟨Nat.zero_le _, Nat.zero_le _⟩ dX0_tryOut_52 ?_
            clear hP hD hS; intro H locs hP hD hS
            refine lv_iconst (pc := 55) (v := 0) hx hb dX0_tryOut_55 (by decide) ?_
            refine lv_istore (pc := 56) (lv' := [(5, .int 0), (4, .ref h_plain), (0, .ref h), (2, .int p1), (3, .int x2_3)]) hx hb dX0_tryOut_56 hl (by decide) rfl (fun ls hl => ?_)
            have key58a : ∀ (n : Nat) (x58a_5 : Int32) (x58a_trial_been : Int32) (x58a_trial_thingIn : Nat → Int32) (x58a_trial_full : Nat → Int32) (x58a_trial_heardBy : Nat → Int64) (x58a_trial_dreamOf : Nat → Int32) (x58a_trial_stateOf : Nat → Int32) (x58a_trial_roomOf : Nat → Int32) (x58a_trial_handOf : Nat → Int32) (x58a_trial_awake : Nat → Int32) (x58a_trial_how : Nat → Int32) (x58a_trial_passed : Nat → Int32) (x58a_set_rows : Nat → Int64) (x58a_kin : Nat → Int32) (x58a_plain_rows : Nat → Int64) , lp (BX0_tryOuts_58a v_count j133 x2_tried x2_3 v_trial_setting_52 v_trial_ways_rooms_52 v_trial_ways_steps_52 N v_inn_sleepers v_inn_house_doors v_inn_thingIn v_inn_full v_dreams v_inn_bed v_inn_house_how v_inn_minutes v_inn_listeners v_inn_states v_inn_house_one v_inn_house_other v_inn_house_creak v_inn_listensIn v_inn_house_ways_steps v_inn_house_cold v_inn_house_falls v_inn_things) n (x58a_5, x58a_trial_been, x58a_trial_thingIn, x58a_trial_full, x58a_trial_heardBy, x58a_trial_dreamOf, x58a_trial_stateOf, x58a_trial_roomOf, x58a_trial_handOf, x58a_trial_awake, x58a_trial_how, x58a_trial_passed, x58a_set_rows, x58a_kin, x58a_plain_rows) = some z → AT p l e (rmOf 5 119) s m args below meth c E A Q 0 0 6 [(0, .ref h), (2, .int p1), (3, .int x2_3), (4, .ref h_plain), (5, .int x58a_5)] (wX0_tryOuts E h h_trial h_inn h_dreams h_plain h_set h_tried h_kin h_fitters h_trial_ways h_trial_how h_trial_passed h_trial_dreamOf h_trial_stateOf h_trial_roomOf h_trial_handOf h_trial_awake h_trial_thingIn h_trial_full h_trial_heardBy h_inn_house h_inn_thingIn h_inn_full h_inn_states h_inn_bed h_inn_dreamOf h_inn_listensIn h_inn_house_creak h_inn_house_cold h_inn_house_one h_inn_house_other h_inn_house_how h_inn_house_falls h_inn_house_ways h_trial_ways_steps h_inn_house_ways_steps h_set_rows h_plain_rows v_count v_fitting (upd x2_tried x2_3.toNatClampNeg 1) v_trial_setting_52 x58a_trial_been v_inn_minutes v_inn_things v_inn_dreams v_inn_sleepers v_inn_listeners v_inn_house_rooms v_inn_house_doors v_inn_house_how v_trial_ways_rooms_52 v_trial_ways_steps_52 v_inn_house_one v_inn_house_other v_inn_thingIn x58a_trial_thingIn v_inn_full x58a_trial_full x58a_trial_heardBy v_dreams x58a_trial_dreamOf x58a_trial_stateOf v_inn_bed x58a_trial_roomOf x58a_trial_handOf x58a_trial_awake x58a_trial_how x58a_trial_passed v_inn_states v_inn_house_creak v_inn_listensIn v_inn_house_ways_rooms v_inn_house_ways_steps v_inn_house_cold v_inn_house_falls x58a_set_rows x58a_kin x58a_plain_rows) 58 [] := by
              intro n
              induction n with
              | zero => intro x58a_5 x58a_trial_been x58a_trial_thingIn x58a_trial_full x58a_trial_heardBy x58a_trial_dreamOf x58a_trial_stateOf x58a_trial_roomOf x58a_trial_handOf x58a_trial_awake x58a_trial_how x58a_trial_passed x58a_set_rows x58a_kin x58a_plain_rows hf; exact (lp_0 hf).elim
              | succ n ih58a =>
                intro x58a_5 x58a_trial_been x58a_trial_thingIn x58a_trial_full x58a_trial_heardBy x58a_trial_dreamOf x58a_trial_stateOf x58a_trial_roomOf x58a_trial_handOf x58a_trial_awake x58a_trial_how x58a_trial_passed x58a_set_rows x58a_kin x58a_plain_rows hf H locs ls hl hP hD hS
                replace hf := lp_s hf
                generalize lp (BX0_tryOuts_58a v_count j133 x2_tried x2_3 v_trial_setting_52 v_trial_ways_rooms_52 v_trial_ways_steps_52 N v_inn_sleepers v_inn_house_doors v_inn_thingIn v_inn_full v_dreams v_inn_bed v_inn_house_how v_inn_minutes v_inn_listeners v_inn_states v_inn_house_one v_inn_house_other v_inn_house_creak v_inn_listensIn v_inn_house_ways_steps v_inn_house_cold v_inn_house_falls v_inn_things) n = rec58a at ih58a hf
                unfold BX0_tryOuts_58a at hf
                replace hf := un15_s hf
                refine lv_iload (pc := 58) hx hb dX0_tryOut_58 (lv_at hl 4 rfl) ?_
                refine lv_aload_n (pc := 60) hx hb dX0_tryOut_60 rfl (lv_at hl 0 rfl) ?_
                refine r_get (pc := 61) C hP 0 rfl fl_X0_48 rfl dX0_tryOut_61 ?_
                refine lv_icmp_ge (pc := 64) (tgt := 133) hx hb dX0_tryOut_64 (by decide) (fun c_64 => ?_) (fun c_64 => ?_)
                · replace hf := it_t c_64 hf
                  exact hj133 (upd x2_tried x2_3.toNatClampNeg 1) v_trial_setting_52 x58a_trial_been v_trial_ways_rooms_52 v_trial_ways_steps_52 x58a_trial_thingIn x58a_trial_full x58a_trial_heardBy x58a_trial_dreamOf x58a_trial_stateOf x58a_trial_roomOf x58a_trial_handOf x58a_trial_awake x58a_trial_how x58a_trial_passed x58a_set_rows x58a_kin x58a_plain_rows hf _ _ _ (lv_sub hl [0, 1, 2] rfl) hP hD hS
                · replace hf := it_f c_64 hf
                  refine lv_aload_n (pc := 67) hx hb dX0_tryOut_67 rfl (lv_at hl 0 rfl) ?_
                  refine r_get (pc := 68) C hP 0 rfl fl_X0_44 rfl dX0_tryOut_68 ?_
                  refine lv_aload_n (pc := 71) hx hb dX0_tryOut_71 rfl (lv_at hl 0 rfl) ?_
                  refine r_get (pc := 72) C hP 0 rfl fl_X0_9 rfl dX0_tryOut_72 ?_
                  refine lv_iload (pc := 75) hx hb dX0_tryOut_75 (lv_at hl 4 rfl) ?_
                  refine lv_iconst (pc := 77) (v := 3) hx hb dX0_tryOut_77 (by decide) ?_
                  refine lv_imul (pc := 78) hx hb dX0_tryOut_78 ?_
                  obtain ⟨v_trial_been_79, v_trial_thingIn_79, v_trial_full_79, v_trial_heardBy_79, v_trial_dreamOf_79, v_trial_stateOf_79, v_trial_roomOf_79, v_trial_handOf_79, v_trial_awake_79, v_trial_how_79, v_trial_passed_79, hc_79, hf⟩ := bd11 hf
                  refine r_dalVv (pc := 79) (ws' := (wX0_tryOuts E h h_trial h_inn h_dreams h_plain h_set h_tried h_kin h_fitters h_trial_ways h_trial_how h_trial_passed h_trial_dreamOf h_trial_stateOf h_trial_roomOf h_trial_handOf h_trial_awake h_trial_thingIn h_trial_full h_trial_heardBy h_inn_house h_inn_thingIn h_inn_full h_inn_states h_inn_bed h_inn_dreamOf h_inn_listensIn h_inn_house_creak h_inn_house_cold h_inn_house_one h_inn_house_other h_inn_house_how h_inn_house_falls h_inn_house_ways h_trial_ways_steps h_inn_house_ways_steps h_set_rows h_plain_rows v_count v_fitting (upd x2_tried x2_3.toNatClampNeg 1) v_trial_setting_52 v_trial_been_79 v_inn_minutes v_inn_things v_inn_dreams v_inn_sleepers v_inn_listeners v_inn_house_rooms v_inn_house_doors v_inn_house_how v_trial_ways_rooms_52 v_trial_ways_steps_52 v_inn_house_one v_inn_house_other v_inn_thingIn v_trial_thingIn_79 v_inn_full v_trial_full_79 v_trial_heardBy_79 v_dreams v_trial_dreamOf_79 v_trial_stateOf_79 v_inn_bed v_trial_roomOf_79 v_trial_handOf_79 v_trial_awake_79 v_trial_how_79 v_trial_passed_79 v_inn_states v_inn_house_creak v_inn_listensIn v_inn_house_ways_rooms v_inn_house_ways_steps v_inn_house_cold v_inn_house_falls x58a_set_rows x58a_kin x58a_plain_rows)) (As := [.ref h_dreams, .int (x58a_5 * 3)]) (rest := []) C (ctX4_begind l E h_trial h_inn h_trial_ways h_trial_how h_trial_passed h_trial_dreamOf h_trial_stateOf h_trial_roomOf h_trial_handOf h_trial_awake h_trial_thingIn h_trial_full h_trial_heardBy h_inn_house h_inn_thingIn h_inn_full h_inn_states h_inn_bed h_inn_dreamOf h_inn_listensIn h_inn_house_creak h_inn_house_cold h_inn_house_one h_inn_house_other h_inn_house_how h_inn_house_falls h_inn_house_ways h_dreams v_trial_setting_52 x58a_trial_been v_inn_minutes v_inn_things v_inn_dreams v_inn_sleepers v_inn_listeners v_inn_house_rooms v_inn_house_doors v_inn_thingIn x58a_trial_thingIn v_inn_full x58a_trial_full x58a_trial_heardBy v_dreams x58a_trial_dreamOf x58a_trial_stateOf v_inn_bed x58a_trial_roomOf x58a_trial_handOf x58a_trial_awake v_inn_house_how x58a_trial_how x58a_trial_passed N (x58a_5 * 3) (v_trial_been_79, v_trial_thingIn_79, v_trial_full_79, v_trial_heardBy_79, v_trial_dreamOf_79, v_trial_stateOf_79, v_trial_roomOf_79, v_trial_handOf_79, v_trial_awake_79, v_trial_how_79, v_trial_passed_79) hc_79) ml_X0_73 ⟨Nat.le_of_ble_eq_true rfl, Nat.le_of_ble_eq_true rfl⟩ hP hD hS 2 rfl rfl rfl [2, 3, 4, 10, 11, 12, 13, 14, 15, 16, 17, 18, 19, 20, 21, 5, 22, 23] [0, 1, 36, 37, 38, 51, 6, 7, 8, 9, 39, 40, 41, 42, 43, 44, 45, 46, 47, 48, 49, 50, 52, 53, 24, 25, 26, 27, 28, 29, 30, 31, 32, 33, 34, 35] 36 rfl rfl rfl rfl rfl rfl rfl hl.1 rfl (Nat.le_of_ble_eq_true rfl) ⟨Nat.zero_le _, Nat.zero_le _⟩ dX0_tryOut_79 ?_
                  clear hP hD hS; intro H locs hP hD hS
                  refine lv_aload_n (pc := 82) hx hb dX0_tryOut_82 rfl (lv_at hl 0 rfl) ?_
                  refine r_get (pc := 83) C hP 0 rfl fl_X0_44 rfl dX0_tryOut_83 ?_
                  refine lv_aload_n (pc := 86) hx hb dX0_tryOut_86 rfl (lv_at hl 0 rfl) ?_
                  refine r_get (pc := 87) C hP 0 rfl fl_X0_35 rfl dX0_tryOut_87 ?_
                  refine r_get (pc := 90) C hP 3 rfl fl_X0_77 rfl dX0_tryOut_90 ?_
                  obtain ⟨r_93, v_trial_been_93, v_trial_awake_93, v_trial_stateOf_93, v_trial_roomOf_93, v_trial_how_93, v_trial_thingIn_93, v_trial_full_93, v_trial_handOf_93, v_trial_heardBy_93, v_trial_passed_93, hc_93, hf⟩ := bd11 hf
                  refine r_dalVi (pc := 93) (ws' := (wX0_tryOuts E h h_trial h_inn h_dreams h_plain h_set h_tried h_kin h_fitters h_trial_ways h_trial_how h_trial_passed h_trial_dreamOf h_trial_stateOf h_trial_roomOf h_trial_handOf h_trial_awake h_trial_thingIn h_trial_full h_trial_heardBy h_inn_house h_inn_thingIn h_inn_full h_inn_states h_inn_bed h_inn_dreamOf h_inn_listensIn h_inn_house_creak h_inn_house_cold h_inn_house_one h_inn_house_other h_inn_house_how h_inn_house_falls h_inn_house_ways h_trial_ways_steps h_inn_house_ways_steps h_set_rows h_plain_rows v_count v_fitting (upd x2_tried x2_3.toNatClampNeg 1) v_trial_setting_52 v_trial_been_93 v_inn_minutes v_inn_things v_inn_dreams v_inn_sleepers v_inn_listeners v_inn_house_rooms v_inn_house_doors v_inn_house_how v_trial_ways_rooms_52 v_trial_ways_steps_52 v_inn_house_one v_inn_house_other v_inn_thingIn v_trial_thingIn_93 v_inn_full v_trial_full_93 v_trial_heardBy_93 v_dreams v_trial_dreamOf_79 v_trial_stateOf_93 v_inn_bed v_trial_roomOf_93 v_trial_handOf_93 v_trial_awake_93 v_trial_how_93 v_trial_passed_93 v_inn_states v_inn_house_creak v_inn_listensIn v_inn_house_ways_rooms v_inn_house_ways_steps v_inn_house_cold v_inn_house_falls x58a_set_rows x58a_kin x58a_plain_rows)) (As := [.int v_inn_minutes]) (rest := []) C (ctX4_pass l E h_trial h_inn h_trial_ways h_trial_how h_trial_passed h_trial_dreamOf h_trial_stateOf h_trial_roomOf h_trial_handOf h_trial_awake h_trial_thingIn h_trial_full h_trial_heardBy h_inn_house h_inn_thingIn h_inn_full h_inn_states h_inn_bed h_inn_dreamOf h_inn_listensIn h_inn_house_creak h_inn_house_cold h_inn_house_one h_inn_house_other h_inn_house_how h_inn_house_falls h_inn_house_ways h_trial_ways_steps h_inn_house_ways_steps v_trial_setting_52 v_trial_been_79 v_inn_minutes v_inn_things v_inn_dreams v_inn_sleepers v_inn_listeners v_trial_awake_79 v_trial_dreamOf_79 v_trial_stateOf_79 v_inn_states v_trial_roomOf_79 v_inn_house_rooms v_inn_house_doors v_inn_house_one v_inn_house_other v_trial_how_79 v_trial_thingIn_79 v_trial_full_79 v_trial_handOf_79 v_trial_ways_rooms_52 v_trial_ways_steps_52 v_inn_house_creak v_inn_listensIn v_inn_house_ways_rooms v_inn_house_ways_steps v_trial_heardBy_79 v_inn_house_cold v_inn_house_falls v_trial_passed_79 N v_inn_minutes (r_93, v_trial_been_93, v_trial_awake_93, v_trial_stateOf_93, v_trial_roomOf_93, v_trial_how_93, v_trial_thingIn_93, v_trial_full_93, v_trial_handOf_93, v_trial_heardBy_93, v_trial_passed_93) hc_93) ml_X0_80 ⟨Nat.le_of_ble_eq_true rfl, Nat.le_of_ble_eq_true rfl⟩ hP hD hS 2 rfl rfl rfl [2, 3, 21, 16, 17, 24, 19, 4, 8, 9, 22, 11, 13, 20, 6, 7, 25, 26, 27, 28, 14, 29, 30, 23] [0, 1, 36, 37, 43, 5, 50, 51, 44, 45, 10, 47, 12, 48, 56, 15, 39, 40, 18, 42, 49, 38, 46, 59, 41, 52, 53, 54, 55, 57, 58, 31, 32, 33, 34, 35] 36 rfl rfl rfl rfl rfl rfl rfl hl.1 rfl (Nat.le_of_ble_eq_true rfl) ⟨Nat.zero_le _, Nat.zero_le _⟩ dX0_tryOut_93 ?_
                  clear hP hD hS; intro H locs hP hD hS
                  refine lv_pop (pc := 96) hx hb dX0_tryOut_96 rfl ?_
                  refine lv_aload (pc := 97) hx hb dX0_tryOut_97 (lv_at hl 3 rfl) ?_
                  refine lv_iload (pc := 99) hx hb dX0_tryOut_99 (lv_at hl 4 rfl) ?_
                  refine lv_aload_n (pc := 101) hx hb dX0_tryOut_101 rfl (lv_at hl 0 rfl) ?_
                  refine r_get (pc := 102) C hP 0 rfl fl_X0_44 rfl dX0_tryOut_102 ?_
                  obtain ⟨v_plain_rows_105, hc_105, hf⟩ := bd1 hf
                  refine r_dalVv (pc := 105) (ws' := (wX0_tryOuts E h h_trial h_inn h_dreams h_plain h_set h_tried h_kin h_fitters h_trial_ways h_trial_how h_trial_passed h_trial_dreamOf h_trial_stateOf h_trial_roomOf h_trial_handOf h_trial_awake h_trial_thingIn h_trial_full h_trial_heardBy h_inn_house h_inn_thingIn h_inn_full h_inn_states h_inn_bed h_inn_dreamOf h_inn_listensIn h_inn_house_creak h_inn_house_cold h_inn_house_one h_inn_house_other h_inn_house_how h_inn_house_falls h_inn_house_ways h_trial_ways_steps h_inn_house_ways_steps h_set_rows h_plain_rows v_count v_fitting (upd x2_tried x2_3.toNatClampNeg 1) v_trial_setting_52 v_trial_been_93 v_inn_minutes v_inn_things v_inn_dreams v_inn_sleepers v_inn_listeners v_inn_house_rooms v_inn_house_doors v_inn_house_how v_trial_ways_rooms_52 v_trial_ways_steps_52 v_inn_house_one v_inn_house_other v_inn_thingIn v_trial_thingIn_93 v_inn_full v_trial_full_93 v_trial_heardBy_93 v_dreams v_trial_dreamOf_79 v_trial_stateOf_93 v_inn_bed v_trial_roomOf_93 v_trial_handOf_93 v_trial_awake_93 v_trial_how_93 v_trial_passed_93 v_inn_states v_inn_house_creak v_inn_listensIn v_inn_house_ways_rooms v_inn_house_ways_steps v_inn_house_cold v_inn_house_falls x58a_set_rows x58a_kin v_plain_rows_105)) (As := [.int x58a_5, .ref h_trial]) (rest := []) C (ctX3_keep l E h_trial h_inn h_trial_ways h_trial_how h_trial_passed h_trial_dreamOf h_trial_stateOf h_trial_roomOf h_trial_handOf h_trial_awake h_trial_thingIn h_trial_full h_trial_heardBy h_plain h_plain_rows h_inn_house h_inn_thingIn h_inn_full h_inn_states h_inn_bed h_inn_dreamOf h_inn_listensIn h_inn_house_creak h_inn_house_cold h_inn_house_one h_inn_house_other h_inn_house_how h_inn_house_falls h_inn_house_ways v_trial_setting_52 v_trial_been_93 v_trial_heardBy_93 x58a_plain_rows v_inn_minutes v_inn_things v_inn_dreams v_inn_sleepers v_inn_listeners v_inn_house_rooms v_inn_house_doors v_trial_roomOf_93 v_trial_awake_93 v_trial_how_93 v_trial_thingIn_93 v_trial_full_93 N x58a_5 v_plain_rows_105 hc_105) ml_X0_84 ⟨Nat.le_of_ble_eq_true rfl, Nat.le_of_ble_eq_true rfl⟩ hP hD hS 34 rfl rfl rfl [2, 34, 14, 35, 3, 4, 19, 21, 22, 11, 13] [0, 1, 36, 40, 41, 5, 6, 7, 8, 9, 10, 45, 12, 46, 38, 15, 16, 17, 18, 42, 20, 43, 44, 23, 24, 25, 26, 27, 28, 29, 30, 31, 32, 33, 37, 39] 36 rfl rfl rfl rfl rfl rfl rfl hl.1 rfl (Nat.le_of_ble_eq_true rfl) ⟨Nat.zero_le _, Nat.zero_le _⟩ dX0_tryOut_105 ?_
                  clear hP hD hS; intro H locs hP hD hS
                  refine lv_aload_n (pc := 108) hx hb dX0_tryOut_108 rfl (lv_at hl 0 rfl) ?_
                  refine r_get (pc := 109) C hP 0 rfl fl_X0_29 rfl dX0_tryOut_109 ?_
                  refine lv_iload_n (pc := 112) hx hb dX0_tryOut_112 rfl (lv_at hl 2 rfl) ?_
                  refine lv_bipush (pc := 113) (v := 64) hx hb dX0_tryOut_113 (by decide) ?_
                  refine lv_imul (pc := 115) hx hb dX0_tryOut_115 ?_
                  refine lv_iload (pc := 116) hx hb dX0_tryOut_116 (lv_at hl 4 rfl) ?_
                  refine lv_iadd (pc := 118) hx hb dX0_tryOut_118 ?_
                  refine lv_aload (pc := 119) hx hb dX0_tryOut_119 (lv_at hl 3 rfl) ?_
                  refine lv_iload (pc := 121) hx hb dX0_tryOut_121 (lv_at hl 4 rfl) ?_
                  obtain ⟨r_123, hc_123, hf⟩ := bd1 hf
                  refine r_dalVi (pc := 123) (ws' := (wX0_tryOuts E h h_trial h_inn h_dreams h_plain h_set h_tried h_kin h_fitters h_trial_ways h_trial_how h_trial_passed h_trial_dreamOf h_trial_stateOf h_trial_roomOf h_trial_handOf h_trial_awake h_trial_thingIn h_trial_full h_trial_heardBy h_inn_house h_inn_thingIn h_inn_full h_inn_states h_inn_bed h_inn_dreamOf h_inn_listensIn h_inn_house_creak h_inn_house_cold h_inn_house_one h_inn_house_other h_inn_house_how h_inn_house_falls h_inn_house_ways h_trial_ways_steps h_inn_house_ways_steps h_set_rows h_plain_rows v_count v_fitting (upd x2_tried x2_3.toNatClampNeg 1) v_trial_setting_52 v_trial_been_93 v_inn_minutes v_inn_things v_inn_dreams v_inn_sleepers v_inn_listeners v_inn_house_rooms v_inn_house_doors v_inn_house_how v_trial_ways_rooms_52 v_trial_ways_steps_52 v_inn_house_one v_inn_house_other v_inn_thingIn v_trial_thingIn_93 v_inn_full v_trial_full_93 v_trial_heardBy_93 v_dreams v_trial_dreamOf_79 v_trial_stateOf_93 v_inn_bed v_trial_roomOf_93 v_trial_handOf_93 v_trial_awake_93 v_trial_how_93 v_trial_passed_93 v_inn_states v_inn_house_creak v_inn_listensIn v_inn_house_ways_rooms v_inn_house_ways_steps v_inn_house_cold v_inn_house_falls x58a_set_rows x58a_kin v_plain_rows_105)) (As := [.int x58a_5]) (rest := [.int ((x2_3 * 64) + x58a_5), .ref h_kin]) C (ctX3_firstLike l E h_plain h_plain_rows v_plain_rows_105 N x58a_5 r_123 hc_123) ml_X0_88 ⟨Nat.le_of_ble_eq_true rfl, Nat.le_of_ble_eq_true rfl⟩ hP hD hS 34 rfl rfl rfl [34, 35] [0, 1, 2, 3, 4, 5, 6, 7, 8, 9, 10, 11, 12, 13, 14, 15, 16, 17, 18, 19, 20, 21, 22, 23, 24, 25, 26, 27, 28, 29, 30, 31, 32, 33, 36, 37] 36 rfl rfl rfl rfl rfl rfl rfl hl.1 rfl (Nat.le_of_ble_eq_true rfl) ⟨Nat.zero_le _, Nat.zero_le _⟩ dX0_tryOut_123 ?_
                  clear hP hD hS; intro H locs hP hD hS
                  obtain ⟨hi_126, hf⟩ := gd_s hf
                  refine r_iast (pc := 126) (ws' := (wX0_tryOuts E h h_trial h_inn h_dreams h_plain h_set h_tried h_kin h_fitters h_trial_ways h_trial_how h_trial_passed h_trial_dreamOf h_trial_stateOf h_trial_roomOf h_trial_handOf h_trial_awake h_trial_thingIn h_trial_full h_trial_heardBy h_inn_house h_inn_thingIn h_inn_full h_inn_states h_inn_bed h_inn_dreamOf h_inn_listensIn h_inn_house_creak h_inn_house_cold h_inn_house_one h_inn_house_other h_inn_house_how h_inn_house_falls h_inn_house_ways h_trial_ways_steps h_inn_house_ways_steps h_set_rows h_plain_rows v_count v_fitting (upd x2_tried x2_3.toNatClampNeg 1) v_trial_setting_52 v_trial_been_93 v_inn_minutes v_inn_things v_inn_dreams v_inn_sleepers v_inn_listeners v_inn_house_rooms v_inn_house_doors v_inn_house_how v_trial_ways_rooms_52 v_trial_ways_steps_52 v_inn_house_one v_inn_house_other v_inn_thingIn v_trial_thingIn_93 v_inn_full v_trial_full_93 v_trial_heardBy_93 v_dreams v_trial_dreamOf_79 v_trial_stateOf_93 v_inn_bed v_trial_roomOf_93 v_trial_handOf_93 v_trial_awake_93 v_trial_how_93 v_trial_passed_93 v_inn_states v_inn_house_creak v_inn_listensIn v_inn_house_ways_rooms v_inn_house_ways_steps v_inn_house_cold v_inn_house_falls x58a_set_rows (upd x58a_kin ((x2_3 * 64) + x58a_5).toNatClampNeg r_123) v_plain_rows_105)) C hP hD hS 33 rfl hi_126 rfl dX0_tryOut_126 ?_
                  clear hP hD hS; intro H locs hP hD hS
                  refine lv_iinc (pc := 127) (v := x58a_5 + 1) (lv' := [(5, .int (x58a_5 + 1)), (0, .ref h), (2, .int p1), (3, .int x2_3), (4, .ref h_plain)]) hx hb dX0_tryOut_127 hl (k := 4) rfl rfl (by decide) rfl (fun ls hl => ?_)
                  refine lv_goto (pc := 130) (tgt := 58) hx hb dX0_tryOut_130 (by decide) ?_
                  exact ih58a (x58a_5 + 1) v_trial_been_93 v_trial_thingIn_93 v_trial_full_93 v_trial_heardBy_93 v_trial_dreamOf_79 v_trial_stateOf_93 v_trial_roomOf_93 v_trial_handOf_93 v_trial_awake_93 v_trial_how_93 v_trial_passed_93 x58a_set_rows (upd x58a_kin ((x2_3 * 64) + x58a_5).toNatClampNeg r_123) v_plain_rows_105 hf _ _ _ (lv_sub hl [1, 2, 3, 4, 0] rfl) hP hD hS
            exact key58a _ 0 x2_trial_been x2_trial_thingIn x2_trial_full x2_trial_heardBy x2_trial_dreamOf x2_trial_stateOf x2_trial_roomOf x2_trial_handOf x2_trial_awake x2_trial_how x2_trial_passed x2_set_rows x2_kin x2_plain_rows hf _ _ _ (lv_sub hl [2, 3, 4, 1, 0] rfl) hP hD hS
        · replace hf := it_f c_13 hf
          refine lv_goto (pc := 16) (tgt := 133) hx hb dX0_tryOut_16 (by decide) ?_
          exact hj133 x2_tried x2_trial_setting x2_trial_been x2_trial_ways_rooms x2_trial_ways_steps x2_trial_thingIn x2_trial_full x2_trial_heardBy x2_trial_dreamOf x2_trial_stateOf x2_trial_roomOf x2_trial_handOf x2_trial_awake x2_trial_how x2_trial_passed x2_set_rows x2_kin x2_plain_rows hf _ _ _ (lv_sub hl [0, 1, 2] rfl) hP hD hS
  exact key2 _ p0 v_tried v_trial_setting v_trial_been v_trial_ways_rooms v_trial_ways_steps v_trial_thingIn v_trial_full v_trial_heardBy v_trial_dreamOf v_trial_stateOf v_trial_roomOf v_trial_handOf v_trial_awake v_trial_how v_trial_passed v_set_rows v_kin v_plain_rows hf _ _ _ (lv_sub hl [1, 3, 0] rfl) hP hD hS
def wX0_tryOut (E : EN) (h h_trial h_inn h_dreams h_plain h_set h_tried h_kin h_fitters h_trial_ways h_trial_how h_trial_passed h_trial_dreamOf h_trial_stateOf h_trial_roomOf h_trial_handOf h_trial_awake h_trial_thingIn h_trial_full h_trial_heardBy h_inn_house h_inn_thingIn h_inn_full h_inn_states h_inn_bed h_inn_dreamOf h_inn_listensIn h_inn_house_creak h_inn_house_cold h_inn_house_one h_inn_house_other h_inn_house_how h_inn_house_falls h_inn_house_ways h_trial_ways_steps h_inn_house_ways_steps h_plain_rows h_set_rows : Nat) (v_count : Int32) (v_fitting : Int32) (v_tried : Nat → Int32) (v_trial_inn : Option Nat) (v_trial_setting : Int32) (v_trial_been : Int32) (v_inn_minutes : Int32) (v_inn_things : Int32) (v_inn_dreams : Int32) (v_inn_sleepers : Int32) (v_inn_listeners : Int32) (v_inn_house_rooms : Int32) (v_inn_house_doors : Int32) (v_inn_house_how : Nat → Int32) (v_trial_ways_rooms : Int32) (v_trial_ways_steps : Nat → Int32) (v_inn_house_one : Nat → Int32) (v_inn_house_other : Nat → Int32) (v_inn_thingIn : Nat → Int32) (v_trial_thingIn : Nat → Int32) (v_inn_full : Nat → Int32) (v_trial_full : Nat → Int32) (v_trial_heardBy : Nat → Int64) (v_dreams : Nat → Int32) (v_trial_dreamOf : Nat → Int32) (v_trial_stateOf : Nat → Int32) (v_inn_bed : Nat → Int32) (v_trial_roomOf : Nat → Int32) (v_trial_handOf : Nat → Int32) (v_trial_awake : Nat → Int32) (v_trial_how : Nat → Int32) (v_trial_passed : Nat → Int32) (v_inn_states : Nat → Int32) (v_inn_house_creak : Nat → Int32) (v_inn_listensIn : Nat → Int32) (v_inn_house_ways_rooms : Int32) (v_inn_house_ways_steps : Nat → Int32) (v_inn_house_cold : Nat → Int32) (v_inn_house_falls : Nat → Int32) (v_plain_rows : Nat → Int64) (v_kin : Nat → Int32) (v_set_rows : Nat → Int64) : va_W := [(h, .inr (0, [.ref h_trial, .ref h_inn, .int v_count, .ref h_dreams, .ref h_plain, .ref h_set, .ref h_tried, .ref h_kin, .int v_fitting, .ref h_fitters])), (h_tried, aZ E 21 v_tried), (h_trial, .inr (4, [va_rf v_trial_inn, .int v_trial_setting, .int v_trial_been, .ref h_trial_ways, .ref h_trial_how, .ref h_trial_passed, .ref h_trial_dreamOf, .ref h_trial_stateOf, .ref h_trial_roomOf, .ref h_trial_handOf, .ref h_trial_awake, .ref h_trial_thingIn, .ref h_trial_full, .ref h_trial_heardBy])), (h_inn, .inr (2, [.ref h_inn_house, .int v_inn_minutes, .int v_inn_things, .ref h_inn_thingIn, .ref h_inn_full, .int v_inn_dreams, .ref h_inn_states, .int v_inn_sleepers, .ref h_inn_bed, .ref h_inn_dreamOf, .int v_inn_listeners, .ref h_inn_listensIn])), (h_inn_house, .inr (1, [.int v_inn_house_rooms, .ref h_inn_house_creak, .ref h_inn_house_cold, .int v_inn_house_doors, .ref h_inn_house_one, .ref h_inn_house_other, .ref h_inn_house_how, .ref h_inn_house_falls, .ref h_inn_house_ways])), (h_inn_house_how, aI E 10 v_inn_house_how), (h_trial_ways, .inr (8, [.ref h_trial_ways_steps, .int v_trial_ways_rooms])), (h_trial_ways_steps, aI E 64 v_trial_ways_steps), (h_inn_house_one, aI E 10 v_inn_house_one), (h_inn_house_other, aI E 10 v_inn_house_other), (h_inn_thingIn, aI E 4 v_inn_thingIn), (h_trial_thingIn, aI E 4 v_trial_thingIn), (h_inn_full, aZ E 4 v_inn_full), (h_trial_full, aZ E 4 v_trial_full), (h_trial_heardBy, aJ E 3 v_trial_heardBy), (h_dreams, aI E 192 v_dreams), (h_trial_dreamOf, aI E 3 v_trial_dreamOf), (h_trial_stateOf, aI E 3 v_trial_stateOf), (h_inn_bed, aI E 3 v_inn_bed), (h_trial_roomOf, aI E 3 v_trial_roomOf), (h_trial_handOf, aI E 3 v_trial_handOf), (h_trial_awake, aZ E 3 v_trial_awake), (h_trial_how, aI E 10 v_trial_how), (h_trial_passed, aI E 10 v_trial_passed), (h_inn_states, aI E 64 v_inn_states), (h_inn_house_creak, aI E 8 v_inn_house_creak), (h_inn_listensIn, aI E 3 v_inn_listensIn), (h_inn_house_ways, .inr (8, [.ref h_inn_house_ways_steps, .int v_inn_house_ways_rooms])), (h_inn_house_ways_steps, aI E 64 v_inn_house_ways_steps), (h_inn_house_cold, aZ E 8 v_inn_house_cold), (h_inn_house_falls, aZ E 10 v_inn_house_falls), (h_plain, .inr (3, [.ref h_plain_rows])), (h_plain_rows, aJ E 256 v_plain_rows), (h_kin, aI E 1344 v_kin), (h_set, .inr (3, [.ref h_set_rows])), (h_set_rows, aJ E 256 v_set_rows)]
def BX0_tryOut_58 (v_count : Int32) (j133 : ((Nat → Int32) × Option Nat × Int32 × Int32 × Int32 × (Nat → Int32) × (Nat → Int32) × (Nat → Int32) × (Nat → Int64) × (Nat → Int32) × (Nat → Int32) × (Nat → Int32) × (Nat → Int32) × (Nat → Int32) × (Nat → Int32) × (Nat → Int32) × (Nat → Int64) × (Nat → Int32) × (Nat → Int64)) → Option ((Nat → Int32) × Option Nat × Int32 × Int32 × Int32 × (Nat → Int32) × (Nat → Int32) × (Nat → Int32) × (Nat → Int64) × (Nat → Int32) × (Nat → Int32) × (Nat → Int32) × (Nat → Int32) × (Nat → Int32) × (Nat → Int32) × (Nat → Int32) × (Nat → Int64) × (Nat → Int32) × (Nat → Int64))) (x2_tried : Nat → Int32) (x2_3 : Int32) (h_inn : Nat) (v_trial_setting_52 : Int32) (v_trial_ways_rooms_52 : Int32) (v_trial_ways_steps_52 : Nat → Int32) (N : Nat) (v_inn_sleepers : Int32) (v_inn_house_doors : Int32) (v_inn_thingIn : Nat → Int32) (v_inn_full : Nat → Int32) (v_dreams : Nat → Int32) (v_inn_bed : Nat → Int32) (v_inn_house_how : Nat → Int32) (v_inn_minutes : Int32) (v_inn_listeners : Int32) (v_inn_states : Nat → Int32) (v_inn_house_one : Nat → Int32) (v_inn_house_other : Nat → Int32) (v_inn_house_creak : Nat → Int32) (v_inn_listensIn : Nat → Int32) (v_inn_house_ways_steps : Nat → Int32) (v_inn_house_cold : Nat → Int32) (v_inn_house_falls : Nat → Int32) (v_inn_things : Int32) (rec58 : (Int32 × Int32 × (Nat → Int32) × (Nat → Int32) × (Nat → Int64) × (Nat → Int32) × (Nat → Int32) × (Nat → Int32) × (Nat → Int32) × (Nat → Int32) × (Nat → Int32) × (Nat → Int32) × (Nat → Int64) × (Nat → Int32) × (Nat → Int64)) → Option ((Nat → Int32) × Option Nat × Int32 × Int32 × Int32 × (Nat → Int32) × (Nat → Int32) × (Nat → Int32) × (Nat → Int64) × (Nat → Int32) × (Nat → Int32) × (Nat → Int32) × (Nat → Int32) × (Nat → Int32) × (Nat → Int32) × (Nat → Int32) × (Nat → Int64) × (Nat → Int32) × (Nat → Int64))) : (Int32 × Int32 × (Nat → Int32) × (Nat → Int32) × (Nat → Int64) × (Nat → Int32) × (Nat → Int32) × (Nat → Int32) × (Nat → Int32) × (Nat → Int32) × (Nat → Int32) × (Nat → Int32) × (Nat → Int64) × (Nat → Int32) × (Nat → Int64)) → Option ((Nat → Int32) × Option Nat × Int32 × Int32 × Int32 × (Nat → Int32) × (Nat → Int32) × (Nat → Int32) × (Nat → Int64) × (Nat → Int32) × (Nat → Int32) × (Nat → Int32) × (Nat → Int32) × (Nat → Int32) × (Nat → Int32) × (Nat → Int32) × (Nat → Int64) × (Nat → Int32) × (Nat → Int64)) := un15 fun (x58_5 : Int32) (x58_trial_been : Int32) (x58_trial_thingIn : Nat → Int32) (x58_trial_full : Nat → Int32) (x58_trial_heardBy : Nat → Int64) (x58_trial_dreamOf : Nat → Int32) (x58_trial_stateOf : Nat → Int32) (x58_trial_roomOf : Nat → Int32) (x58_trial_handOf : Nat → Int32) (x58_trial_awake : Nat → Int32) (x58_trial_how : Nat → Int32) (x58_trial_passed : Nat → Int32) (x58_plain_rows : Nat → Int64) (x58_kin : Nat → Int32) (x58_set_rows : Nat → Int64) => if v_count ≤ x58_5 then (j133 (upd x2_tried x2_3.toNatClampNeg 1, (some h_inn), v_trial_setting_52, x58_trial_been, v_trial_ways_rooms_52, v_trial_ways_steps_52, x58_trial_thingIn, x58_trial_full, x58_trial_heardBy, x58_trial_dreamOf, x58_trial_stateOf, x58_trial_roomOf, x58_trial_handOf, x58_trial_awake, x58_trial_how, x58_trial_passed, x58_plain_rows, x58_kin, x58_set_rows)) else ((fX4_begind N (x58_5 * 3) v_trial_setting_52 v_inn_sleepers v_inn_house_doors v_inn_thingIn x58_trial_thingIn v_inn_full x58_trial_full x58_trial_heardBy v_dreams x58_trial_dreamOf x58_trial_stateOf v_inn_bed x58_trial_roomOf x58_trial_handOf x58_trial_awake v_inn_house_how x58_trial_how x58_trial_passed).bind (un11 fun (v_trial_been_79 : Int32) (v_trial_thingIn_79 : Nat → Int32) (v_trial_full_79 : Nat → Int32) (v_trial_heardBy_79 : Nat → Int64) (v_trial_dreamOf_79 : Nat → Int32) (v_trial_stateOf_79 : Nat → Int32) (v_trial_roomOf_79 : Nat → Int32) (v_trial_handOf_79 : Nat → Int32) (v_trial_awake_79 : Nat → Int32) (v_trial_how_79 : Nat → Int32) (v_trial_passed_79 : Nat → Int32) => (fX4_pass N v_inn_minutes v_trial_been_79 v_inn_sleepers v_inn_listeners v_trial_awake_79 v_trial_dreamOf_79 v_trial_stateOf_79 v_inn_states v_trial_roomOf_79 v_inn_house_doors v_inn_house_one v_inn_house_other v_trial_how_79 v_trial_thingIn_79 v_trial_full_79 v_trial_handOf_79 v_trial_ways_rooms_52 v_trial_ways_steps_52 v_inn_house_creak v_inn_listensIn v_inn_house_ways_steps v_trial_heardBy_79 v_inn_house_cold v_inn_house_falls v_trial_passed_79).bind (un11 fun (r_93 : Int32) (v_trial_been_93 : Int32) (v_trial_awake_93 : Nat → Int32) (v_trial_stateOf_93 : Nat → Int32) (v_trial_roomOf_93 : Nat → Int32) (v_trial_how_93 : Nat → Int32) (v_trial_thingIn_93 : Nat → Int32) (v_trial_full_93 : Nat → Int32) (v_trial_handOf_93 : Nat → Int32) (v_trial_heardBy_93 : Nat → Int64) (v_trial_passed_93 : Nat → Int32) => (fX3_keep N x58_5 v_trial_heardBy_93 x58_set_rows v_inn_things v_inn_sleepers v_inn_house_doors v_trial_roomOf_93 v_trial_awake_93 v_trial_how_93 v_trial_thingIn_93 v_trial_full_93).bind (un1 fun (v_set_rows_105 : Nat → Int64) => (fX3_firstLike N x58_5 v_set_rows_105).bind (un1 fun (r_123 : Int32) => gd ((x2_3 * 64) + x58_5) 1344 (rec58 (x58_5 + 1, v_trial_been_93, v_trial_thingIn_93, v_trial_full_93, v_trial_heardBy_93, v_trial_dreamOf_79, v_trial_stateOf_93, v_trial_roomOf_93, v_trial_handOf_93, v_trial_awake_93, v_trial_how_93, v_trial_passed_93, x58_plain_rows, upd x58_kin ((x2_3 * 64) + x58_5).toNatClampNeg r_123, v_set_rows_105)))))))
def BX0_tryOut_58a (v_count : Int32) (j133 : ((Nat → Int32) × Option Nat × Int32 × Int32 × Int32 × (Nat → Int32) × (Nat → Int32) × (Nat → Int32) × (Nat → Int64) × (Nat → Int32) × (Nat → Int32) × (Nat → Int32) × (Nat → Int32) × (Nat → Int32) × (Nat → Int32) × (Nat → Int32) × (Nat → Int64) × (Nat → Int32) × (Nat → Int64)) → Option ((Nat → Int32) × Option Nat × Int32 × Int32 × Int32 × (Nat → Int32) × (Nat → Int32) × (Nat → Int32) × (Nat → Int64) × (Nat → Int32) × (Nat → Int32) × (Nat → Int32) × (Nat → Int32) × (Nat → Int32) × (Nat → Int32) × (Nat → Int32) × (Nat → Int64) × (Nat → Int32) × (Nat → Int64))) (x2_tried : Nat → Int32) (x2_3 : Int32) (h_inn : Nat) (v_trial_setting_52 : Int32) (v_trial_ways_rooms_52 : Int32) (v_trial_ways_steps_52 : Nat → Int32) (N : Nat) (v_inn_sleepers : Int32) (v_inn_house_doors : Int32) (v_inn_thingIn : Nat → Int32) (v_inn_full : Nat → Int32) (v_dreams : Nat → Int32) (v_inn_bed : Nat → Int32) (v_inn_house_how : Nat → Int32) (v_inn_minutes : Int32) (v_inn_listeners : Int32) (v_inn_states : Nat → Int32) (v_inn_house_one : Nat → Int32) (v_inn_house_other : Nat → Int32) (v_inn_house_creak : Nat → Int32) (v_inn_listensIn : Nat → Int32) (v_inn_house_ways_steps : Nat → Int32) (v_inn_house_cold : Nat → Int32) (v_inn_house_falls : Nat → Int32) (v_inn_things : Int32) (rec58a : (Int32 × Int32 × (Nat → Int32) × (Nat → Int32) × (Nat → Int64) × (Nat → Int32) × (Nat → Int32) × (Nat → Int32) × (Nat → Int32) × (Nat → Int32) × (Nat → Int32) × (Nat → Int32) × (Nat → Int64) × (Nat → Int32) × (Nat → Int64)) → Option ((Nat → Int32) × Option Nat × Int32 × Int32 × Int32 × (Nat → Int32) × (Nat → Int32) × (Nat → Int32) × (Nat → Int64) × (Nat → Int32) × (Nat → Int32) × (Nat → Int32) × (Nat → Int32) × (Nat → Int32) × (Nat → Int32) × (Nat → Int32) × (Nat → Int64) × (Nat → Int32) × (Nat → Int64))) : (Int32 × Int32 × (Nat → Int32) × (Nat → Int32) × (Nat → Int64) × (Nat → Int32) × (Nat → Int32) × (Nat → Int32) × (Nat → Int32) × (Nat → Int32) × (Nat → Int32) × (Nat → Int32) × (Nat → Int64) × (Nat → Int32) × (Nat → Int64)) → Option ((Nat → Int32) × Option Nat × Int32 × Int32 × Int32 × (Nat → Int32) × (Nat → Int32) × (Nat → Int32) × (Nat → Int64) × (Nat → Int32) × (Nat → Int32) × (Nat → Int32) × (Nat → Int32) × (Nat → Int32) × (Nat → Int32) × (Nat → Int32) × (Nat → Int64) × (Nat → Int32) × (Nat → Int64)) := un15 fun (x58a_5 : Int32) (x58a_trial_been : Int32) (x58a_trial_thingIn : Nat → Int32) (x58a_trial_full : Nat → Int32) (x58a_trial_heardBy : Nat → Int64) (x58a_trial_dreamOf : Nat → Int32) (x58a_trial_stateOf : Nat → Int32) (x58a_trial_roomOf : Nat → Int32) (x58a_trial_handOf : Nat → Int32) (x58a_trial_awake : Nat → Int32) (x58a_trial_how : Nat → Int32) (x58a_trial_passed : Nat → Int32) (x58a_plain_rows : Nat → Int64) (x58a_kin : Nat → Int32) (x58a_set_rows : Nat → Int64) => if v_count ≤ x58a_5 then (j133 (upd x2_tried x2_3.toNatClampNeg 1, (some h_inn), v_trial_setting_52, x58a_trial_been, v_trial_ways_rooms_52, v_trial_ways_steps_52, x58a_trial_thingIn, x58a_trial_full, x58a_trial_heardBy, x58a_trial_dreamOf, x58a_trial_stateOf, x58a_trial_roomOf, x58a_trial_handOf, x58a_trial_awake, x58a_trial_how, x58a_trial_passed, x58a_plain_rows, x58a_kin, x58a_set_rows)) else ((fX4_begind N (x58a_5 * 3) v_trial_setting_52 v_inn_sleepers v_inn_house_doors v_inn_thingIn x58a_trial_thingIn v_inn_full x58a_trial_full x58a_trial_heardBy v_dreams x58a_trial_dreamOf x58a_trial_stateOf v_inn_bed x58a_trial_roomOf x58a_trial_handOf x58a_trial_awake v_inn_house_how x58a_trial_how x58a_trial_passed).bind (un11 fun (v_trial_been_79 : Int32) (v_trial_thingIn_79 : Nat → Int32) (v_trial_full_79 : Nat → Int32) (v_trial_heardBy_79 : Nat → Int64) (v_trial_dreamOf_79 : Nat → Int32) (v_trial_stateOf_79 : Nat → Int32) (v_trial_roomOf_79 : Nat → Int32) (v_trial_handOf_79 : Nat → Int32) (v_trial_awake_79 : Nat → Int32) (v_trial_how_79 : Nat → Int32) (v_trial_passed_79 : Nat → Int32) => (fX4_pass N v_inn_minutes v_trial_been_79 v_inn_sleepers v_inn_listeners v_trial_awake_79 v_trial_dreamOf_79 v_trial_stateOf_79 v_inn_states v_trial_roomOf_79 v_inn_house_doors v_inn_house_one v_inn_house_other v_trial_how_79 v_trial_thingIn_79 v_trial_full_79 v_trial_handOf_79 v_trial_ways_rooms_52 v_trial_ways_steps_52 v_inn_house_creak v_inn_listensIn v_inn_house_ways_steps v_trial_heardBy_79 v_inn_house_cold v_inn_house_falls v_trial_passed_79).bind (un11 fun (r_93 : Int32) (v_trial_been_93 : Int32) (v_trial_awake_93 : Nat → Int32) (v_trial_stateOf_93 : Nat → Int32) (v_trial_roomOf_93 : Nat → Int32) (v_trial_how_93 : Nat → Int32) (v_trial_thingIn_93 : Nat → Int32) (v_trial_full_93 : Nat → Int32) (v_trial_handOf_93 : Nat → Int32) (v_trial_heardBy_93 : Nat → Int64) (v_trial_passed_93 : Nat → Int32) => (fX3_keep N x58a_5 v_trial_heardBy_93 x58a_plain_rows v_inn_things v_inn_sleepers v_inn_house_doors v_trial_roomOf_93 v_trial_awake_93 v_trial_how_93 v_trial_thingIn_93 v_trial_full_93).bind (un1 fun (v_plain_rows_105 : Nat → Int64) => (fX3_firstLike N x58a_5 v_plain_rows_105).bind (un1 fun (r_123 : Int32) => gd ((x2_3 * 64) + x58a_5) 1344 (rec58a (x58a_5 + 1, v_trial_been_93, v_trial_thingIn_93, v_trial_full_93, v_trial_heardBy_93, v_trial_dreamOf_79, v_trial_stateOf_93, v_trial_roomOf_93, v_trial_handOf_93, v_trial_awake_93, v_trial_how_93, v_trial_passed_93, v_plain_rows_105, upd x58a_kin ((x2_3 * 64) + x58a_5).toNatClampNeg r_123, x58a_set_rows)))))))
def BX0_tryOut_2 (p1 : Int32) (N : Nat) (v_inn_house_rooms : Int32) (v_inn_house_doors : Int32) (v_inn_house_how : Nat → Int32) (v_inn_house_one : Nat → Int32) (v_inn_house_other : Nat → Int32) (v_count : Int32) (h_inn : Nat) (v_inn_sleepers : Int32) (v_inn_thingIn : Nat → Int32) (v_inn_full : Nat → Int32) (v_dreams : Nat → Int32) (v_inn_bed : Nat → Int32) (v_inn_minutes : Int32) (v_inn_listeners : Int32) (v_inn_states : Nat → Int32) (v_inn_house_creak : Nat → Int32) (v_inn_listensIn : Nat → Int32) (v_inn_house_ways_steps : Nat → Int32) (v_inn_house_cold : Nat → Int32) (v_inn_house_falls : Nat → Int32) (v_inn_things : Int32) (rec2 : (Int32 × (Nat → Int32) × Option Nat × Int32 × Int32 × Int32 × (Nat → Int32) × (Nat → Int32) × (Nat → Int32) × (Nat → Int64) × (Nat → Int32) × (Nat → Int32) × (Nat → Int32) × (Nat → Int32) × (Nat → Int32) × (Nat → Int32) × (Nat → Int32) × (Nat → Int64) × (Nat → Int32) × (Nat → Int64)) → Option ((Nat → Int32) × Option Nat × Int32 × Int32 × Int32 × (Nat → Int32) × (Nat → Int32) × (Nat → Int32) × (Nat → Int64) × (Nat → Int32) × (Nat → Int32) × (Nat → Int32) × (Nat → Int32) × (Nat → Int32) × (Nat → Int32) × (Nat → Int32) × (Nat → Int64) × (Nat → Int32) × (Nat → Int64))) : (Int32 × (Nat → Int32) × Option Nat × Int32 × Int32 × Int32 × (Nat → Int32) × (Nat → Int32) × (Nat → Int32) × (Nat → Int64) × (Nat → Int32) × (Nat → Int32) × (Nat → Int32) × (Nat → Int32) × (Nat → Int32) × (Nat → Int32) × (Nat → Int32) × (Nat → Int64) × (Nat → Int32) × (Nat → Int64)) → Option ((Nat → Int32) × Option Nat × Int32 × Int32 × Int32 × (Nat → Int32) × (Nat → Int32) × (Nat → Int32) × (Nat → Int64) × (Nat → Int32) × (Nat → Int32) × (Nat → Int32) × (Nat → Int32) × (Nat → Int32) × (Nat → Int32) × (Nat → Int32) × (Nat → Int64) × (Nat → Int32) × (Nat → Int64)) := un20 fun (x2_3 : Int32) (x2_tried : Nat → Int32) (x2_trial_inn : Option Nat) (x2_trial_setting : Int32) (x2_trial_been : Int32) (x2_trial_ways_rooms : Int32) (x2_trial_ways_steps : Nat → Int32) (x2_trial_thingIn : Nat → Int32) (x2_trial_full : Nat → Int32) (x2_trial_heardBy : Nat → Int64) (x2_trial_dreamOf : Nat → Int32) (x2_trial_stateOf : Nat → Int32) (x2_trial_roomOf : Nat → Int32) (x2_trial_handOf : Nat → Int32) (x2_trial_awake : Nat → Int32) (x2_trial_how : Nat → Int32) (x2_trial_passed : Nat → Int32) (x2_plain_rows : Nat → Int64) (x2_kin : Nat → Int32) (x2_set_rows : Nat → Int64) => if p1 < x2_3 then (some (x2_tried, x2_trial_inn, x2_trial_setting, x2_trial_been, x2_trial_ways_rooms, x2_trial_ways_steps, x2_trial_thingIn, x2_trial_full, x2_trial_heardBy, x2_trial_dreamOf, x2_trial_stateOf, x2_trial_roomOf, x2_trial_handOf, x2_trial_awake, x2_trial_how, x2_trial_passed, x2_plain_rows, x2_kin, x2_set_rows)) else (gd x2_3 21 (jn (un19 fun (x133_tried : Nat → Int32) (x133_trial_inn : Option Nat) (x133_trial_setting : Int32) (x133_trial_been : Int32) (x133_trial_ways_rooms : Int32) (x133_trial_ways_steps : Nat → Int32) (x133_trial_thingIn : Nat → Int32) (x133_trial_full : Nat → Int32) (x133_trial_heardBy : Nat → Int64) (x133_trial_dreamOf : Nat → Int32) (x133_trial_stateOf : Nat → Int32) (x133_trial_roomOf : Nat → Int32) (x133_trial_handOf : Nat → Int32) (x133_trial_awake : Nat → Int32) (x133_trial_how : Nat → Int32) (x133_trial_passed : Nat → Int32) (x133_plain_rows : Nat → Int64) (x133_kin : Nat → Int32) (x133_set_rows : Nat → Int64) => rec2 (x2_3 + 1, x133_tried, x133_trial_inn, x133_trial_setting, x133_trial_been, x133_trial_ways_rooms, x133_trial_ways_steps, x133_trial_thingIn, x133_trial_full, x133_trial_heardBy, x133_trial_dreamOf, x133_trial_stateOf, x133_trial_roomOf, x133_trial_handOf, x133_trial_awake, x133_trial_how, x133_trial_passed, x133_plain_rows, x133_kin, x133_set_rows)) (fun j133 => if (x2_tried x2_3.toNatClampNeg) = 0 then (gd x2_3 21 (if x2_3 = 0 then ((fX4_prepare N x2_3 v_inn_house_rooms v_inn_house_doors v_inn_house_how x2_trial_ways_steps v_inn_house_one v_inn_house_other).bind (un3 fun (v_trial_setting_52 : Int32) (v_trial_ways_rooms_52 : Int32) (v_trial_ways_steps_52 : Nat → Int32) => lp (BX0_tryOut_58a v_count j133 x2_tried x2_3 h_inn v_trial_setting_52 v_trial_ways_rooms_52 v_trial_ways_steps_52 N v_inn_sleepers v_inn_house_doors v_inn_thingIn v_inn_full v_dreams v_inn_bed v_inn_house_how v_inn_minutes v_inn_listeners v_inn_states v_inn_house_one v_inn_house_other v_inn_house_creak v_inn_listensIn v_inn_house_ways_steps v_inn_house_cold v_inn_house_falls v_inn_things) N (0, x2_trial_been, x2_trial_thingIn, x2_trial_full, x2_trial_heardBy, x2_trial_dreamOf, x2_trial_stateOf, x2_trial_roomOf, x2_trial_handOf, x2_trial_awake, x2_trial_how, x2_trial_passed, x2_plain_rows, x2_kin, x2_set_rows))) else ((fX4_prepare N x2_3 v_inn_house_rooms v_inn_house_doors v_inn_house_how x2_trial_ways_steps v_inn_house_one v_inn_house_other).bind (un3 fun (v_trial_setting_52 : Int32) (v_trial_ways_rooms_52 : Int32) (v_trial_ways_steps_52 : Nat → Int32) => lp (BX0_tryOut_58 v_count j133 x2_tried x2_3 h_inn v_trial_setting_52 v_trial_ways_rooms_52 v_trial_ways_steps_52 N v_inn_sleepers v_inn_house_doors v_inn_thingIn v_inn_full v_dreams v_inn_bed v_inn_house_how v_inn_minutes v_inn_listeners v_inn_states v_inn_house_one v_inn_house_other v_inn_house_creak v_inn_listensIn v_inn_house_ways_steps v_inn_house_cold v_inn_house_falls v_inn_things) N (0, x2_trial_been, x2_trial_thingIn, x2_trial_full, x2_trial_heardBy, x2_trial_dreamOf, x2_trial_stateOf, x2_trial_roomOf, x2_trial_handOf, x2_trial_awake, x2_trial_how, x2_trial_passed, x2_plain_rows, x2_kin, x2_set_rows))))) else (j133 (x2_tried, x2_trial_inn, x2_trial_setting, x2_trial_been, x2_trial_ways_rooms, x2_trial_ways_steps, x2_trial_thingIn, x2_trial_full, x2_trial_heardBy, x2_trial_dreamOf, x2_trial_stateOf, x2_trial_roomOf, x2_trial_handOf, x2_trial_awake, x2_trial_how, x2_trial_passed, x2_plain_rows, x2_kin, x2_set_rows)))))
def fX0_tryOut (N : Nat) (p0 : Int32) (p1 : Int32) (v_count : Int32) (v_tried : Nat → Int32) (v_trial_inn : Option Nat) (v_trial_setting : Int32) (v_trial_been : Int32) (v_inn_minutes : Int32) (v_inn_things : Int32) (v_inn_sleepers : Int32) (v_inn_listeners : Int32) (v_inn_house_rooms : Int32) (v_inn_house_doors : Int32) (v_inn_house_how : Nat → Int32) (v_trial_ways_rooms : Int32) (v_trial_ways_steps : Nat → Int32) (v_inn_house_one : Nat → Int32) (v_inn_house_other : Nat → Int32) (v_inn_thingIn : Nat → Int32) (v_trial_thingIn : Nat → Int32) (v_inn_full : Nat → Int32) (v_trial_full : Nat → Int32) (v_trial_heardBy : Nat → Int64) (v_dreams : Nat → Int32) (v_trial_dreamOf : Nat → Int32) (v_trial_stateOf : Nat → Int32) (v_inn_bed : Nat → Int32) (v_trial_roomOf : Nat → Int32) (v_trial_handOf : Nat → Int32) (v_trial_awake : Nat → Int32) (v_trial_how : Nat → Int32) (v_trial_passed : Nat → Int32) (v_inn_states : Nat → Int32) (v_inn_house_creak : Nat → Int32) (v_inn_listensIn : Nat → Int32) (v_inn_house_ways_steps : Nat → Int32) (v_inn_house_cold : Nat → Int32) (v_inn_house_falls : Nat → Int32) (v_plain_rows : Nat → Int64) (v_kin : Nat → Int32) (v_set_rows : Nat → Int64) (h_inn : Nat) : Option ((Nat → Int32) × Option Nat × Int32 × Int32 × Int32 × (Nat → Int32) × (Nat → Int32) × (Nat → Int32) × (Nat → Int64) × (Nat → Int32) × (Nat → Int32) × (Nat → Int32) × (Nat → Int32) × (Nat → Int32) × (Nat → Int32) × (Nat → Int32) × (Nat → Int64) × (Nat → Int32) × (Nat → Int64)) := lp (BX0_tryOut_2 p1 N v_inn_house_rooms v_inn_house_doors v_inn_house_how v_inn_house_one v_inn_house_other v_count h_inn v_inn_sleepers v_inn_thingIn v_inn_full v_dreams v_inn_bed v_inn_minutes v_inn_listeners v_inn_states v_inn_house_creak v_inn_listensIn v_inn_house_ways_steps v_inn_house_cold v_inn_house_falls v_inn_things) N (p0, v_tried, v_trial_inn, v_trial_setting, v_trial_been, v_trial_ways_rooms, v_trial_ways_steps, v_trial_thingIn, v_trial_full, v_trial_heardBy, v_trial_dreamOf, v_trial_stateOf, v_trial_roomOf, v_trial_handOf, v_trial_awake, v_trial_how, v_trial_passed, v_plain_rows, v_kin, v_set_rows)
set_option maxHeartbeats 4000000 in
set_option maxRecDepth 100000 in
theorem ctX0_tryOut (l : Launch) (E : EN) (h h_trial h_inn h_dreams h_plain h_set h_tried h_kin h_fitters h_trial_ways h_trial_how h_trial_passed h_trial_dreamOf h_trial_stateOf h_trial_roomOf h_trial_handOf h_trial_awake h_trial_thingIn h_trial_full h_trial_heardBy h_inn_house h_inn_thingIn h_inn_full h_inn_states h_inn_bed h_inn_dreamOf h_inn_listensIn h_inn_house_creak h_inn_house_cold h_inn_house_one h_inn_house_other h_inn_house_how h_inn_house_falls h_inn_house_ways h_trial_ways_steps h_inn_house_ways_steps h_plain_rows h_set_rows : Nat) (v_count : Int32) (v_fitting : Int32) (v_tried : Nat → Int32) (v_trial_inn : Option Nat) (v_trial_setting : Int32) (v_trial_been : Int32) (v_inn_minutes : Int32) (v_inn_things : Int32) (v_inn_dreams : Int32) (v_inn_sleepers : Int32) (v_inn_listeners : Int32) (v_inn_house_rooms : Int32) (v_inn_house_doors : Int32) (v_inn_house_how : Nat → Int32) (v_trial_ways_rooms : Int32) (v_trial_ways_steps : Nat → Int32) (v_inn_house_one : Nat → Int32) (v_inn_house_other : Nat → Int32) (v_inn_thingIn : Nat → Int32) (v_trial_thingIn : Nat → Int32) (v_inn_full : Nat → Int32) (v_trial_full : Nat → Int32) (v_trial_heardBy : Nat → Int64) (v_dreams : Nat → Int32) (v_trial_dreamOf : Nat → Int32) (v_trial_stateOf : Nat → Int32) (v_inn_bed : Nat → Int32) (v_trial_roomOf : Nat → Int32) (v_trial_handOf : Nat → Int32) (v_trial_awake : Nat → Int32) (v_trial_how : Nat → Int32) (v_trial_passed : Nat → Int32) (v_inn_states : Nat → Int32) (v_inn_house_creak : Nat → Int32) (v_inn_listensIn : Nat → Int32) (v_inn_house_ways_rooms : Int32) (v_inn_house_ways_steps : Nat → Int32) (v_inn_house_cold : Nat → Int32) (v_inn_house_falls : Nat → Int32) (v_plain_rows : Nat → Int64) (v_kin : Nat → Int32) (v_set_rows : Nat → Int64) (N : Nat) (p0 : Int32) (p1 : Int32) (z : (Nat → Int32) × Option Nat × Int32 × Int32 × Int32 × (Nat → Int32) × (Nat → Int32) × (Nat → Int32) × (Nat → Int64) × (Nat → Int32) × (Nat → Int32) × (Nat → Int32) × (Nat → Int32) × (Nat → Int32) × (Nat → Int32) × (Nat → Int32) × (Nat → Int64) × (Nat → Int32) × (Nat → Int64)) (hf : fX0_tryOut N p0 p1 v_count v_tried v_trial_inn v_trial_setting v_trial_been v_inn_minutes v_inn_things v_inn_sleepers v_inn_listeners v_inn_house_rooms v_inn_house_doors v_inn_house_how v_trial_ways_rooms v_trial_ways_steps v_inn_house_one v_inn_house_other v_inn_thingIn v_trial_thingIn v_inn_full v_trial_full v_trial_heardBy v_dreams v_trial_dreamOf v_trial_stateOf v_inn_bed v_trial_roomOf v_trial_handOf v_trial_awake v_trial_how v_trial_passed v_inn_states v_inn_house_creak v_inn_listensIn v_inn_house_ways_steps v_inn_house_cold v_inn_house_falls v_plain_rows v_kin v_set_rows h_inn = some z) : CTv l E yX0_tryOut cX0_tryOut 6 5 119 [.ref h, .int p0, .int p1] (wX0_tryOut E h h_trial h_inn h_dreams h_plain h_set h_tried h_kin h_fitters h_trial_ways h_trial_how h_trial_passed h_trial_dreamOf h_trial_stateOf h_trial_roomOf h_trial_handOf h_trial_awake h_trial_thingIn h_trial_full h_trial_heardBy h_inn_house h_inn_thingIn h_inn_full h_inn_states h_inn_bed h_inn_dreamOf h_inn_listensIn h_inn_house_creak h_inn_house_cold h_inn_house_one h_inn_house_other h_inn_house_how h_inn_house_falls h_inn_house_ways h_trial_ways_steps h_inn_house_ways_steps h_plain_rows h_set_rows v_count v_fitting v_tried v_trial_inn v_trial_setting v_trial_been v_inn_minutes v_inn_things v_inn_dreams v_inn_sleepers v_inn_listeners v_inn_house_rooms v_inn_house_doors v_inn_house_how v_trial_ways_rooms v_trial_ways_steps v_inn_house_one v_inn_house_other v_inn_thingIn v_trial_thingIn v_inn_full v_trial_full v_trial_heardBy v_dreams v_trial_dreamOf v_trial_stateOf v_inn_bed v_trial_roomOf v_trial_handOf v_trial_awake v_trial_how v_trial_passed v_inn_states v_inn_house_creak v_inn_listensIn v_inn_house_ways_rooms v_inn_house_ways_steps v_inn_house_cold v_inn_house_falls v_plain_rows v_kin v_set_rows) (wX0_tryOut E h h_trial h_inn h_dreams h_plain h_set h_tried h_kin h_fitters h_trial_ways h_trial_how h_trial_passed h_trial_dreamOf h_trial_stateOf h_trial_roomOf h_trial_handOf h_trial_awake h_trial_thingIn h_trial_full h_trial_heardBy h_inn_house h_inn_thingIn h_inn_full h_inn_states h_inn_bed h_inn_dreamOf h_inn_listensIn h_inn_house_creak h_inn_house_cold h_inn_house_one h_inn_house_other h_inn_house_how h_inn_house_falls h_inn_house_ways h_trial_ways_steps h_inn_house_ways_steps h_plain_rows h_set_rows v_count v_fitting z.1 z.2.1 z.2.2.1 z.2.2.2.1 v_inn_minutes v_inn_things v_inn_dreams v_inn_sleepers v_inn_listeners v_inn_house_rooms v_inn_house_doors v_inn_house_how z.2.2.2.2.1 z.2.2.2.2.2.1 v_inn_house_one v_inn_house_other v_inn_thingIn z.2.2.2.2.2.2.1 v_inn_full z.2.2.2.2.2.2.2.1 z.2.2.2.2.2.2.2.2.1 v_dreams z.2.2.2.2.2.2.2.2.2.1 z.2.2.2.2.2.2.2.2.2.2.1 v_inn_bed z.2.2.2.2.2.2.2.2.2.2.2.1 z.2.2.2.2.2.2.2.2.2.2.2.2.1 z.2.2.2.2.2.2.2.2.2.2.2.2.2.1 z.2.2.2.2.2.2.2.2.2.2.2.2.2.2.1 z.2.2.2.2.2.2.2.2.2.2.2.2.2.2.2.1 v_inn_states v_inn_house_creak v_inn_listensIn v_inn_house_ways_rooms v_inn_house_ways_steps v_inn_house_cold v_inn_house_falls z.2.2.2.2.2.2.2.2.2.2.2.2.2.2.2.2.1 z.2.2.2.2.2.2.2.2.2.2.2.2.2.2.2.2.2.1 z.2.2.2.2.2.2.2.2.2.2.2.2.2.2.2.2.2.2) := by
  intro sz
  refine ct_body (by decide) (Nat.le_of_ble_eq_true rfl) ?_
  intro p e s m args below meth c A ls hAe C hr hin hP hD hS hl
  have C : CX p s m args meth c cX0_tryOut RX0 6 E A := C
  have hl : lv_has ls 6 [(0, .ref h), (1, .int p0), (2, .int p1)] := hl
  have hx := C.1
  have hb := C.2.1
  rw [hAe]
  clear hAe
  obtain ⟨Q, hQ⟩ : ∃ Q, Q = MQ below (Qv E A (wX0_tryOut E h h_trial h_inn h_dreams h_plain h_set h_tried h_kin h_fitters h_trial_ways h_trial_how h_trial_passed h_trial_dreamOf h_trial_stateOf h_trial_roomOf h_trial_handOf h_trial_awake h_trial_thingIn h_trial_full h_trial_heardBy h_inn_house h_inn_thingIn h_inn_full h_inn_states h_inn_bed h_inn_dreamOf h_inn_listensIn h_inn_house_creak h_inn_house_cold h_inn_house_one h_inn_house_other h_inn_house_how h_inn_house_falls h_inn_house_ways h_trial_ways_steps h_inn_house_ways_steps h_plain_rows h_set_rows v_count v_fitting z.1 z.2.1 z.2.2.1 z.2.2.2.1 v_inn_minutes v_inn_things v_inn_dreams v_inn_sleepers v_inn_listeners v_inn_house_rooms v_inn_house_doors v_inn_house_how z.2.2.2.2.1 z.2.2.2.2.2.1 v_inn_house_one v_inn_house_other v_inn_thingIn z.2.2.2.2.2.2.1 v_inn_full z.2.2.2.2.2.2.2.1 z.2.2.2.2.2.2.2.2.1 v_dreams z.2.2.2.2.2.2.2.2.2.1 z.2.2.2.2.2.2.2.2.2.2.1 v_inn_bed z.2.2.2.2.2.2.2.2.2.2.2.1 z.2.2.2.2.2.2.2.2.2.2.2.2.1 z.2.2.2.2.2.2.2.2.2.2.2.2.2.1 z.2.2.2.2.2.2.2.2.2.2.2.2.2.2.1 z.2.2.2.2.2.2.2.2.2.2.2.2.2.2.2.1 v_inn_states v_inn_house_creak v_inn_listensIn v_inn_house_ways_rooms v_inn_house_ways_steps v_inn_house_cold v_inn_house_falls z.2.2.2.2.2.2.2.2.2.2.2.2.2.2.2.2.1 z.2.2.2.2.2.2.2.2.2.2.2.2.2.2.2.2.2.1 z.2.2.2.2.2.2.2.2.2.2.2.2.2.2.2.2.2.2)) args s 0 0 A := ⟨_, rfl⟩
  rw [← hQ]
  unfold fX0_tryOut at hf
  refine lv_iload_n (pc := 0) hx hb dX0_tryOut_0 rfl (lv_at hl 1 rfl) ?_
  refine lv_istore_n (pc := 1) (lv' := [(3, .int p0), (0, .ref h), (1, .int p0), (2, .int p1)]) hx hb dX0_tryOut_1 rfl hl (by decide) rfl (fun ls hl => ?_)
  have key2 : ∀ (n : Nat) (x2_3 : Int32) (x2_tried : Nat → Int32) (x2_trial_inn : Option Nat) (x2_trial_setting : Int32) (x2_trial_been : Int32) (x2_trial_ways_rooms : Int32) (x2_trial_ways_steps : Nat → Int32) (x2_trial_thingIn : Nat → Int32) (x2_trial_full : Nat → Int32) (x2_trial_heardBy : Nat → Int64) (x2_trial_dreamOf : Nat → Int32) (x2_trial_stateOf : Nat → Int32) (x2_trial_roomOf : Nat → Int32) (x2_trial_handOf : Nat → Int32) (x2_trial_awake : Nat → Int32) (x2_trial_how : Nat → Int32) (x2_trial_passed : Nat → Int32) (x2_plain_rows : Nat → Int64) (x2_kin : Nat → Int32) (x2_set_rows : Nat → Int64) , lp (BX0_tryOut_2 p1 N v_inn_house_rooms v_inn_house_doors v_inn_house_how v_inn_house_one v_inn_house_other v_count h_inn v_inn_sleepers v_inn_thingIn v_inn_full v_dreams v_inn_bed v_inn_minutes v_inn_listeners v_inn_states v_inn_house_creak v_inn_listensIn v_inn_house_ways_steps v_inn_house_cold v_inn_house_falls v_inn_things) n (x2_3, x2_tried, x2_trial_inn, x2_trial_setting, x2_trial_been, x2_trial_ways_rooms, x2_trial_ways_steps, x2_trial_thingIn, x2_trial_full, x2_trial_heardBy, x2_trial_dreamOf, x2_trial_stateOf, x2_trial_roomOf, x2_trial_handOf, x2_trial_awake, x2_trial_how, x2_trial_passed, x2_plain_rows, x2_kin, x2_set_rows) = some z → AT p l e (rmOf 5 119) s m args below meth c E A Q 0 0 6 [(0, .ref h), (2, .int p1), (3, .int x2_3)] (wX0_tryOut E h h_trial h_inn h_dreams h_plain h_set h_tried h_kin h_fitters h_trial_ways h_trial_how h_trial_passed h_trial_dreamOf h_trial_stateOf h_trial_roomOf h_trial_handOf h_trial_awake h_trial_thingIn h_trial_full h_trial_heardBy h_inn_house h_inn_thingIn h_inn_full h_inn_states h_inn_bed h_inn_dreamOf h_inn_listensIn h_inn_house_creak h_inn_house_cold h_inn_house_one h_inn_house_other h_inn_house_how h_inn_house_falls h_inn_house_ways h_trial_ways_steps h_inn_house_ways_steps h_plain_rows h_set_rows v_count v_fitting x2_tried x2_trial_inn x2_trial_setting x2_trial_been v_inn_minutes v_inn_things v_inn_dreams v_inn_sleepers v_inn_listeners v_inn_house_rooms v_inn_house_doors v_inn_house_how x2_trial_ways_rooms x2_trial_ways_steps v_inn_house_one v_inn_house_other v_inn_thingIn x2_trial_thingIn v_inn_full x2_trial_full x2_trial_heardBy v_dreams x2_trial_dreamOf x2_trial_stateOf v_inn_bed x2_trial_roomOf x2_trial_handOf x2_trial_awake x2_trial_how x2_trial_passed v_inn_states v_inn_house_creak v_inn_listensIn v_inn_house_ways_rooms v_inn_house_ways_steps v_inn_house_cold v_inn_house_falls x2_plain_rows x2_kin x2_set_rows) 2 [] := by
    intro n
    induction n with
    | zero => intro x2_3 x2_tried x2_trial_inn x2_trial_setting x2_trial_been x2_trial_ways_rooms x2_trial_ways_steps x2_trial_thingIn x2_trial_full x2_trial_heardBy x2_trial_dreamOf x2_trial_stateOf x2_trial_roomOf x2_trial_handOf x2_trial_awake x2_trial_how x2_trial_passed x2_plain_rows x2_kin x2_set_rows hf; exact (lp_0 hf).elim
    | succ n ih2 =>
      intro x2_3 x2_tried x2_trial_inn x2_trial_setting x2_trial_been x2_trial_ways_rooms x2_trial_ways_steps x2_trial_thingIn x2_trial_full x2_trial_heardBy x2_trial_dreamOf x2_trial_stateOf x2_trial_roomOf x2_trial_handOf x2_trial_awake x2_trial_how x2_trial_passed x2_plain_rows x2_kin x2_set_rows hf H locs ls hl hP hD hS
      replace hf := lp_s hf
      generalize lp (BX0_tryOut_2 p1 N v_inn_house_rooms v_inn_house_doors v_inn_house_how v_inn_house_one v_inn_house_other v_count h_inn v_inn_sleepers v_inn_thingIn v_inn_full v_dreams v_inn_bed v_inn_minutes v_inn_listeners v_inn_states v_inn_house_creak v_inn_listensIn v_inn_house_ways_steps v_inn_house_cold v_inn_house_falls v_inn_things) n = rec2 at ih2 hf
      unfold BX0_tryOut_2 at hf
      replace hf := un20_s hf
      refine lv_iload_n (pc := 2) hx hb dX0_tryOut_2 rfl (lv_at hl 2 rfl) ?_
      refine lv_iload_n (pc := 3) hx hb dX0_tryOut_3 rfl (lv_at hl 1 rfl) ?_
      refine lv_icmp_gt (pc := 4) (tgt := 139) hx hb dX0_tryOut_4 (by decide) (fun c_4 => ?_) (fun c_4 => ?_)
      · replace hf := it_t c_4 hf
        cases hf
        rw [hQ]
        exact r_vret C hr hP hD hS dX0_tryOut_139
      · replace hf := it_f c_4 hf
        refine lv_aload_n (pc := 7) hx hb dX0_tryOut_7 rfl (lv_at hl 0 rfl) ?_
        refine r_get (pc := 8) C hP 0 rfl fl_X0_25 rfl dX0_tryOut_8 ?_
        refine lv_iload_n (pc := 11) hx hb dX0_tryOut_11 rfl (lv_at hl 2 rfl) ?_
        obtain ⟨hi_12, hf⟩ := gd_s hf
        refine r_zald (pc := 12) C hP 1 rfl hi_12 dX0_tryOut_12 ?_
        refine jnK hf (fun j133 ej133 hf => ?_)
        have hj133 : ∀ (x133_tried : Nat → Int32) (x133_trial_inn : Option Nat) (x133_trial_setting : Int32) (x133_trial_been : Int32) (x133_trial_ways_rooms : Int32) (x133_trial_ways_steps : Nat → Int32) (x133_trial_thingIn : Nat → Int32) (x133_trial_full : Nat → Int32) (x133_trial_heardBy : Nat → Int64) (x133_trial_dreamOf : Nat → Int32) (x133_trial_stateOf : Nat → Int32) (x133_trial_roomOf : Nat → Int32) (x133_trial_handOf : Nat → Int32) (x133_trial_awake : Nat → Int32) (x133_trial_how : Nat → Int32) (x133_trial_passed : Nat → Int32) (x133_plain_rows : Nat → Int64) (x133_kin : Nat → Int32) (x133_set_rows : Nat → Int64) , j133 (x133_tried, x133_trial_inn, x133_trial_setting, x133_trial_been, x133_trial_ways_rooms, x133_trial_ways_steps, x133_trial_thingIn, x133_trial_full, x133_trial_heardBy, x133_trial_dreamOf, x133_trial_stateOf, x133_trial_roomOf, x133_trial_handOf, x133_trial_awake, x133_trial_how, x133_trial_passed, x133_plain_rows, x133_kin, x133_set_rows) = some z → AT p l e (rmOf 5 119) s m args below meth c E A Q 0 0 6 [(0, .ref h), (2, .int p1), (3, .int x2_3)] (wX0_tryOut E h h_trial h_inn h_dreams h_plain h_set h_tried h_kin h_fitters h_trial_ways h_trial_how h_trial_passed h_trial_dreamOf h_trial_stateOf h_trial_roomOf h_trial_handOf h_trial_awake h_trial_thingIn h_trial_full h_trial_heardBy h_inn_house h_inn_thingIn h_inn_full h_inn_states h_inn_bed h_inn_dreamOf h_inn_listensIn h_inn_house_creak h_inn_house_cold h_inn_house_one h_inn_house_other h_inn_house_how h_inn_house_falls h_inn_house_ways h_trial_ways_steps h_inn_house_ways_steps h_plain_rows h_set_rows v_count v_fitting x133_tried x133_trial_inn x133_trial_setting x133_trial_been v_inn_minutes v_inn_things v_inn_dreams v_inn_sleepers v_inn_listeners v_inn_house_rooms v_inn_house_doors v_inn_house_how x133_trial_ways_rooms x133_trial_ways_steps v_inn_house_one v_inn_house_other v_inn_thingIn x133_trial_thingIn v_inn_full x133_trial_full x133_trial_heardBy v_dreams x133_trial_dreamOf x133_trial_stateOf v_inn_bed x133_trial_roomOf x133_trial_handOf x133_trial_awake x133_trial_how x133_trial_passed v_inn_states v_inn_house_creak v_inn_listensIn v_inn_house_ways_rooms v_inn_house_ways_steps v_inn_house_cold v_inn_house_falls x133_plain_rows x133_kin x133_set_rows) 133 [] := by
          intro x133_tried x133_trial_inn x133_trial_setting x133_trial_been x133_trial_ways_rooms x133_trial_ways_steps x133_trial_thingIn x133_trial_full x133_trial_heardBy x133_trial_dreamOf x133_trial_stateOf x133_trial_roomOf x133_trial_handOf x133_trial_awake x133_trial_how x133_trial_passed x133_plain_rows x133_kin x133_set_rows hf H locs ls hl hP hD hS
          rw [ej133] at hf
          replace hf := un19_s hf
          refine lv_iinc (pc := 133) (v := x2_3 + 1) (lv' := [(3, .int (x2_3 + 1)), (0, .ref h), (2, .int p1)]) hx hb dX0_tryOut_133 hl (k := 2) rfl rfl (by decide) rfl (fun ls hl => ?_)
          refine lv_goto (pc := 136) (tgt := 2) hx hb dX0_tryOut_136 (by decide) ?_
          exact ih2 (x2_3 + 1) x133_tried x133_trial_inn x133_trial_setting x133_trial_been x133_trial_ways_rooms x133_trial_ways_steps x133_trial_thingIn x133_trial_full x133_trial_heardBy x133_trial_dreamOf x133_trial_stateOf x133_trial_roomOf x133_trial_handOf x133_trial_awake x133_trial_how x133_trial_passed x133_plain_rows x133_kin x133_set_rows hf _ _ _ (lv_sub hl [1, 2, 0] rfl) hP hD hS
        clear ej133
        refine lv_if_eq (pc := 13) (tgt := 19) hx hb dX0_tryOut_13 (by decide) (fun c_13 => ?_) (fun c_13 => ?_)
        · replace hf := it_t c_13 hf
          refine lv_aload_n (pc := 19) hx hb dX0_tryOut_19 rfl (lv_at hl 0 rfl) ?_
          refine r_get (pc := 20) C hP 0 rfl fl_X0_25 rfl dX0_tryOut_20 ?_
          refine lv_iload_n (pc := 23) hx hb dX0_tryOut_23 rfl (lv_at hl 2 rfl) ?_
          refine lv_iconst (pc := 24) (v := 1) hx hb dX0_tryOut_24 (by decide) ?_
          obtain ⟨hi_25, hf⟩ := gd_s hf
          refine r_zast (pc := 25) (ws' := (wX0_tryOut E h h_trial h_inn h_dreams h_plain h_set h_tried h_kin h_fitters h_trial_ways h_trial_how h_trial_passed h_trial_dreamOf h_trial_stateOf h_trial_roomOf h_trial_handOf h_trial_awake h_trial_thingIn h_trial_full h_trial_heardBy h_inn_house h_inn_thingIn h_inn_full h_inn_states h_inn_bed h_inn_dreamOf h_inn_listensIn h_inn_house_creak h_inn_house_cold h_inn_house_one h_inn_house_other h_inn_house_how h_inn_house_falls h_inn_house_ways h_trial_ways_steps h_inn_house_ways_steps h_plain_rows h_set_rows v_count v_fitting (upd x2_tried x2_3.toNatClampNeg 1) x2_trial_inn x2_trial_setting x2_trial_been v_inn_minutes v_inn_things v_inn_dreams v_inn_sleepers v_inn_listeners v_inn_house_rooms v_inn_house_doors v_inn_house_how x2_trial_ways_rooms x2_trial_ways_steps v_inn_house_one v_inn_house_other v_inn_thingIn x2_trial_thingIn v_inn_full x2_trial_full x2_trial_heardBy v_dreams x2_trial_dreamOf x2_trial_stateOf v_inn_bed x2_trial_roomOf x2_trial_handOf x2_trial_awake x2_trial_how x2_trial_passed v_inn_states v_inn_house_creak v_inn_listensIn v_inn_house_ways_rooms v_inn_house_ways_steps v_inn_house_cold v_inn_house_falls x2_plain_rows x2_kin x2_set_rows)) C hP hD hS 1 rfl hi_25 (Or.inr rfl) rfl dX0_tryOut_25 ?_
          clear hP hD hS; intro H locs hP hD hS
          refine lv_iload_n (pc := 26) hx hb dX0_tryOut_26 rfl (lv_at hl 2 rfl) ?_
          refine lv_if_ne (pc := 27) (tgt := 37) hx hb dX0_tryOut_27 (by decide) (fun c_27 => ?_) (fun c_27 => ?_)
          · replace hf := it_f c_27 hf
            refine lv_aload_n (pc := 37) hx hb dX0_tryOut_37 rfl (lv_at hl 0 rfl) ?_
            refine r_get (pc := 38) C hP 0 rfl fl_X0_22 rfl dX0_tryOut_38 ?_
            refine lv_astore (pc := 41) (lv' := [(4, .ref h_set), (0, .ref h), (2, .int p1), (3, .int x2_3)]) hx hb dX0_tryOut_41 hl (by decide) rfl (fun ls hl => ?_)
            refine lv_aload_n (pc := 43) hx hb dX0_tryOut_43 rfl (lv_at hl 1 rfl) ?_
            refine r_get (pc := 44) C hP 0 rfl fl_X0_44 rfl dX0_tryOut_44 ?_
            refine lv_aload_n (pc := 47) hx hb dX0_tryOut_47 rfl (lv_at hl 1 rfl) ?_
            refine r_get (pc := 48) C hP 0 rfl fl_X0_35 rfl dX0_tryOut_48 ?_
            refine lv_iload_n (pc := 51) hx hb dX0_tryOut_51 rfl (lv_at hl 3 rfl) ?_
            obtain ⟨v_trial_setting_52, v_trial_ways_rooms_52, v_trial_ways_steps_52, hc_52, hf⟩ := bd3 hf
            refine r_dalVv (pc := 52) (ws' := [(h, .inr (0, [.ref h_trial, .ref h_inn, .int v_count, .ref h_dreams, .ref h_plain, .ref h_set, .ref h_tried, .ref h_kin, .int v_fitting, .ref h_fitters])), (h_tried, aZ E 21 (upd x2_tried x2_3.toNatClampNeg 1)), (h_trial, .inr (4, [.ref h_inn, .int v_trial_setting_52, .int x2_trial_been, .ref h_trial_ways, .ref h_trial_how, .ref h_trial_passed, .ref h_trial_dreamOf, .ref h_trial_stateOf, .ref h_trial_roomOf, .ref h_trial_handOf, .ref h_trial_awake, .ref h_trial_thingIn, .ref h_trial_full, .ref h_trial_heardBy])), (h_inn, .inr (2, [.ref h_inn_house, .int v_inn_minutes, .int v_inn_things, .ref h_inn_thingIn, .ref h_inn_full, .int v_inn_dreams, .ref h_inn_states, .int v_inn_sleepers, .ref h_inn_bed, .ref h_inn_dreamOf, .int v_inn_listeners, .ref h_inn_listensIn])), (h_inn_house, .inr (1, [.int v_inn_house_rooms, .ref h_inn_house_creak, .ref h_inn_house_cold, .int v_inn_house_doors, .ref h_inn_house_one, .ref h_inn_house_other, .ref h_inn_house_how, .ref h_inn_house_falls, .ref h_inn_house_ways])), (h_inn_house_how, aI E 10 v_inn_house_how), (h_trial_ways, .inr (8, [.ref h_trial_ways_steps, .int v_trial_ways_rooms_52])), (h_trial_ways_steps, aI E 64 v_trial_ways_steps_52), (h_inn_house_one, aI E 10 v_inn_house_one), (h_inn_house_other, aI E 10 v_inn_house_other), (h_inn_thingIn, aI E 4 v_inn_thingIn), (h_trial_thingIn, aI E 4 x2_trial_thingIn), (h_inn_full, aZ E 4 v_inn_full), (h_trial_full, aZ E 4 x2_trial_full), (h_trial_heardBy, aJ E 3 x2_trial_heardBy), (h_dreams, aI E 192 v_dreams), (h_trial_dreamOf, aI E 3 x2_trial_dreamOf), (h_trial_stateOf, aI E 3 x2_trial_stateOf), (h_inn_bed, aI E 3 v_inn_bed), (h_trial_roomOf, aI E 3 x2_trial_roomOf), (h_trial_handOf, aI E 3 x2_trial_handOf), (h_trial_awake, aZ E 3 x2_trial_awake), (h_trial_how, aI E 10 x2_trial_how), (h_trial_passed, aI E 10 x2_trial_passed), (h_inn_states, aI E 64 v_inn_states), (h_inn_house_creak, aI E 8 v_inn_house_creak), (h_inn_listensIn, aI E 3 v_inn_listensIn), (h_inn_house_ways, .inr (8, [.ref h_inn_house_ways_steps, .int v_inn_house_ways_rooms])), (h_inn_house_ways_steps, aI E 64 v_inn_house_ways_steps), (h_inn_house_cold, aZ E 8 v_inn_house_cold), (h_inn_house_falls, aZ E 10 v_inn_house_falls), (h_plain, .inr (3, [.ref h_plain_rows])), (h_plain_rows, aJ E 256 x2_plain_rows), (h_kin, aI E 1344 x2_kin), (h_set, .inr (3, [.ref h_set_rows])), (h_set_rows, aJ E 256 x2_set_rows)]) (As := [.ref h_inn, .int x2_3]) (rest := []) C (ctX4_prepare l E h_trial h_trial_ways h_trial_how h_trial_passed h_trial_dreamOf h_trial_stateOf h_trial_roomOf h_trial_handOf h_trial_awake h_trial_thingIn h_trial_full h_trial_heardBy h_inn h_inn_house h_inn_thingIn h_inn_full h_inn_states h_inn_bed h_inn_dreamOf h_inn_listensIn h_inn_house_creak h_inn_house_cold h_inn_house_one h_inn_house_other h_inn_house_how h_inn_house_falls h_inn_house_ways h_trial_ways_steps x2_trial_inn x2_trial_setting x2_trial_been v_inn_minutes v_inn_things v_inn_dreams v_inn_sleepers v_inn_listeners v_inn_house_rooms v_inn_house_doors v_inn_house_how x2_trial_ways_rooms x2_trial_ways_steps v_inn_house_one v_inn_house_other N x2_3 (v_trial_setting_52, v_trial_ways_rooms_52, v_trial_ways_steps_52) hc_52) ml_X0_69 ⟨Nat.le_of_ble_eq_true rfl, Nat.le_of_ble_eq_true rfl⟩ hP hD hS 2 rfl rfl rfl [2, 3, 4, 5, 6, 7, 8, 9] [0, 1, 36, 37, 38, 39, 40, 41, 42, 43, 10, 11, 12, 13, 14, 15, 16, 17, 18, 19, 20, 21, 22, 23, 24, 25, 26, 27, 28, 29, 30, 31, 32, 33, 34, 35] 36 rfl rfl rfl rfl rfl rfl rfl hl.1 rfl (Nat.le_of_ble_eq_true rfl) ⟨Nat.zero_le _, Nat.zero_le _⟩ dX0_tryOut_52 ?_
            clear hP hD hS; intro H locs hP hD hS
            refine lv_iconst (pc := 55) (v := 0) hx hb dX0_tryOut_55 (by decide) ?_
            refine lv_istore (pc := 56) (lv' := [(5, .int 0), (4, .ref h_set), (0, .ref h), (2, .int p1), (3, .int x2_3)]) hx hb dX0_tryOut_56 hl (by decide) rfl (fun ls hl => ?_)
            have key58 : ∀ (n : Nat) (x58_5 : Int32) (x58_trial_been : Int32) (x58_trial_thingIn : Nat → Int32) (x58_trial_full : Nat → Int32) (x58_trial_heardBy : Nat → Int64) (x58_trial_dreamOf : Nat → Int32) (x58_trial_stateOf : Nat → Int32) (x58_trial_roomOf : Nat → Int32) (x58_trial_handOf : Nat → Int32) (x58_trial_awake : Nat → Int32) (x58_trial_how : Nat → Int32) (x58_trial_passed : Nat → Int32) (x58_plain_rows : Nat → Int64) (x58_kin : Nat → Int32) (x58_set_rows : Nat → Int64) , lp (BX0_tryOut_58 v_count j133 x2_tried x2_3 h_inn v_trial_setting_52 v_trial_ways_rooms_52 v_trial_ways_steps_52 N v_inn_sleepers v_inn_house_doors v_inn_thingIn v_inn_full v_dreams v_inn_bed v_inn_house_how v_inn_minutes v_inn_listeners v_inn_states v_inn_house_one v_inn_house_other v_inn_house_creak v_inn_listensIn v_inn_house_ways_steps v_inn_house_cold v_inn_house_falls v_inn_things) n (x58_5, x58_trial_been, x58_trial_thingIn, x58_trial_full, x58_trial_heardBy, x58_trial_dreamOf, x58_trial_stateOf, x58_trial_roomOf, x58_trial_handOf, x58_trial_awake, x58_trial_how, x58_trial_passed, x58_plain_rows, x58_kin, x58_set_rows) = some z → AT p l e (rmOf 5 119) s m args below meth c E A Q 0 0 6 [(0, .ref h), (2, .int p1), (3, .int x2_3), (4, .ref h_set), (5, .int x58_5)] [(h, .inr (0, [.ref h_trial, .ref h_inn, .int v_count, .ref h_dreams, .ref h_plain, .ref h_set, .ref h_tried, .ref h_kin, .int v_fitting, .ref h_fitters])), (h_tried, aZ E 21 (upd x2_tried x2_3.toNatClampNeg 1)), (h_trial, .inr (4, [.ref h_inn, .int v_trial_setting_52, .int x58_trial_been, .ref h_trial_ways, .ref h_trial_how, .ref h_trial_passed, .ref h_trial_dreamOf, .ref h_trial_stateOf, .ref h_trial_roomOf, .ref h_trial_handOf, .ref h_trial_awake, .ref h_trial_thingIn, .ref h_trial_full, .ref h_trial_heardBy])), (h_inn, .inr (2, [.ref h_inn_house, .int v_inn_minutes, .int v_inn_things, .ref h_inn_thingIn, .ref h_inn_full, .int v_inn_dreams, .ref h_inn_states, .int v_inn_sleepers, .ref h_inn_bed, .ref h_inn_dreamOf, .int v_inn_listeners, .ref h_inn_listensIn])), (h_inn_house, .inr (1, [.int v_inn_house_rooms, .ref h_inn_house_creak, .ref h_inn_house_cold, .int v_inn_house_doors, .ref h_inn_house_one, .ref h_inn_house_other, .ref h_inn_house_how, .ref h_inn_house_falls, .ref h_inn_house_ways])), (h_inn_house_how, aI E 10 v_inn_house_how), (h_trial_ways, .inr (8, [.ref h_trial_ways_steps, .int v_trial_ways_rooms_52])), (h_trial_ways_steps, aI E 64 v_trial_ways_steps_52), (h_inn_house_one, aI E 10 v_inn_house_one), (h_inn_house_other, aI E 10 v_inn_house_other), (h_inn_thingIn, aI E 4 v_inn_thingIn), (h_trial_thingIn, aI E 4 x58_trial_thingIn), (h_inn_full, aZ E 4 v_inn_full), (h_trial_full, aZ E 4 x58_trial_full), (h_trial_heardBy, aJ E 3 x58_trial_heardBy), (h_dreams, aI E 192 v_dreams), (h_trial_dreamOf, aI E 3 x58_trial_dreamOf), (h_trial_stateOf, aI E 3 x58_trial_stateOf), (h_inn_bed, aI E 3 v_inn_bed), (h_trial_roomOf, aI E 3 x58_trial_roomOf), (h_trial_handOf, aI E 3 x58_trial_handOf), (h_trial_awake, aZ E 3 x58_trial_awake), (h_trial_how, aI E 10 x58_trial_how), (h_trial_passed, aI E 10 x58_trial_passed), (h_inn_states, aI E 64 v_inn_states), (h_inn_house_creak, aI E 8 v_inn_house_creak), (h_inn_listensIn, aI E 3 v_inn_listensIn), (h_inn_house_ways, .inr (8, [.ref h_inn_house_ways_steps, .int v_inn_house_ways_rooms])), (h_inn_house_ways_steps, aI E 64 v_inn_house_ways_steps), (h_inn_house_cold, aZ E 8 v_inn_house_cold), (h_inn_house_falls, aZ E 10 v_inn_house_falls), (h_plain, .inr (3, [.ref h_plain_rows])), (h_plain_rows, aJ E 256 x58_plain_rows), (h_kin, aI E 1344 x58_kin), (h_set, .inr (3, [.ref h_set_rows])), (h_set_rows, aJ E 256 x58_set_rows)] 58 [] := by
              intro n
              induction n with
              | zero => intro x58_5 x58_trial_been x58_trial_thingIn x58_trial_full x58_trial_heardBy x58_trial_dreamOf x58_trial_stateOf x58_trial_roomOf x58_trial_handOf x58_trial_awake x58_trial_how x58_trial_passed x58_plain_rows x58_kin x58_set_rows hf; exact (lp_0 hf).elim
              | succ n ih58 =>
                intro x58_5 x58_trial_been x58_trial_thingIn x58_trial_full x58_trial_heardBy x58_trial_dreamOf x58_trial_stateOf x58_trial_roomOf x58_trial_handOf x58_trial_awake x58_trial_how x58_trial_passed x58_plain_rows x58_kin x58_set_rows hf H locs ls hl hP hD hS
                replace hf := lp_s hf
                generalize lp (BX0_tryOut_58 v_count j133 x2_tried x2_3 h_inn v_trial_setting_52 v_trial_ways_rooms_52 v_trial_ways_steps_52 N v_inn_sleepers v_inn_house_doors v_inn_thingIn v_inn_full v_dreams v_inn_bed v_inn_house_how v_inn_minutes v_inn_listeners v_inn_states v_inn_house_one v_inn_house_other v_inn_house_creak v_inn_listensIn v_inn_house_ways_steps v_inn_house_cold v_inn_house_falls v_inn_things) n = rec58 at ih58 hf
                unfold BX0_tryOut_58 at hf
                replace hf := un15_s hf
                refine lv_iload (pc := 58) hx hb dX0_tryOut_58 (lv_at hl 4 rfl) ?_
                refine lv_aload_n (pc := 60) hx hb dX0_tryOut_60 rfl (lv_at hl 0 rfl) ?_
                refine r_get (pc := 61) C hP 0 rfl fl_X0_48 rfl dX0_tryOut_61 ?_
                refine lv_icmp_ge (pc := 64) (tgt := 133) hx hb dX0_tryOut_64 (by decide) (fun c_64 => ?_) (fun c_64 => ?_)
                · replace hf := it_t c_64 hf
                  exact hj133 (upd x2_tried x2_3.toNatClampNeg 1) (some h_inn) v_trial_setting_52 x58_trial_been v_trial_ways_rooms_52 v_trial_ways_steps_52 x58_trial_thingIn x58_trial_full x58_trial_heardBy x58_trial_dreamOf x58_trial_stateOf x58_trial_roomOf x58_trial_handOf x58_trial_awake x58_trial_how x58_trial_passed x58_plain_rows x58_kin x58_set_rows hf _ _ _ (lv_sub hl [0, 1, 2] rfl) hP hD hS
                · replace hf := it_f c_64 hf
                  refine lv_aload_n (pc := 67) hx hb dX0_tryOut_67 rfl (lv_at hl 0 rfl) ?_
                  refine r_get (pc := 68) C hP 0 rfl fl_X0_44 rfl dX0_tryOut_68 ?_
                  refine lv_aload_n (pc := 71) hx hb dX0_tryOut_71 rfl (lv_at hl 0 rfl) ?_
                  refine r_get (pc := 72) C hP 0 rfl fl_X0_9 rfl dX0_tryOut_72 ?_
                  refine lv_iload (pc := 75) hx hb dX0_tryOut_75 (lv_at hl 4 rfl) ?_
                  refine lv_iconst (pc := 77) (v := 3) hx hb dX0_tryOut_77 (by decide) ?_
                  refine lv_imul (pc := 78) hx hb dX0_tryOut_78 ?_
                  obtain ⟨v_trial_been_79, v_trial_thingIn_79, v_trial_full_79, v_trial_heardBy_79, v_trial_dreamOf_79, v_trial_stateOf_79, v_trial_roomOf_79, v_trial_handOf_79, v_trial_awake_79, v_trial_how_79, v_trial_passed_79, hc_79, hf⟩ := bd11 hf
                  refine r_dalVv (pc := 79) (ws' := [(h, .inr (0, [.ref h_trial, .ref h_inn, .int v_count, .ref h_dreams, .ref h_plain, .ref h_set, .ref h_tried, .ref h_kin, .int v_fitting, .ref h_fitters])), (h_tried, aZ E 21 (upd x2_tried x2_3.toNatClampNeg 1)), (h_trial, .inr (4, [.ref h_inn, .int v_trial_setting_52, .int v_trial_been_79, .ref h_trial_ways, .ref h_trial_how, .ref h_trial_passed, .ref h_trial_dreamOf, .ref h_trial_stateOf, .ref h_trial_roomOf, .ref h_trial_handOf, .ref h_trial_awake, .ref h_trial_thingIn, .ref h_trial_full, .ref h_trial_heardBy])), (h_inn, .inr (2, [.ref h_inn_house, .int v_inn_minutes, .int v_inn_things, .ref h_inn_thingIn, .ref h_inn_full, .int v_inn_dreams, .ref h_inn_states, .int v_inn_sleepers, .ref h_inn_bed, .ref h_inn_dreamOf, .int v_inn_listeners, .ref h_inn_listensIn])), (h_inn_house, .inr (1, [.int v_inn_house_rooms, .ref h_inn_house_creak, .ref h_inn_house_cold, .int v_inn_house_doors, .ref h_inn_house_one, .ref h_inn_house_other, .ref h_inn_house_how, .ref h_inn_house_falls, .ref h_inn_house_ways])), (h_inn_house_how, aI E 10 v_inn_house_how), (h_trial_ways, .inr (8, [.ref h_trial_ways_steps, .int v_trial_ways_rooms_52])), (h_trial_ways_steps, aI E 64 v_trial_ways_steps_52), (h_inn_house_one, aI E 10 v_inn_house_one), (h_inn_house_other, aI E 10 v_inn_house_other), (h_inn_thingIn, aI E 4 v_inn_thingIn), (h_trial_thingIn, aI E 4 v_trial_thingIn_79), (h_inn_full, aZ E 4 v_inn_full), (h_trial_full, aZ E 4 v_trial_full_79), (h_trial_heardBy, aJ E 3 v_trial_heardBy_79), (h_dreams, aI E 192 v_dreams), (h_trial_dreamOf, aI E 3 v_trial_dreamOf_79), (h_trial_stateOf, aI E 3 v_trial_stateOf_79), (h_inn_bed, aI E 3 v_inn_bed), (h_trial_roomOf, aI E 3 v_trial_roomOf_79), (h_trial_handOf, aI E 3 v_trial_handOf_79), (h_trial_awake, aZ E 3 v_trial_awake_79), (h_trial_how, aI E 10 v_trial_how_79), (h_trial_passed, aI E 10 v_trial_passed_79), (h_inn_states, aI E 64 v_inn_states), (h_inn_house_creak, aI E 8 v_inn_house_creak), (h_inn_listensIn, aI E 3 v_inn_listensIn), (h_inn_house_ways, .inr (8, [.ref h_inn_house_ways_steps, .int v_inn_house_ways_rooms])), (h_inn_house_ways_steps, aI E 64 v_inn_house_ways_steps), (h_inn_house_cold, aZ E 8 v_inn_house_cold), (h_inn_house_falls, aZ E 10 v_inn_house_falls), (h_plain, .inr (3, [.ref h_plain_rows])), (h_plain_rows, aJ E 256 x58_plain_rows), (h_kin, aI E 1344 x58_kin), (h_set, .inr (3, [.ref h_set_rows])), (h_set_rows, aJ E 256 x58_set_rows)]) (As := [.ref h_dreams, .int (x58_5 * 3)]) (rest := []) C (ctX4_begind l E h_trial h_inn h_trial_ways h_trial_how h_trial_passed h_trial_dreamOf h_trial_stateOf h_trial_roomOf h_trial_handOf h_trial_awake h_trial_thingIn h_trial_full h_trial_heardBy h_inn_house h_inn_thingIn h_inn_full h_inn_states h_inn_bed h_inn_dreamOf h_inn_listensIn h_inn_house_creak h_inn_house_cold h_inn_house_one h_inn_house_other h_inn_house_how h_inn_house_falls h_inn_house_ways h_dreams v_trial_setting_52 x58_trial_been v_inn_minutes v_inn_things v_inn_dreams v_inn_sleepers v_inn_listeners v_inn_house_rooms v_inn_house_doors v_inn_thingIn x58_trial_thingIn v_inn_full x58_trial_full x58_trial_heardBy v_dreams x58_trial_dreamOf x58_trial_stateOf v_inn_bed x58_trial_roomOf x58_trial_handOf x58_trial_awake v_inn_house_how x58_trial_how x58_trial_passed N (x58_5 * 3) (v_trial_been_79, v_trial_thingIn_79, v_trial_full_79, v_trial_heardBy_79, v_trial_dreamOf_79, v_trial_stateOf_79, v_trial_roomOf_79, v_trial_handOf_79, v_trial_awake_79, v_trial_how_79, v_trial_passed_79) hc_79) ml_X0_73 ⟨Nat.le_of_ble_eq_true rfl, Nat.le_of_ble_eq_true rfl⟩ hP hD hS 2 rfl rfl rfl [2, 3, 4, 10, 11, 12, 13, 14, 15, 16, 17, 18, 19, 20, 21, 5, 22, 23] [0, 1, 36, 37, 38, 51, 6, 7, 8, 9, 39, 40, 41, 42, 43, 44, 45, 46, 47, 48, 49, 50, 52, 53, 24, 25, 26, 27, 28, 29, 30, 31, 32, 33, 34, 35] 36 rfl rfl rfl rfl rfl rfl rfl hl.1 rfl (Nat.le_of_ble_eq_true rfl) ⟨Nat.zero_le _, Nat.zero_le _⟩ dX0_tryOut_79 ?_
                  clear hP hD hS; intro H locs hP hD hS
                  refine lv_aload_n (pc := 82) hx hb dX0_tryOut_82 rfl (lv_at hl 0 rfl) ?_
                  refine r_get (pc := 83) C hP 0 rfl fl_X0_44 rfl dX0_tryOut_83 ?_
                  refine lv_aload_n (pc := 86) hx hb dX0_tryOut_86 rfl (lv_at hl 0 rfl) ?_
                  refine r_get (pc := 87) C hP 0 rfl fl_X0_35 rfl dX0_tryOut_87 ?_
                  refine r_get (pc := 90) C hP 3 rfl fl_X0_77 rfl dX0_tryOut_90 ?_
                  obtain ⟨r_93, v_trial_been_93, v_trial_awake_93, v_trial_stateOf_93, v_trial_roomOf_93, v_trial_how_93, v_trial_thingIn_93, v_trial_full_93, v_trial_handOf_93, v_trial_heardBy_93, v_trial_passed_93, hc_93, hf⟩ := bd11 hf
                  refine r_dalVi (pc := 93) (ws' := [(h, .inr (0, [.ref h_trial, .ref h_inn, .int v_count, .ref h_dreams, .ref h_plain, .ref h_set, .ref h_tried, .ref h_kin, .int v_fitting, .ref h_fitters])), (h_tried, aZ E 21 (upd x2_tried x2_3.toNatClampNeg 1)), (h_trial, .inr (4, [.ref h_inn, .int v_trial_setting_52, .int v_trial_been_93, .ref h_trial_ways, .ref h_trial_how, .ref h_trial_passed, .ref h_trial_dreamOf, .ref h_trial_stateOf, .ref h_trial_roomOf, .ref h_trial_handOf, .ref h_trial_awake, .ref h_trial_thingIn, .ref h_trial_full, .ref h_trial_heardBy])), (h_inn, .inr (2, [.ref h_inn_house, .int v_inn_minutes, .int v_inn_things, .ref h_inn_thingIn, .ref h_inn_full, .int v_inn_dreams, .ref h_inn_states, .int v_inn_sleepers, .ref h_inn_bed, .ref h_inn_dreamOf, .int v_inn_listeners, .ref h_inn_listensIn])), (h_inn_house, .inr (1, [.int v_inn_house_rooms, .ref h_inn_house_creak, .ref h_inn_house_cold, .int v_inn_house_doors, .ref h_inn_house_one, .ref h_inn_house_other, .ref h_inn_house_how, .ref h_inn_house_falls, .ref h_inn_house_ways])), (h_inn_house_how, aI E 10 v_inn_house_how), (h_trial_ways, .inr (8, [.ref h_trial_ways_steps, .int v_trial_ways_rooms_52])), (h_trial_ways_steps, aI E 64 v_trial_ways_steps_52), (h_inn_house_one, aI E 10 v_inn_house_one), (h_inn_house_other, aI E 10 v_inn_house_other), (h_inn_thingIn, aI E 4 v_inn_thingIn), (h_trial_thingIn, aI E 4 v_trial_thingIn_93), (h_inn_full, aZ E 4 v_inn_full), (h_trial_full, aZ E 4 v_trial_full_93), (h_trial_heardBy, aJ E 3 v_trial_heardBy_93), (h_dreams, aI E 192 v_dreams), (h_trial_dreamOf, aI E 3 v_trial_dreamOf_79), (h_trial_stateOf, aI E 3 v_trial_stateOf_93), (h_inn_bed, aI E 3 v_inn_bed), (h_trial_roomOf, aI E 3 v_trial_roomOf_93), (h_trial_handOf, aI E 3 v_trial_handOf_93), (h_trial_awake, aZ E 3 v_trial_awake_93), (h_trial_how, aI E 10 v_trial_how_93), (h_trial_passed, aI E 10 v_trial_passed_93), (h_inn_states, aI E 64 v_inn_states), (h_inn_house_creak, aI E 8 v_inn_house_creak), (h_inn_listensIn, aI E 3 v_inn_listensIn), (h_inn_house_ways, .inr (8, [.ref h_inn_house_ways_steps, .int v_inn_house_ways_rooms])), (h_inn_house_ways_steps, aI E 64 v_inn_house_ways_steps), (h_inn_house_cold, aZ E 8 v_inn_house_cold), (h_inn_house_falls, aZ E 10 v_inn_house_falls), (h_plain, .inr (3, [.ref h_plain_rows])), (h_plain_rows, aJ E 256 x58_plain_rows), (h_kin, aI E 1344 x58_kin), (h_set, .inr (3, [.ref h_set_rows])), (h_set_rows, aJ E 256 x58_set_rows)]) (As := [.int v_inn_minutes]) (rest := []) C (ctX4_pass l E h_trial h_inn h_trial_ways h_trial_how h_trial_passed h_trial_dreamOf h_trial_stateOf h_trial_roomOf h_trial_handOf h_trial_awake h_trial_thingIn h_trial_full h_trial_heardBy h_inn_house h_inn_thingIn h_inn_full h_inn_states h_inn_bed h_inn_dreamOf h_inn_listensIn h_inn_house_creak h_inn_house_cold h_inn_house_one h_inn_house_other h_inn_house_how h_inn_house_falls h_inn_house_ways h_trial_ways_steps h_inn_house_ways_steps v_trial_setting_52 v_trial_been_79 v_inn_minutes v_inn_things v_inn_dreams v_inn_sleepers v_inn_listeners v_trial_awake_79 v_trial_dreamOf_79 v_trial_stateOf_79 v_inn_states v_trial_roomOf_79 v_inn_house_rooms v_inn_house_doors v_inn_house_one v_inn_house_other v_trial_how_79 v_trial_thingIn_79 v_trial_full_79 v_trial_handOf_79 v_trial_ways_rooms_52 v_trial_ways_steps_52 v_inn_house_creak v_inn_listensIn v_inn_house_ways_rooms v_inn_house_ways_steps v_trial_heardBy_79 v_inn_house_cold v_inn_house_falls v_trial_passed_79 N v_inn_minutes (r_93, v_trial_been_93, v_trial_awake_93, v_trial_stateOf_93, v_trial_roomOf_93, v_trial_how_93, v_trial_thingIn_93, v_trial_full_93, v_trial_handOf_93, v_trial_heardBy_93, v_trial_passed_93) hc_93) ml_X0_80 ⟨Nat.le_of_ble_eq_true rfl, Nat.le_of_ble_eq_true rfl⟩ hP hD hS 2 rfl rfl rfl [2, 3, 21, 16, 17, 24, 19, 4, 8, 9, 22, 11, 13, 20, 6, 7, 25, 26, 27, 28, 14, 29, 30, 23] [0, 1, 36, 37, 43, 5, 50, 51, 44, 45, 10, 47, 12, 48, 56, 15, 39, 40, 18, 42, 49, 38, 46, 59, 41, 52, 53, 54, 55, 57, 58, 31, 32, 33, 34, 35] 36 rfl rfl rfl rfl rfl rfl rfl hl.1 rfl (Nat.le_of_ble_eq_true rfl) ⟨Nat.zero_le _, Nat.zero_le _⟩ dX0_tryOut_93 ?_
                  clear hP hD hS; intro H locs hP hD hS
                  refine lv_pop (pc := 96) hx hb dX0_tryOut_96 rfl ?_
                  refine lv_aload (pc := 97) hx hb dX0_tryOut_97 (lv_at hl 3 rfl) ?_
                  refine lv_iload (pc := 99) hx hb dX0_tryOut_99 (lv_at hl 4 rfl) ?_
                  refine lv_aload_n (pc := 101) hx hb dX0_tryOut_101 rfl (lv_at hl 0 rfl) ?_
                  refine r_get (pc := 102) C hP 0 rfl fl_X0_44 rfl dX0_tryOut_102 ?_
                  obtain ⟨v_set_rows_105, hc_105, hf⟩ := bd1 hf
                  refine r_dalVv (pc := 105) (ws' := [(h, .inr (0, [.ref h_trial, .ref h_inn, .int v_count, .ref h_dreams, .ref h_plain, .ref h_set, .ref h_tried, .ref h_kin, .int v_fitting, .ref h_fitters])), (h_tried, aZ E 21 (upd x2_tried x2_3.toNatClampNeg 1)), (h_trial, .inr (4, [.ref h_inn, .int v_trial_setting_52, .int v_trial_been_93, .ref h_trial_ways, .ref h_trial_how, .ref h_trial_passed, .ref h_trial_dreamOf, .ref h_trial_stateOf, .ref h_trial_roomOf, .ref h_trial_handOf, .ref h_trial_awake, .ref h_trial_thingIn, .ref h_trial_full, .ref h_trial_heardBy])), (h_inn, .inr (2, [.ref h_inn_house, .int v_inn_minutes, .int v_inn_things, .ref h_inn_thingIn, .ref h_inn_full, .int v_inn_dreams, .ref h_inn_states, .int v_inn_sleepers, .ref h_inn_bed, .ref h_inn_dreamOf, .int v_inn_listeners, .ref h_inn_listensIn])), (h_inn_house, .inr (1, [.int v_inn_house_rooms, .ref h_inn_house_creak, .ref h_inn_house_cold, .int v_inn_house_doors, .ref h_inn_house_one, .ref h_inn_house_other, .ref h_inn_house_how, .ref h_inn_house_falls, .ref h_inn_house_ways])), (h_inn_house_how, aI E 10 v_inn_house_how), (h_trial_ways, .inr (8, [.ref h_trial_ways_steps, .int v_trial_ways_rooms_52])), (h_trial_ways_steps, aI E 64 v_trial_ways_steps_52), (h_inn_house_one, aI E 10 v_inn_house_one), (h_inn_house_other, aI E 10 v_inn_house_other), (h_inn_thingIn, aI E 4 v_inn_thingIn), (h_trial_thingIn, aI E 4 v_trial_thingIn_93), (h_inn_full, aZ E 4 v_inn_full), (h_trial_full, aZ E 4 v_trial_full_93), (h_trial_heardBy, aJ E 3 v_trial_heardBy_93), (h_dreams, aI E 192 v_dreams), (h_trial_dreamOf, aI E 3 v_trial_dreamOf_79), (h_trial_stateOf, aI E 3 v_trial_stateOf_93), (h_inn_bed, aI E 3 v_inn_bed), (h_trial_roomOf, aI E 3 v_trial_roomOf_93), (h_trial_handOf, aI E 3 v_trial_handOf_93), (h_trial_awake, aZ E 3 v_trial_awake_93), (h_trial_how, aI E 10 v_trial_how_93), (h_trial_passed, aI E 10 v_trial_passed_93), (h_inn_states, aI E 64 v_inn_states), (h_inn_house_creak, aI E 8 v_inn_house_creak), (h_inn_listensIn, aI E 3 v_inn_listensIn), (h_inn_house_ways, .inr (8, [.ref h_inn_house_ways_steps, .int v_inn_house_ways_rooms])), (h_inn_house_ways_steps, aI E 64 v_inn_house_ways_steps), (h_inn_house_cold, aZ E 8 v_inn_house_cold), (h_inn_house_falls, aZ E 10 v_inn_house_falls), (h_plain, .inr (3, [.ref h_plain_rows])), (h_plain_rows, aJ E 256 x58_plain_rows), (h_kin, aI E 1344 x58_kin), (h_set, .inr (3, [.ref h_set_rows])), (h_set_rows, aJ E 256 v_set_rows_105)]) (As := [.int x58_5, .ref h_trial]) (rest := []) C (ctX3_keep l E h_trial h_inn h_trial_ways h_trial_how h_trial_passed h_trial_dreamOf h_trial_stateOf h_trial_roomOf h_trial_handOf h_trial_awake h_trial_thingIn h_trial_full h_trial_heardBy h_set h_set_rows h_inn_house h_inn_thingIn h_inn_full h_inn_states h_inn_bed h_inn_dreamOf h_inn_listensIn h_inn_house_creak h_inn_house_cold h_inn_house_one h_inn_house_other h_inn_house_how h_inn_house_falls h_inn_house_ways v_trial_setting_52 v_trial_been_93 v_trial_heardBy_93 x58_set_rows v_inn_minutes v_inn_things v_inn_dreams v_inn_sleepers v_inn_listeners v_inn_house_rooms v_inn_house_doors v_trial_roomOf_93 v_trial_awake_93 v_trial_how_93 v_trial_thingIn_93 v_trial_full_93 N x58_5 v_set_rows_105 hc_105) ml_X0_84 ⟨Nat.le_of_ble_eq_true rfl, Nat.le_of_ble_eq_true rfl⟩ hP hD hS 34 rfl rfl rfl [2, 34, 14, 35, 3, 4, 19, 21, 22, 11, 13] [0, 1, 36, 40, 41, 5, 6, 7, 8, 9, 10, 45, 12, 46, 38, 15, 16, 17, 18, 42, 20, 43, 44, 23, 24, 25, 26, 27, 28, 29, 30, 31, 32, 33, 37, 39] 36 rfl rfl rfl rfl rfl rfl rfl hl.1 rfl (Nat.le_of_ble_eq_true rfl) ⟨Nat.zero_le _, Nat.zero_le _⟩ dX0_tryOut_105 ?_
                  clear hP hD hS; intro H locs hP hD hS
                  refine lv_aload_n (pc := 108) hx hb dX0_tryOut_108 rfl (lv_at hl 0 rfl) ?_
                  refine r_get (pc := 109) C hP 0 rfl fl_X0_29 rfl dX0_tryOut_109 ?_
                  refine lv_iload_n (pc := 112) hx hb dX0_tryOut_112 rfl (lv_at hl 2 rfl) ?_
                  refine lv_bipush (pc := 113) (v := 64) hx hb dX0_tryOut_113 (by decide) ?_
                  refine lv_imul (pc := 115) hx hb dX0_tryOut_115 ?_
                  refine lv_iload (pc := 116) hx hb dX0_tryOut_116 (lv_at hl 4 rfl) ?_
                  refine lv_iadd (pc := 118) hx hb dX0_tryOut_118 ?_
                  refine lv_aload (pc := 119) hx hb dX0_tryOut_119 (lv_at hl 3 rfl) ?_
                  refine lv_iload (pc := 121) hx hb dX0_tryOut_121 (lv_at hl 4 rfl) ?_
                  obtain ⟨r_123, hc_123, hf⟩ := bd1 hf
                  refine r_dalVi (pc := 123) (ws' := [(h, .inr (0, [.ref h_trial, .ref h_inn, .int v_count, .ref h_dreams, .ref h_plain, .ref h_set, .ref h_tried, .ref h_kin, .int v_fitting, .ref h_fitters])), (h_tried, aZ E 21 (upd x2_tried x2_3.toNatClampNeg 1)), (h_trial, .inr (4, [.ref h_inn, .int v_trial_setting_52, .int v_trial_been_93, .ref h_trial_ways, .ref h_trial_how, .ref h_trial_passed, .ref h_trial_dreamOf, .ref h_trial_stateOf, .ref h_trial_roomOf, .ref h_trial_handOf, .ref h_trial_awake, .ref h_trial_thingIn, .ref h_trial_full, .ref h_trial_heardBy])), (h_inn, .inr (2, [.ref h_inn_house, .int v_inn_minutes, .int v_inn_things, .ref h_inn_thingIn, .ref h_inn_full, .int v_inn_dreams, .ref h_inn_states, .int v_inn_sleepers, .ref h_inn_bed, .ref h_inn_dreamOf, .int v_inn_listeners, .ref h_inn_listensIn])), (h_inn_house, .inr (1, [.int v_inn_house_rooms, .ref h_inn_house_creak, .ref h_inn_house_cold, .int v_inn_house_doors, .ref h_inn_house_one, .ref h_inn_house_other, .ref h_inn_house_how, .ref h_inn_house_falls, .ref h_inn_house_ways])), (h_inn_house_how, aI E 10 v_inn_house_how), (h_trial_ways, .inr (8, [.ref h_trial_ways_steps, .int v_trial_ways_rooms_52])), (h_trial_ways_steps, aI E 64 v_trial_ways_steps_52), (h_inn_house_one, aI E 10 v_inn_house_one), (h_inn_house_other, aI E 10 v_inn_house_other), (h_inn_thingIn, aI E 4 v_inn_thingIn), (h_trial_thingIn, aI E 4 v_trial_thingIn_93), (h_inn_full, aZ E 4 v_inn_full), (h_trial_full, aZ E 4 v_trial_full_93), (h_trial_heardBy, aJ E 3 v_trial_heardBy_93), (h_dreams, aI E 192 v_dreams), (h_trial_dreamOf, aI E 3 v_trial_dreamOf_79), (h_trial_stateOf, aI E 3 v_trial_stateOf_93), (h_inn_bed, aI E 3 v_inn_bed), (h_trial_roomOf, aI E 3 v_trial_roomOf_93), (h_trial_handOf, aI E 3 v_trial_handOf_93), (h_trial_awake, aZ E 3 v_trial_awake_93), (h_trial_how, aI E 10 v_trial_how_93), (h_trial_passed, aI E 10 v_trial_passed_93), (h_inn_states, aI E 64 v_inn_states), (h_inn_house_creak, aI E 8 v_inn_house_creak), (h_inn_listensIn, aI E 3 v_inn_listensIn), (h_inn_house_ways, .inr (8, [.ref h_inn_house_ways_steps, .int v_inn_house_ways_rooms])), (h_inn_house_ways_steps, aI E 64 v_inn_house_ways_steps), (h_inn_house_cold, aZ E 8 v_inn_house_cold), (h_inn_house_falls, aZ E 10 v_inn_house_falls), (h_plain, .inr (3, [.ref h_plain_rows])), (h_plain_rows, aJ E 256 x58_plain_rows), (h_kin, aI E 1344 x58_kin), (h_set, .inr (3, [.ref h_set_rows])), (h_set_rows, aJ E 256 v_set_rows_105)]) (As := [.int x58_5]) (rest := [.int ((x2_3 * 64) + x58_5), .ref h_kin]) C (ctX3_firstLike l E h_set h_set_rows v_set_rows_105 N x58_5 r_123 hc_123) ml_X0_88 ⟨Nat.le_of_ble_eq_true rfl, Nat.le_of_ble_eq_true rfl⟩ hP hD hS 34 rfl rfl rfl [34, 35] [0, 1, 2, 3, 4, 5, 6, 7, 8, 9, 10, 11, 12, 13, 14, 15, 16, 17, 18, 19, 20, 21, 22, 23, 24, 25, 26, 27, 28, 29, 30, 31, 32, 33, 36, 37] 36 rfl rfl rfl rfl rfl rfl rfl hl.1 rfl (Nat.le_of_ble_eq_true rfl) ⟨Nat.zero_le _, Nat.zero_le _⟩ dX0_tryOut_123 ?_
                  clear hP hD hS; intro H locs hP hD hS
                  obtain ⟨hi_126, hf⟩ := gd_s hf
                  refine r_iast (pc := 126) (ws' := [(h, .inr (0, [.ref h_trial, .ref h_inn, .int v_count, .ref h_dreams, .ref h_plain, .ref h_set, .ref h_tried, .ref h_kin, .int v_fitting, .ref h_fitters])), (h_tried, aZ E 21 (upd x2_tried x2_3.toNatClampNeg 1)), (h_trial, .inr (4, [.ref h_inn, .int v_trial_setting_52, .int v_trial_been_93, .ref h_trial_ways, .ref h_trial_how, .ref h_trial_passed, .ref h_trial_dreamOf, .ref h_trial_stateOf, .ref h_trial_roomOf, .ref h_trial_handOf, .ref h_trial_awake, .ref h_trial_thingIn, .ref h_trial_full, .ref h_trial_heardBy])), (h_inn, .inr (2, [.ref h_inn_house, .int v_inn_minutes, .int v_inn_things, .ref h_inn_thingIn, .ref h_inn_full, .int v_inn_dreams, .ref h_inn_states, .int v_inn_sleepers, .ref h_inn_bed, .ref h_inn_dreamOf, .int v_inn_listeners, .ref h_inn_listensIn])), (h_inn_house, .inr (1, [.int v_inn_house_rooms, .ref h_inn_house_creak, .ref h_inn_house_cold, .int v_inn_house_doors, .ref h_inn_house_one, .ref h_inn_house_other, .ref h_inn_house_how, .ref h_inn_house_falls, .ref h_inn_house_ways])), (h_inn_house_how, aI E 10 v_inn_house_how), (h_trial_ways, .inr (8, [.ref h_trial_ways_steps, .int v_trial_ways_rooms_52])), (h_trial_ways_steps, aI E 64 v_trial_ways_steps_52), (h_inn_house_one, aI E 10 v_inn_house_one), (h_inn_house_other, aI E 10 v_inn_house_other), (h_inn_thingIn, aI E 4 v_inn_thingIn), (h_trial_thingIn, aI E 4 v_trial_thingIn_93), (h_inn_full, aZ E 4 v_inn_full), (h_trial_full, aZ E 4 v_trial_full_93), (h_trial_heardBy, aJ E 3 v_trial_heardBy_93), (h_dreams, aI E 192 v_dreams), (h_trial_dreamOf, aI E 3 v_trial_dreamOf_79), (h_trial_stateOf, aI E 3 v_trial_stateOf_93), (h_inn_bed, aI E 3 v_inn_bed), (h_trial_roomOf, aI E 3 v_trial_roomOf_93), (h_trial_handOf, aI E 3 v_trial_handOf_93), (h_trial_awake, aZ E 3 v_trial_awake_93), (h_trial_how, aI E 10 v_trial_how_93), (h_trial_passed, aI E 10 v_trial_passed_93), (h_inn_states, aI E 64 v_inn_states), (h_inn_house_creak, aI E 8 v_inn_house_creak), (h_inn_listensIn, aI E 3 v_inn_listensIn), (h_inn_house_ways, .inr (8, [.ref h_inn_house_ways_steps, .int v_inn_house_ways_rooms])), (h_inn_house_ways_steps, aI E 64 v_inn_house_ways_steps), (h_inn_house_cold, aZ E 8 v_inn_house_cold), (h_inn_house_falls, aZ E 10 v_inn_house_falls), (h_plain, .inr (3, [.ref h_plain_rows])), (h_plain_rows, aJ E 256 x58_plain_rows), (h_kin, aI E 1344 (upd x58_kin ((x2_3 * 64) + x58_5).toNatClampNeg r_123)), (h_set, .inr (3, [.ref h_set_rows])), (h_set_rows, aJ E 256 v_set_rows_105)]) C hP hD hS 33 rfl hi_126 rfl dX0_tryOut_126 ?_
                  clear hP hD hS; intro H locs hP hD hS
                  refine lv_iinc (pc := 127) (v := x58_5 + 1) (lv' := [(5, .int (x58_5 + 1)), (0, .ref h), (2, .int p1), (3, .int x2_3), (4, .ref h_set)]) hx hb dX0_tryOut_127 hl (k := 4) rfl rfl (by decide) rfl (fun ls hl => ?_)
                  refine lv_goto (pc := 130) (tgt := 58) hx hb dX0_tryOut_130 (by decide) ?_
                  exact ih58 (x58_5 + 1) v_trial_been_93 v_trial_thingIn_93 v_trial_full_93 v_trial_heardBy_93 v_trial_dreamOf_79 v_trial_stateOf_93 v_trial_roomOf_93 v_trial_handOf_93 v_trial_awake_93 v_trial_how_93 v_trial_passed_93 x58_plain_rows (upd x58_kin ((x2_3 * 64) + x58_5).toNatClampNeg r_123) v_set_rows_105 hf _ _ _ (lv_sub hl [1, 2, 3, 4, 0] rfl) hP hD hS
            exact key58 _ 0 x2_trial_been x2_trial_thingIn x2_trial_full x2_trial_heardBy x2_trial_dreamOf x2_trial_stateOf x2_trial_roomOf x2_trial_handOf x2_trial_awake x2_trial_how x2_trial_passed x2_plain_rows x2_kin x2_set_rows hf _ _ _ (lv_sub hl [2, 3, 4, 1, 0] rfl) hP hD hS
          · replace hf := it_t c_27 hf
            refine lv_aload_n (pc := 30) hx hb dX0_tryOut_30 rfl (lv_at hl 0 rfl) ?_
            refine r_get (pc := 31) C hP 0 rfl fl_X0_18 rfl dX0_tryOut_31 ?_
            refine lv_goto (pc := 34) (tgt := 41) hx hb dX0_tryOut_34 (by decide) ?_
            refine lv_astore (pc := 41) (lv' := [(4, .ref h_plain), (0, .ref h), (2, .int p1), (3, .int x2_3)]) hx hb dX0_tryOut_41 hl (by decide) rfl (fun ls hl => ?_)
            refine lv_aload_n (pc := 43) hx hb dX0_tryOut_43 rfl (lv_at hl 1 rfl) ?_
            refine r_get (pc := 44) C hP 0 rfl fl_X0_44 rfl dX0_tryOut_44 ?_
            refine lv_aload_n (pc := 47) hx hb dX0_tryOut_47 rfl (lv_at hl 1 rfl) ?_
            refine r_get (pc := 48) C hP 0 rfl fl_X0_35 rfl dX0_tryOut_48 ?_
            refine lv_iload_n (pc := 51) hx hb dX0_tryOut_51 rfl (lv_at hl 3 rfl) ?_
            obtain ⟨v_trial_setting_52, v_trial_ways_rooms_52, v_trial_ways_steps_52, hc_52, hf⟩ := bd3 hf
            refine r_dalVv (pc := 52) (ws' := [(h, .inr (0, [.ref h_trial, .ref h_inn, .int v_count, .ref h_dreams, .ref h_plain, .ref h_set, .ref h_tried, .ref h_kin, .int v_fitting, .ref h_fitters])), (h_tried, aZ E 21 (upd x2_tried x2_3.toNatClampNeg 1)), (h_trial, .inr (4, [.ref h_inn, .int v_trial_setting_52, .int x2_trial_been, .ref h_trial_ways, .ref h_trial_how, .ref h_trial_passed, .ref h_trial_dreamOf, .ref h_trial_stateOf, .ref h_trial_roomOf, .ref h_trial_handOf, .ref h_trial_awake, .ref h_trial_thingIn, .ref h_trial_full, .ref h_trial_heardBy])), (h_inn, .inr (2, [.ref h_inn_house, .int v_inn_minutes, .int v_inn_things, .ref h_inn_thingIn, .ref h_inn_full, .int v_inn_dreams, .ref h_inn_states, .int v_inn_sleepers, .ref h_inn_bed, .ref h_inn_dreamOf, .int v_inn_listeners, .ref h_inn_listensIn])), (h_inn_house, .inr (1, [.int v_inn_house_rooms, .ref h_inn_house_creak, .ref h_inn_house_cold, .int v_inn_house_doors, .ref h_inn_house_one, .ref h_inn_house_other, .ref h_inn_house_how, .ref h_inn_house_falls, .ref h_inn_house_ways])), (h_inn_house_how, aI E 10 v_inn_house_how), (h_trial_ways, .inr (8, [.ref h_trial_ways_steps, .int v_trial_ways_rooms_52])), (h_trial_ways_steps, aI E 64 v_trial_ways_steps_52), (h_inn_house_one, aI E 10 v_inn_house_one), (h_inn_house_other, aI E 10 v_inn_house_other), (h_inn_thingIn, aI E 4 v_inn_thingIn), (h_trial_thingIn, aI E 4 x2_trial_thingIn), (h_inn_full, aZ E 4 v_inn_full), (h_trial_full, aZ E 4 x2_trial_full), (h_trial_heardBy, aJ E 3 x2_trial_heardBy), (h_dreams, aI E 192 v_dreams), (h_trial_dreamOf, aI E 3 x2_trial_dreamOf), (h_trial_stateOf, aI E 3 x2_trial_stateOf), (h_inn_bed, aI E 3 v_inn_bed), (h_trial_roomOf, aI E 3 x2_trial_roomOf), (h_trial_handOf, aI E 3 x2_trial_handOf), (h_trial_awake, aZ E 3 x2_trial_awake), (h_trial_how, aI E 10 x2_trial_how), (h_trial_passed, aI E 10 x2_trial_passed), (h_inn_states, aI E 64 v_inn_states), (h_inn_house_creak, aI E 8 v_inn_house_creak), (h_inn_listensIn, aI E 3 v_inn_listensIn), (h_inn_house_ways, .inr (8, [.ref h_inn_house_ways_steps, .int v_inn_house_ways_rooms])), (h_inn_house_ways_steps, aI E 64 v_inn_house_ways_steps), (h_inn_house_cold, aZ E 8 v_inn_house_cold), (h_inn_house_falls, aZ E 10 v_inn_house_falls), (h_plain, .inr (3, [.ref h_plain_rows])), (h_plain_rows, aJ E 256 x2_plain_rows), (h_kin, aI E 1344 x2_kin), (h_set, .inr (3, [.ref h_set_rows])), (h_set_rows, aJ E 256 x2_set_rows)]) (As := [.ref h_inn, .int x2_3]) (rest := []) C (ctX4_prepare l E h_trial h_trial_ways h_trial_how h_trial_passed h_trial_dreamOf h_trial_stateOf h_trial_roomOf h_trial_handOf h_trial_awake h_trial_thingIn h_trial_full h_trial_heardBy h_inn h_inn_house h_inn_thingIn h_inn_full h_inn_states h_inn_bed h_inn_dreamOf h_inn_listensIn h_inn_house_creak h_inn_house_cold h_inn_house_one h_inn_house_other h_inn_house_how h_inn_house_falls h_inn_house_ways h_trial_ways_steps x2_trial_inn x2_trial_setting x2_trial_been v_inn_minutes v_inn_things v_inn_dreams v_inn_sleepers v_inn_listeners v_inn_house_rooms v_inn_house_doors v_inn_house_how x2_trial_ways_rooms x2_trial_ways_steps v_inn_house_one v_inn_house_other N x2_3 (v_trial_setting_52, v_trial_ways_rooms_52, v_trial_ways_steps_52) hc_52) ml_X0_69 ⟨Nat.le_of_ble_eq_true rfl, Nat.le_of_ble_eq_true rfl⟩ hP hD hS 2 rfl rfl rfl [2, 3, 4, 5, 6, 7, 8, 9] [0, 1, 36, 37, 38, 39, 40, 41, 42, 43, 10, 11, 12, 13, 14, 15, 16, 17, 18, 19, 20, 21, 22, 23, 24, 25, 26, 27, 28, 29, 30, 31, 32, 33, 34, 35] 36 rfl rfl rfl rfl rfl rfl rfl hl.1 rfl (Nat.le_of_ble_eq_true rfl) ⟨Nat.zero_le _, Nat.zero_le _⟩ dX0_tryOut_52 ?_
            clear hP hD hS; intro H locs hP hD hS
            refine lv_iconst (pc := 55) (v := 0) hx hb dX0_tryOut_55 (by decide) ?_
            refine lv_istore (pc := 56) (lv' := [(5, .int 0), (4, .ref h_plain), (0, .ref h), (2, .int p1), (3, .int x2_3)]) hx hb dX0_tryOut_56 hl (by decide) rfl (fun ls hl => ?_)
            have key58a : ∀ (n : Nat) (x58a_5 : Int32) (x58a_trial_been : Int32) (x58a_trial_thingIn : Nat → Int32) (x58a_trial_full : Nat → Int32) (x58a_trial_heardBy : Nat → Int64) (x58a_trial_dreamOf : Nat → Int32) (x58a_trial_stateOf : Nat → Int32) (x58a_trial_roomOf : Nat → Int32) (x58a_trial_handOf : Nat → Int32) (x58a_trial_awake : Nat → Int32) (x58a_trial_how : Nat → Int32) (x58a_trial_passed : Nat → Int32) (x58a_plain_rows : Nat → Int64) (x58a_kin : Nat → Int32) (x58a_set_rows : Nat → Int64) , lp (BX0_tryOut_58a v_count j133 x2_tried x2_3 h_inn v_trial_setting_52 v_trial_ways_rooms_52 v_trial_ways_steps_52 N v_inn_sleepers v_inn_house_doors v_inn_thingIn v_inn_full v_dreams v_inn_bed v_inn_house_how v_inn_minutes v_inn_listeners v_inn_states v_inn_house_one v_inn_house_other v_inn_house_creak v_inn_listensIn v_inn_house_ways_steps v_inn_house_cold v_inn_house_falls v_inn_things) n (x58a_5, x58a_trial_been, x58a_trial_thingIn, x58a_trial_full, x58a_trial_heardBy, x58a_trial_dreamOf, x58a_trial_stateOf, x58a_trial_roomOf, x58a_trial_handOf, x58a_trial_awake, x58a_trial_how, x58a_trial_passed, x58a_plain_rows, x58a_kin, x58a_set_rows) = some z → AT p l e (rmOf 5 119) s m args below meth c E A Q 0 0 6 [(0, .ref h), (2, .int p1), (3, .int x2_3), (4, .ref h_plain), (5, .int x58a_5)] [(h, .inr (0, [.ref h_trial, .ref h_inn, .int v_count, .ref h_dreams, .ref h_plain, .ref h_set, .ref h_tried, .ref h_kin, .int v_fitting, .ref h_fitters])), (h_tried, aZ E 21 (upd x2_tried x2_3.toNatClampNeg 1)), (h_trial, .inr (4, [.ref h_inn, .int v_trial_setting_52, .int x58a_trial_been, .ref h_trial_ways, .ref h_trial_how, .ref h_trial_passed, .ref h_trial_dreamOf, .ref h_trial_stateOf, .ref h_trial_roomOf, .ref h_trial_handOf, .ref h_trial_awake, .ref h_trial_thingIn, .ref h_trial_full, .ref h_trial_heardBy])), (h_inn, .inr (2, [.ref h_inn_house, .int v_inn_minutes, .int v_inn_things, .ref h_inn_thingIn, .ref h_inn_full, .int v_inn_dreams, .ref h_inn_states, .int v_inn_sleepers, .ref h_inn_bed, .ref h_inn_dreamOf, .int v_inn_listeners, .ref h_inn_listensIn])), (h_inn_house, .inr (1, [.int v_inn_house_rooms, .ref h_inn_house_creak, .ref h_inn_house_cold, .int v_inn_house_doors, .ref h_inn_house_one, .ref h_inn_house_other, .ref h_inn_house_how, .ref h_inn_house_falls, .ref h_inn_house_ways])), (h_inn_house_how, aI E 10 v_inn_house_how), (h_trial_ways, .inr (8, [.ref h_trial_ways_steps, .int v_trial_ways_rooms_52])), (h_trial_ways_steps, aI E 64 v_trial_ways_steps_52), (h_inn_house_one, aI E 10 v_inn_house_one), (h_inn_house_other, aI E 10 v_inn_house_other), (h_inn_thingIn, aI E 4 v_inn_thingIn), (h_trial_thingIn, aI E 4 x58a_trial_thingIn), (h_inn_full, aZ E 4 v_inn_full), (h_trial_full, aZ E 4 x58a_trial_full), (h_trial_heardBy, aJ E 3 x58a_trial_heardBy), (h_dreams, aI E 192 v_dreams), (h_trial_dreamOf, aI E 3 x58a_trial_dreamOf), (h_trial_stateOf, aI E 3 x58a_trial_stateOf), (h_inn_bed, aI E 3 v_inn_bed), (h_trial_roomOf, aI E 3 x58a_trial_roomOf), (h_trial_handOf, aI E 3 x58a_trial_handOf), (h_trial_awake, aZ E 3 x58a_trial_awake), (h_trial_how, aI E 10 x58a_trial_how), (h_trial_passed, aI E 10 x58a_trial_passed), (h_inn_states, aI E 64 v_inn_states), (h_inn_house_creak, aI E 8 v_inn_house_creak), (h_inn_listensIn, aI E 3 v_inn_listensIn), (h_inn_house_ways, .inr (8, [.ref h_inn_house_ways_steps, .int v_inn_house_ways_rooms])), (h_inn_house_ways_steps, aI E 64 v_inn_house_ways_steps), (h_inn_house_cold, aZ E 8 v_inn_house_cold), (h_inn_house_falls, aZ E 10 v_inn_house_falls), (h_plain, .inr (3, [.ref h_plain_rows])), (h_plain_rows, aJ E 256 x58a_plain_rows), (h_kin, aI E 1344 x58a_kin), (h_set, .inr (3, [.ref h_set_rows])), (h_set_rows, aJ E 256 x58a_set_rows)] 58 [] := by
              intro n
              induction n with
              | zero => intro x58a_5 x58a_trial_been x58a_trial_thingIn x58a_trial_full x58a_trial_heardBy x58a_trial_dreamOf x58a_trial_stateOf x58a_trial_roomOf x58a_trial_handOf x58a_trial_awake x58a_trial_how x58a_trial_passed x58a_plain_rows x58a_kin x58a_set_rows hf; exact (lp_0 hf).elim
              | succ n ih58a =>
                intro x58a_5 x58a_trial_been x58a_trial_thingIn x58a_trial_full x58a_trial_heardBy x58a_trial_dreamOf x58a_trial_stateOf x58a_trial_roomOf x58a_trial_handOf x58a_trial_awake x58a_trial_how x58a_trial_passed x58a_plain_rows x58a_kin x58a_set_rows hf H locs ls hl hP hD hS
                replace hf := lp_s hf
                generalize lp (BX0_tryOut_58a v_count j133 x2_tried x2_3 h_inn v_trial_setting_52 v_trial_ways_rooms_52 v_trial_ways_steps_52 N v_inn_sleepers v_inn_house_doors v_inn_thingIn v_inn_full v_dreams v_inn_bed v_inn_house_how v_inn_minutes v_inn_listeners v_inn_states v_inn_house_one v_inn_house_other v_inn_house_creak v_inn_listensIn v_inn_house_ways_steps v_inn_house_cold v_inn_house_falls v_inn_things) n = rec58a at ih58a hf
                unfold BX0_tryOut_58a at hf
                replace hf := un15_s hf
                refine lv_iload (pc := 58) hx hb dX0_tryOut_58 (lv_at hl 4 rfl) ?_
                refine lv_aload_n (pc := 60) hx hb dX0_tryOut_60 rfl (lv_at hl 0 rfl) ?_
                refine r_get (pc := 61) C hP 0 rfl fl_X0_48 rfl dX0_tryOut_61 ?_
                refine lv_icmp_ge (pc := 64) (tgt := 133) hx hb dX0_tryOut_64 (by decide) (fun c_64 => ?_) (fun c_64 => ?_)
                · replace hf := it_t c_64 hf
                  exact hj133 (upd x2_tried x2_3.toNatClampNeg 1) (some h_inn) v_trial_setting_52 x58a_trial_been v_trial_ways_rooms_52 v_trial_ways_steps_52 x58a_trial_thingIn x58a_trial_full x58a_trial_heardBy x58a_trial_dreamOf x58a_trial_stateOf x58a_trial_roomOf x58a_trial_handOf x58a_trial_awake x58a_trial_how x58a_trial_passed x58a_plain_rows x58a_kin x58a_set_rows hf _ _ _ (lv_sub hl [0, 1, 2] rfl) hP hD hS
                · replace hf := it_f c_64 hf
                  refine lv_aload_n (pc := 67) hx hb dX0_tryOut_67 rfl (lv_at hl 0 rfl) ?_
                  refine r_get (pc := 68) C hP 0 rfl fl_X0_44 rfl dX0_tryOut_68 ?_
                  refine lv_aload_n (pc := 71) hx hb dX0_tryOut_71 rfl (lv_at hl 0 rfl) ?_
                  refine r_get (pc := 72) C hP 0 rfl fl_X0_9 rfl dX0_tryOut_72 ?_
                  refine lv_iload (pc := 75) hx hb dX0_tryOut_75 (lv_at hl 4 rfl) ?_
                  refine lv_iconst (pc := 77) (v := 3) hx hb dX0_tryOut_77 (by decide) ?_
                  refine lv_imul (pc := 78) hx hb dX0_tryOut_78 ?_
                  obtain ⟨v_trial_been_79, v_trial_thingIn_79, v_trial_full_79, v_trial_heardBy_79, v_trial_dreamOf_79, v_trial_stateOf_79, v_trial_roomOf_79, v_trial_handOf_79, v_trial_awake_79, v_trial_how_79, v_trial_passed_79, hc_79, hf⟩ := bd11 hf
                  refine r_dalVv (pc := 79) (ws' := [(h, .inr (0, [.ref h_trial, .ref h_inn, .int v_count, .ref h_dreams, .ref h_plain, .ref h_set, .ref h_tried, .ref h_kin, .int v_fitting, .ref h_fitters])), (h_tried, aZ E 21 (upd x2_tried x2_3.toNatClampNeg 1)), (h_trial, .inr (4, [.ref h_inn, .int v_trial_setting_52, .int v_trial_been_79, .ref h_trial_ways, .ref h_trial_how, .ref h_trial_passed, .ref h_trial_dreamOf, .ref h_trial_stateOf, .ref h_trial_roomOf, .ref h_trial_handOf, .ref h_trial_awake, .ref h_trial_thingIn, .ref h_trial_full, .ref h_trial_heardBy])), (h_inn, .inr (2, [.ref h_inn_house, .int v_inn_minutes, .int v_inn_things, .ref h_inn_thingIn, .ref h_inn_full, .int v_inn_dreams, .ref h_inn_states, .int v_inn_sleepers, .ref h_inn_bed, .ref h_inn_dreamOf, .int v_inn_listeners, .ref h_inn_listensIn])), (h_inn_house, .inr (1, [.int v_inn_house_rooms, .ref h_inn_house_creak, .ref h_inn_house_cold, .int v_inn_house_doors, .ref h_inn_house_one, .ref h_inn_house_other, .ref h_inn_house_how, .ref h_inn_house_falls, .ref h_inn_house_ways])), (h_inn_house_how, aI E 10 v_inn_house_how), (h_trial_ways, .inr (8, [.ref h_trial_ways_steps, .int v_trial_ways_rooms_52])), (h_trial_ways_steps, aI E 64 v_trial_ways_steps_52), (h_inn_house_one, aI E 10 v_inn_house_one), (h_inn_house_other, aI E 10 v_inn_house_other), (h_inn_thingIn, aI E 4 v_inn_thingIn), (h_trial_thingIn, aI E 4 v_trial_thingIn_79), (h_inn_full, aZ E 4 v_inn_full), (h_trial_full, aZ E 4 v_trial_full_79), (h_trial_heardBy, aJ E 3 v_trial_heardBy_79), (h_dreams, aI E 192 v_dreams), (h_trial_dreamOf, aI E 3 v_trial_dreamOf_79), (h_trial_stateOf, aI E 3 v_trial_stateOf_79), (h_inn_bed, aI E 3 v_inn_bed), (h_trial_roomOf, aI E 3 v_trial_roomOf_79), (h_trial_handOf, aI E 3 v_trial_handOf_79), (h_trial_awake, aZ E 3 v_trial_awake_79), (h_trial_how, aI E 10 v_trial_how_79), (h_trial_passed, aI E 10 v_trial_passed_79), (h_inn_states, aI E 64 v_inn_states), (h_inn_house_creak, aI E 8 v_inn_house_creak), (h_inn_listensIn, aI E 3 v_inn_listensIn), (h_inn_house_ways, .inr (8, [.ref h_inn_house_ways_steps, .int v_inn_house_ways_rooms])), (h_inn_house_ways_steps, aI E 64 v_inn_house_ways_steps), (h_inn_house_cold, aZ E 8 v_inn_house_cold), (h_inn_house_falls, aZ E 10 v_inn_house_falls), (h_plain, .inr (3, [.ref h_plain_rows])), (h_plain_rows, aJ E 256 x58a_plain_rows), (h_kin, aI E 1344 x58a_kin), (h_set, .inr (3, [.ref h_set_rows])), (h_set_rows, aJ E 256 x58a_set_rows)]) (As := [.ref h_dreams, .int (x58a_5 * 3)]) (rest := []) C (ctX4_begind l E h_trial h_inn h_trial_ways h_trial_how h_trial_passed h_trial_dreamOf h_trial_stateOf h_trial_roomOf h_trial_handOf h_trial_awake h_trial_thingIn h_trial_full h_trial_heardBy h_inn_house h_inn_thingIn h_inn_full h_inn_states h_inn_bed h_inn_dreamOf h_inn_listensIn h_inn_house_creak h_inn_house_cold h_inn_house_one h_inn_house_other h_inn_house_how h_inn_house_falls h_inn_house_ways h_dreams v_trial_setting_52 x58a_trial_been v_inn_minutes v_inn_things v_inn_dreams v_inn_sleepers v_inn_listeners v_inn_house_rooms v_inn_house_doors v_inn_thingIn x58a_trial_thingIn v_inn_full x58a_trial_full x58a_trial_heardBy v_dreams x58a_trial_dreamOf x58a_trial_stateOf v_inn_bed x58a_trial_roomOf x58a_trial_handOf x58a_trial_awake v_inn_house_how x58a_trial_how x58a_trial_passed N (x58a_5 * 3) (v_trial_been_79, v_trial_thingIn_79, v_trial_full_79, v_trial_heardBy_79, v_trial_dreamOf_79, v_trial_stateOf_79, v_trial_roomOf_79, v_trial_handOf_79, v_trial_awake_79, v_trial_how_79, v_trial_passed_79) hc_79) ml_X0_73 ⟨Nat.le_of_ble_eq_true rfl, Nat.le_of_ble_eq_true rfl⟩ hP hD hS 2 rfl rfl rfl [2, 3, 4, 10, 11, 12, 13, 14, 15, 16, 17, 18, 19, 20, 21, 5, 22, 23] [0, 1, 36, 37, 38, 51, 6, 7, 8, 9, 39, 40, 41, 42, 43, 44, 45, 46, 47, 48, 49, 50, 52, 53, 24, 25, 26, 27, 28, 29, 30, 31, 32, 33, 34, 35] 36 rfl rfl rfl rfl rfl rfl rfl hl.1 rfl (Nat.le_of_ble_eq_true rfl) ⟨Nat.zero_le _, Nat.zero_le _⟩ dX0_tryOut_79 ?_
                  clear hP hD hS; intro H locs hP hD hS
                  refine lv_aload_n (pc := 82) hx hb dX0_tryOut_82 rfl (lv_at hl 0 rfl) ?_
                  refine r_get (pc := 83) C hP 0 rfl fl_X0_44 rfl dX0_tryOut_83 ?_
                  refine lv_aload_n (pc := 86) hx hb dX0_tryOut_86 rfl (lv_at hl 0 rfl) ?_
                  refine r_get (pc := 87) C hP 0 rfl fl_X0_35 rfl dX0_tryOut_87 ?_
                  refine r_get (pc := 90) C hP 3 rfl fl_X0_77 rfl dX0_tryOut_90 ?_
                  obtain ⟨r_93, v_trial_been_93, v_trial_awake_93, v_trial_stateOf_93, v_trial_roomOf_93, v_trial_how_93, v_trial_thingIn_93, v_trial_full_93, v_trial_handOf_93, v_trial_heardBy_93, v_trial_passed_93, hc_93, hf⟩ := bd11 hf
                  refine r_dalVi (pc := 93) (ws' := [(h, .inr (0, [.ref h_trial, .ref h_inn, .int v_count, .ref h_dreams, .ref h_plain, .ref h_set, .ref h_tried, .ref h_kin, .int v_fitting, .ref h_fitters])), (h_tried, aZ E 21 (upd x2_tried x2_3.toNatClampNeg 1)), (h_trial, .inr (4, [.ref h_inn, .int v_trial_setting_52, .int v_trial_been_93, .ref h_trial_ways, .ref h_trial_how, .ref h_trial_passed, .ref h_trial_dreamOf, .ref h_trial_stateOf, .ref h_trial_roomOf, .ref h_trial_handOf, .ref h_trial_awake, .ref h_trial_thingIn, .ref h_trial_full, .ref h_trial_heardBy])), (h_inn, .inr (2, [.ref h_inn_house, .int v_inn_minutes, .int v_inn_things, .ref h_inn_thingIn, .ref h_inn_full, .int v_inn_dreams, .ref h_inn_states, .int v_inn_sleepers, .ref h_inn_bed, .ref h_inn_dreamOf, .int v_inn_listeners, .ref h_inn_listensIn])), (h_inn_house, .inr (1, [.int v_inn_house_rooms, .ref h_inn_house_creak, .ref h_inn_house_cold, .int v_inn_house_doors, .ref h_inn_house_one, .ref h_inn_house_other, .ref h_inn_house_how, .ref h_inn_house_falls, .ref h_inn_house_ways])), (h_inn_house_how, aI E 10 v_inn_house_how), (h_trial_ways, .inr (8, [.ref h_trial_ways_steps, .int v_trial_ways_rooms_52])), (h_trial_ways_steps, aI E 64 v_trial_ways_steps_52), (h_inn_house_one, aI E 10 v_inn_house_one), (h_inn_house_other, aI E 10 v_inn_house_other), (h_inn_thingIn, aI E 4 v_inn_thingIn), (h_trial_thingIn, aI E 4 v_trial_thingIn_93), (h_inn_full, aZ E 4 v_inn_full), (h_trial_full, aZ E 4 v_trial_full_93), (h_trial_heardBy, aJ E 3 v_trial_heardBy_93), (h_dreams, aI E 192 v_dreams), (h_trial_dreamOf, aI E 3 v_trial_dreamOf_79), (h_trial_stateOf, aI E 3 v_trial_stateOf_93), (h_inn_bed, aI E 3 v_inn_bed), (h_trial_roomOf, aI E 3 v_trial_roomOf_93), (h_trial_handOf, aI E 3 v_trial_handOf_93), (h_trial_awake, aZ E 3 v_trial_awake_93), (h_trial_how, aI E 10 v_trial_how_93), (h_trial_passed, aI E 10 v_trial_passed_93), (h_inn_states, aI E 64 v_inn_states), (h_inn_house_creak, aI E 8 v_inn_house_creak), (h_inn_listensIn, aI E 3 v_inn_listensIn), (h_inn_house_ways, .inr (8, [.ref h_inn_house_ways_steps, .int v_inn_house_ways_rooms])), (h_inn_house_ways_steps, aI E 64 v_inn_house_ways_steps), (h_inn_house_cold, aZ E 8 v_inn_house_cold), (h_inn_house_falls, aZ E 10 v_inn_house_falls), (h_plain, .inr (3, [.ref h_plain_rows])), (h_plain_rows, aJ E 256 x58a_plain_rows), (h_kin, aI E 1344 x58a_kin), (h_set, .inr (3, [.ref h_set_rows])), (h_set_rows, aJ E 256 x58a_set_rows)]) (As := [.int v_inn_minutes]) (rest := []) C (ctX4_pass l E h_trial h_inn h_trial_ways h_trial_how h_trial_passed h_trial_dreamOf h_trial_stateOf h_trial_roomOf h_trial_handOf h_trial_awake h_trial_thingIn h_trial_full h_trial_heardBy h_inn_house h_inn_thingIn h_inn_full h_inn_states h_inn_bed h_inn_dreamOf h_inn_listensIn h_inn_house_creak h_inn_house_cold h_inn_house_one h_inn_house_other h_inn_house_how h_inn_house_falls h_inn_house_ways h_trial_ways_steps h_inn_house_ways_steps v_trial_setting_52 v_trial_been_79 v_inn_minutes v_inn_things v_inn_dreams v_inn_sleepers v_inn_listeners v_trial_awake_79 v_trial_dreamOf_79 v_trial_stateOf_79 v_inn_states v_trial_roomOf_79 v_inn_house_rooms v_inn_house_doors v_inn_house_one v_inn_house_other v_trial_how_79 v_trial_thingIn_79 v_trial_full_79 v_trial_handOf_79 v_trial_ways_rooms_52 v_trial_ways_steps_52 v_inn_house_creak v_inn_listensIn v_inn_house_ways_rooms v_inn_house_ways_steps v_trial_heardBy_79 v_inn_house_cold v_inn_house_falls v_trial_passed_79 N v_inn_minutes (r_93, v_trial_been_93, v_trial_awake_93, v_trial_stateOf_93, v_trial_roomOf_93, v_trial_how_93, v_trial_thingIn_93, v_trial_full_93, v_trial_handOf_93, v_trial_heardBy_93, v_trial_passed_93) hc_93) ml_X0_80 ⟨Nat.le_of_ble_eq_true rfl, Nat.le_of_ble_eq_true rfl⟩ hP hD hS 2 rfl rfl rfl [2, 3, 21, 16, 17, 24, 19, 4, 8, 9, 22, 11, 13, 20, 6, 7, 25, 26, 27, 28, 14, 29, 30, 23] [0, 1, 36, 37, 43, 5, 50, 51, 44, 45, 10, 47, 12, 48, 56, 15, 39, 40, 18, 42, 49, 38, 46, 59, 41, 52, 53, 54, 55, 57, 58, 31, 32, 33, 34, 35] 36 rfl rfl rfl rfl rfl rfl rfl hl.1 rfl (Nat.le_of_ble_eq_true rfl) ⟨Nat.zero_le _, Nat.zero_le _⟩ dX0_tryOut_93 ?_
                  clear hP hD hS; intro H locs hP hD hS
                  refine lv_pop (pc := 96) hx hb dX0_tryOut_96 rfl ?_
                  refine lv_aload (pc := 97) hx hb dX0_tryOut_97 (lv_at hl 3 rfl) ?_
                  refine lv_iload (pc := 99) hx hb dX0_tryOut_99 (lv_at hl 4 rfl) ?_
                  refine lv_aload_n (pc := 101) hx hb dX0_tryOut_101 rfl (lv_at hl 0 rfl) ?_
                  refine r_get (pc := 102) C hP 0 rfl fl_X0_44 rfl dX0_tryOut_102 ?_
                  obtain ⟨v_plain_rows_105, hc_105, hf⟩ := bd1 hf
                  refine r_dalVv (pc := 105) (ws' := [(h, .inr (0, [.ref h_trial, .ref h_inn, .int v_count, .ref h_dreams, .ref h_plain, .ref h_set, .ref h_tried, .ref h_kin, .int v_fitting, .ref h_fitters])), (h_tried, aZ E 21 (upd x2_tried x2_3.toNatClampNeg 1)), (h_trial, .inr (4, [.ref h_inn, .int v_trial_setting_52, .int v_trial_been_93, .ref h_trial_ways, .ref h_trial_how, .ref h_trial_passed, .ref h_trial_dreamOf, .ref h_trial_stateOf, .ref h_trial_roomOf, .ref h_trial_handOf, .ref h_trial_awake, .ref h_trial_thingIn, .ref h_trial_full, .ref h_trial_heardBy])), (h_inn, .inr (2, [.ref h_inn_house, .int v_inn_minutes, .int v_inn_things, .ref h_inn_thingIn, .ref h_inn_full, .int v_inn_dreams, .ref h_inn_states, .int v_inn_sleepers, .ref h_inn_bed, .ref h_inn_dreamOf, .int v_inn_listeners, .ref h_inn_listensIn])), (h_inn_house, .inr (1, [.int v_inn_house_rooms, .ref h_inn_house_creak, .ref h_inn_house_cold, .int v_inn_house_doors, .ref h_inn_house_one, .ref h_inn_house_other, .ref h_inn_house_how, .ref h_inn_house_falls, .ref h_inn_house_ways])), (h_inn_house_how, aI E 10 v_inn_house_how), (h_trial_ways, .inr (8, [.ref h_trial_ways_steps, .int v_trial_ways_rooms_52])), (h_trial_ways_steps, aI E 64 v_trial_ways_steps_52), (h_inn_house_one, aI E 10 v_inn_house_one), (h_inn_house_other, aI E 10 v_inn_house_other), (h_inn_thingIn, aI E 4 v_inn_thingIn), (h_trial_thingIn, aI E 4 v_trial_thingIn_93), (h_inn_full, aZ E 4 v_inn_full), (h_trial_full, aZ E 4 v_trial_full_93), (h_trial_heardBy, aJ E 3 v_trial_heardBy_93), (h_dreams, aI E 192 v_dreams), (h_trial_dreamOf, aI E 3 v_trial_dreamOf_79), (h_trial_stateOf, aI E 3 v_trial_stateOf_93), (h_inn_bed, aI E 3 v_inn_bed), (h_trial_roomOf, aI E 3 v_trial_roomOf_93), (h_trial_handOf, aI E 3 v_trial_handOf_93), (h_trial_awake, aZ E 3 v_trial_awake_93), (h_trial_how, aI E 10 v_trial_how_93), (h_trial_passed, aI E 10 v_trial_passed_93), (h_inn_states, aI E 64 v_inn_states), (h_inn_house_creak, aI E 8 v_inn_house_creak), (h_inn_listensIn, aI E 3 v_inn_listensIn), (h_inn_house_ways, .inr (8, [.ref h_inn_house_ways_steps, .int v_inn_house_ways_rooms])), (h_inn_house_ways_steps, aI E 64 v_inn_house_ways_steps), (h_inn_house_cold, aZ E 8 v_inn_house_cold), (h_inn_house_falls, aZ E 10 v_inn_house_falls), (h_plain, .inr (3, [.ref h_plain_rows])), (h_plain_rows, aJ E 256 v_plain_rows_105), (h_kin, aI E 1344 x58a_kin), (h_set, .inr (3, [.ref h_set_rows])), (h_set_rows, aJ E 256 x58a_set_rows)]) (As := [.int x58a_5, .ref h_trial]) (rest := []) C (ctX3_keep l E h_trial h_inn h_trial_ways h_trial_how h_trial_passed h_trial_dreamOf h_trial_stateOf h_trial_roomOf h_trial_handOf h_trial_awake h_trial_thingIn h_trial_full h_trial_heardBy h_plain h_plain_rows h_inn_house h_inn_thingIn h_inn_full h_inn_states h_inn_bed h_inn_dreamOf h_inn_listensIn h_inn_house_creak h_inn_house_cold h_inn_house_one h_inn_house_other h_inn_house_how h_inn_house_falls h_inn_house_ways v_trial_setting_52 v_trial_been_93 v_trial_heardBy_93 x58a_plain_rows v_inn_minutes v_inn_things v_inn_dreams v_inn_sleepers v_inn_listeners v_inn_house_rooms v_inn_house_doors v_trial_roomOf_93 v_trial_awake_93 v_trial_how_93 v_trial_thingIn_93 v_trial_full_93 N x58a_5 v_plain_rows_105 hc_105) ml_X0_84 ⟨Nat.le_of_ble_eq_true rfl, Nat.le_of_ble_eq_true rfl⟩ hP hD hS 31 rfl rfl rfl [2, 31, 14, 32, 3, 4, 19, 21, 22, 11, 13] [0, 1, 36, 40, 41, 5, 6, 7, 8, 9, 10, 45, 12, 46, 38, 15, 16, 17, 18, 42, 20, 43, 44, 23, 24, 25, 26, 27, 28, 29, 30, 37, 39, 33, 34, 35] 36 rfl rfl rfl rfl rfl rfl rfl hl.1 rfl (Nat.le_of_ble_eq_true rfl) ⟨Nat.zero_le _, Nat.zero_le _⟩ dX0_tryOut_105 ?_
                  clear hP hD hS; intro H locs hP hD hS
                  refine lv_aload_n (pc := 108) hx hb dX0_tryOut_108 rfl (lv_at hl 0 rfl) ?_
                  refine r_get (pc := 109) C hP 0 rfl fl_X0_29 rfl dX0_tryOut_109 ?_
                  refine lv_iload_n (pc := 112) hx hb dX0_tryOut_112 rfl (lv_at hl 2 rfl) ?_
                  refine lv_bipush (pc := 113) (v := 64) hx hb dX0_tryOut_113 (by decide) ?_
                  refine lv_imul (pc := 115) hx hb dX0_tryOut_115 ?_
                  refine lv_iload (pc := 116) hx hb dX0_tryOut_116 (lv_at hl 4 rfl) ?_
                  refine lv_iadd (pc := 118) hx hb dX0_tryOut_118 ?_
                  refine lv_aload (pc := 119) hx hb dX0_tryOut_119 (lv_at hl 3 rfl) ?_
                  refine lv_iload (pc := 121) hx hb dX0_tryOut_121 (lv_at hl 4 rfl) ?_
                  obtain ⟨r_123, hc_123, hf⟩ := bd1 hf
                  refine r_dalVi (pc := 123) (ws' := [(h, .inr (0, [.ref h_trial, .ref h_inn, .int v_count, .ref h_dreams, .ref h_plain, .ref h_set, .ref h_tried, .ref h_kin, .int v_fitting, .ref h_fitters])), (h_tried, aZ E 21 (upd x2_tried x2_3.toNatClampNeg 1)), (h_trial, .inr (4, [.ref h_inn, .int v_trial_setting_52, .int v_trial_been_93, .ref h_trial_ways, .ref h_trial_how, .ref h_trial_passed, .ref h_trial_dreamOf, .ref h_trial_stateOf, .ref h_trial_roomOf, .ref h_trial_handOf, .ref h_trial_awake, .ref h_trial_thingIn, .ref h_trial_full, .ref h_trial_heardBy])), (h_inn, .inr (2, [.ref h_inn_house, .int v_inn_minutes, .int v_inn_things, .ref h_inn_thingIn, .ref h_inn_full, .int v_inn_dreams, .ref h_inn_states, .int v_inn_sleepers, .ref h_inn_bed, .ref h_inn_dreamOf, .int v_inn_listeners, .ref h_inn_listensIn])), (h_inn_house, .inr (1, [.int v_inn_house_rooms, .ref h_inn_house_creak, .ref h_inn_house_cold, .int v_inn_house_doors, .ref h_inn_house_one, .ref h_inn_house_other, .ref h_inn_house_how, .ref h_inn_house_falls, .ref h_inn_house_ways])), (h_inn_house_how, aI E 10 v_inn_house_how), (h_trial_ways, .inr (8, [.ref h_trial_ways_steps, .int v_trial_ways_rooms_52])), (h_trial_ways_steps, aI E 64 v_trial_ways_steps_52), (h_inn_house_one, aI E 10 v_inn_house_one), (h_inn_house_other, aI E 10 v_inn_house_other), (h_inn_thingIn, aI E 4 v_inn_thingIn), (h_trial_thingIn, aI E 4 v_trial_thingIn_93), (h_inn_full, aZ E 4 v_inn_full), (h_trial_full, aZ E 4 v_trial_full_93), (h_trial_heardBy, aJ E 3 v_trial_heardBy_93), (h_dreams, aI E 192 v_dreams), (h_trial_dreamOf, aI E 3 v_trial_dreamOf_79), (h_trial_stateOf, aI E 3 v_trial_stateOf_93), (h_inn_bed, aI E 3 v_inn_bed), (h_trial_roomOf, aI E 3 v_trial_roomOf_93), (h_trial_handOf, aI E 3 v_trial_handOf_93), (h_trial_awake, aZ E 3 v_trial_awake_93), (h_trial_how, aI E 10 v_trial_how_93), (h_trial_passed, aI E 10 v_trial_passed_93), (h_inn_states, aI E 64 v_inn_states), (h_inn_house_creak, aI E 8 v_inn_house_creak), (h_inn_listensIn, aI E 3 v_inn_listensIn), (h_inn_house_ways, .inr (8, [.ref h_inn_house_ways_steps, .int v_inn_house_ways_rooms])), (h_inn_house_ways_steps, aI E 64 v_inn_house_ways_steps), (h_inn_house_cold, aZ E 8 v_inn_house_cold), (h_inn_house_falls, aZ E 10 v_inn_house_falls), (h_plain, .inr (3, [.ref h_plain_rows])), (h_plain_rows, aJ E 256 v_plain_rows_105), (h_kin, aI E 1344 x58a_kin), (h_set, .inr (3, [.ref h_set_rows])), (h_set_rows, aJ E 256 x58a_set_rows)]) (As := [.int x58a_5]) (rest := [.int ((x2_3 * 64) + x58a_5), .ref h_kin]) C (ctX3_firstLike l E h_plain h_plain_rows v_plain_rows_105 N x58a_5 r_123 hc_123) ml_X0_88 ⟨Nat.le_of_ble_eq_true rfl, Nat.le_of_ble_eq_true rfl⟩ hP hD hS 31 rfl rfl rfl [31, 32] [0, 1, 2, 3, 4, 5, 6, 7, 8, 9, 10, 11, 12, 13, 14, 15, 16, 17, 18, 19, 20, 21, 22, 23, 24, 25, 26, 27, 28, 29, 30, 36, 37, 33, 34, 35] 36 rfl rfl rfl rfl rfl rfl rfl hl.1 rfl (Nat.le_of_ble_eq_true rfl) ⟨Nat.zero_le _, Nat.zero_le _⟩ dX0_tryOut_123 ?_
                  clear hP hD hS; intro H locs hP hD hS
                  obtain ⟨hi_126, hf⟩ := gd_s hf
                  refine r_iast (pc := 126) (ws' := [(h, .inr (0, [.ref h_trial, .ref h_inn, .int v_count, .ref h_dreams, .ref h_plain, .ref h_set, .ref h_tried, .ref h_kin, .int v_fitting, .ref h_fitters])), (h_tried, aZ E 21 (upd x2_tried x2_3.toNatClampNeg 1)), (h_trial, .inr (4, [.ref h_inn, .int v_trial_setting_52, .int v_trial_been_93, .ref h_trial_ways, .ref h_trial_how, .ref h_trial_passed, .ref h_trial_dreamOf, .ref h_trial_stateOf, .ref h_trial_roomOf, .ref h_trial_handOf, .ref h_trial_awake, .ref h_trial_thingIn, .ref h_trial_full, .ref h_trial_heardBy])), (h_inn, .inr (2, [.ref h_inn_house, .int v_inn_minutes, .int v_inn_things, .ref h_inn_thingIn, .ref h_inn_full, .int v_inn_dreams, .ref h_inn_states, .int v_inn_sleepers, .ref h_inn_bed, .ref h_inn_dreamOf, .int v_inn_listeners, .ref h_inn_listensIn])), (h_inn_house, .inr (1, [.int v_inn_house_rooms, .ref h_inn_house_creak, .ref h_inn_house_cold, .int v_inn_house_doors, .ref h_inn_house_one, .ref h_inn_house_other, .ref h_inn_house_how, .ref h_inn_house_falls, .ref h_inn_house_ways])), (h_inn_house_how, aI E 10 v_inn_house_how), (h_trial_ways, .inr (8, [.ref h_trial_ways_steps, .int v_trial_ways_rooms_52])), (h_trial_ways_steps, aI E 64 v_trial_ways_steps_52), (h_inn_house_one, aI E 10 v_inn_house_one), (h_inn_house_other, aI E 10 v_inn_house_other), (h_inn_thingIn, aI E 4 v_inn_thingIn), (h_trial_thingIn, aI E 4 v_trial_thingIn_93), (h_inn_full, aZ E 4 v_inn_full), (h_trial_full, aZ E 4 v_trial_full_93), (h_trial_heardBy, aJ E 3 v_trial_heardBy_93), (h_dreams, aI E 192 v_dreams), (h_trial_dreamOf, aI E 3 v_trial_dreamOf_79), (h_trial_stateOf, aI E 3 v_trial_stateOf_93), (h_inn_bed, aI E 3 v_inn_bed), (h_trial_roomOf, aI E 3 v_trial_roomOf_93), (h_trial_handOf, aI E 3 v_trial_handOf_93), (h_trial_awake, aZ E 3 v_trial_awake_93), (h_trial_how, aI E 10 v_trial_how_93), (h_trial_passed, aI E 10 v_trial_passed_93), (h_inn_states, aI E 64 v_inn_states), (h_inn_house_creak, aI E 8 v_inn_house_creak), (h_inn_listensIn, aI E 3 v_inn_listensIn), (h_inn_house_ways, .inr (8, [.ref h_inn_house_ways_steps, .int v_inn_house_ways_rooms])), (h_inn_house_ways_steps, aI E 64 v_inn_house_ways_steps), (h_inn_house_cold, aZ E 8 v_inn_house_cold), (h_inn_house_falls, aZ E 10 v_inn_house_falls), (h_plain, .inr (3, [.ref h_plain_rows])), (h_plain_rows, aJ E 256 v_plain_rows_105), (h_kin, aI E 1344 (upd x58a_kin ((x2_3 * 64) + x58a_5).toNatClampNeg r_123)), (h_set, .inr (3, [.ref h_set_rows])), (h_set_rows, aJ E 256 x58a_set_rows)]) C hP hD hS 33 rfl hi_126 rfl dX0_tryOut_126 ?_
                  clear hP hD hS; intro H locs hP hD hS
                  refine lv_iinc (pc := 127) (v := x58a_5 + 1) (lv' := [(5, .int (x58a_5 + 1)), (0, .ref h), (2, .int p1), (3, .int x2_3), (4, .ref h_plain)]) hx hb dX0_tryOut_127 hl (k := 4) rfl rfl (by decide) rfl (fun ls hl => ?_)
                  refine lv_goto (pc := 130) (tgt := 58) hx hb dX0_tryOut_130 (by decide) ?_
                  exact ih58a (x58a_5 + 1) v_trial_been_93 v_trial_thingIn_93 v_trial_full_93 v_trial_heardBy_93 v_trial_dreamOf_79 v_trial_stateOf_93 v_trial_roomOf_93 v_trial_handOf_93 v_trial_awake_93 v_trial_how_93 v_trial_passed_93 v_plain_rows_105 (upd x58a_kin ((x2_3 * 64) + x58a_5).toNatClampNeg r_123) x58a_set_rows hf _ _ _ (lv_sub hl [1, 2, 3, 4, 0] rfl) hP hD hS
            exact key58a _ 0 x2_trial_been x2_trial_thingIn x2_trial_full x2_trial_heardBy x2_trial_dreamOf x2_trial_stateOf x2_trial_roomOf x2_trial_handOf x2_trial_awake x2_trial_how x2_trial_passed x2_plain_rows x2_kin x2_set_rows hf _ _ _ (lv_sub hl [2, 3, 4, 1, 0] rfl) hP hD hS
        · replace hf := it_f c_13 hf
          refine lv_goto (pc := 16) (tgt := 133) hx hb dX0_tryOut_16 (by decide) ?_
          exact hj133 x2_tried x2_trial_inn x2_trial_setting x2_trial_been x2_trial_ways_rooms x2_trial_ways_steps x2_trial_thingIn x2_trial_full x2_trial_heardBy x2_trial_dreamOf x2_trial_stateOf x2_trial_roomOf x2_trial_handOf x2_trial_awake x2_trial_how x2_trial_passed x2_plain_rows x2_kin x2_set_rows hf _ _ _ (lv_sub hl [0, 1, 2] rfl) hP hD hS
  exact key2 _ p0 v_tried v_trial_inn v_trial_setting v_trial_been v_trial_ways_rooms v_trial_ways_steps v_trial_thingIn v_trial_full v_trial_heardBy v_trial_dreamOf v_trial_stateOf v_trial_roomOf v_trial_handOf v_trial_awake v_trial_how v_trial_passed v_plain_rows v_kin v_set_rows hf _ _ _ (lv_sub hl [1, 3, 0] rfl) hP hD hS
def wX10_answer (E : EN) (h h_reader h_inn h_chosen h_night h_marks h_notes h_casts : Nat) (v_marked : Int32) (v_refusal : Int32) (v_latestFault : Int32) (v_faultPlace : Int32) : va_W := [(h, .inr (9, [.ref h_reader, .ref h_inn, .ref h_chosen, .ref h_night, .ref h_marks, .int v_marked, .ref h_notes, .ref h_casts, .int v_refusal, .int v_latestFault, .int v_faultPlace]))]
def fX10_answer (N : Nat) (p0 : Int32) : Option (Int32 × Int32) := some (p0, 0)
set_option maxHeartbeats 4000000 in
set_option maxRecDepth 100000 in
theorem ctX10_answer (l : Launch) (E : EN) (h h_reader h_inn h_chosen h_night h_marks h_notes h_casts : Nat) (v_marked : Int32) (v_refusal : Int32) (v_latestFault : Int32) (v_faultPlace : Int32) (N : Nat) (p0 : Int32) (z : Int32 × Int32) (hf : fX10_answer N p0 = some z) : CTi l E yX10_answer cX10_answer 2 .int 0 0 [.ref h, .int p0] (wX10_answer E h h_reader h_inn h_chosen h_night h_marks h_notes h_casts v_marked v_refusal v_latestFault v_faultPlace) (z.1) (wX10_answer E h h_reader h_inn h_chosen h_night h_marks h_notes h_casts v_marked z.2 v_latestFault v_faultPlace) := by
  intro sz
  refine ct_body (by decide) (Nat.le_of_ble_eq_true rfl) ?_
  intro p e s m args below meth c A ls hAe C hr hin hP hD hS hl
  have C : CX p s m args meth c cX10_answer RX10 2 E A := C
  have hl : lv_has ls 2 [(0, .ref h), (1, .int p0)] := hl
  have hx := C.1
  have hb := C.2.1
  rw [hAe]
  clear hAe
  obtain ⟨Q, hQ⟩ : ∃ Q, Q = MQ below (Qi E A (z.1) (wX10_answer E h h_reader h_inn h_chosen h_night h_marks h_notes h_casts v_marked z.2 v_latestFault v_faultPlace)) args s 0 0 A := ⟨_, rfl⟩
  rw [← hQ]
  unfold fX10_answer at hf
  refine lv_aload_n (pc := 0) hx hb dX10_answer_0 rfl (lv_at hl 0 rfl) ?_
  refine lv_iconst (pc := 1) (v := 0) hx hb dX10_answer_1 (by decide) ?_
  refine r_put (pc := 2) (ws' := (wX10_answer E h h_reader h_inn h_chosen h_night h_marks h_notes h_casts v_marked 0 v_latestFault v_faultPlace)) C hP hD hS 0 rfl fl_X10_98 rfl rfl (Nat.le_of_ble_eq_true rfl) rfl dX10_answer_2 ?_
  clear hP hD hS; intro H locs hP hD hS
  refine lv_iload_n (pc := 5) hx hb dX10_answer_5 rfl (lv_at hl 1 rfl) ?_
  cases hf
  rw [hQ]
  exact r_iret C hr hP hD hS rfl dX10_answer_6
